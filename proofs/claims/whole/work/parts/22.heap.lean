theorem aw_arrI : Cond.arrayClass (newarray.typeOf .int) ∈ gw := gw_t 126 (by decide +kernel) rfl
theorem aw_arrZ : Cond.arrayClass (newarray.typeOf .boolean) ∈ gw := gw_t 1242 (by decide +kernel) rfl
theorem aw_arrB : Cond.arrayClass (newarray.typeOf .byte) ∈ gw := gw_t 274 (by decide +kernel) rfl
theorem aw_arrL : Cond.arrayClass (newarray.typeOf .long) ∈ gw := gw_t 1508 (by decide +kernel) rfl
section RUH
variable {G : aG} {My : MethodName} {Mc : ByteArray} {Ml : Nat} {Mr : Option FieldType} {d mc ms : Nat} {F : FT} {pc pc2 tgt : Nat} {lv lv2 : List (Nat × Value)} {st : List Value} {w : aH} {k n : Nat} {nx t : Nat} {h : Nat → Option aC}

theorem aw_if_eq {x : Int32} (hd : BR Mc pc (.ifCond .eq) tgt pc2) (kt : x = 0 → AW G (My, Mc, Ml, Mr) d mc ms F tgt lv st w k n) (kf : ¬ x = 0 → AW G (My, Mc, Ml, Mr) d mc ms F pc2 lv st w k n) : AW G (My, Mc, Ml, Mr) d mc ms F pc lv (.int x :: st) w k n := by
  obtain ⟨off, hd, ht, rfl⟩ := hd
  exact fun p l e R s m args below meth c H locs ls X hR hl => lv_if_eq X.1 X.2.1 hd ht (fun q => kt q p l e R s m args below meth c H locs ls X hR hl) (fun q => kf q p l e R s m args below meth c H locs ls X hR hl)
theorem aw_icmp_eq {x y : Int32} (hd : BR Mc pc (.if_icmp .eq) tgt pc2) (kt : x = y → AW G (My, Mc, Ml, Mr) d mc ms F tgt lv st w k n) (kf : ¬ x = y → AW G (My, Mc, Ml, Mr) d mc ms F pc2 lv st w k n) : AW G (My, Mc, Ml, Mr) d mc ms F pc lv (.int y :: .int x :: st) w k n := by
  obtain ⟨off, hd, ht, rfl⟩ := hd
  exact fun p l e R s m args below meth c H locs ls X hR hl => lv_icmp_eq X.1 X.2.1 hd ht (fun q => kt q p l e R s m args below meth c H locs ls X hR hl) (fun q => kf q p l e R s m args below meth c H locs ls X hR hl)
theorem aw_if_ne {x : Int32} (hd : BR Mc pc (.ifCond .ne) tgt pc2) (kt : ¬ x = 0 → AW G (My, Mc, Ml, Mr) d mc ms F tgt lv st w k n) (kf : x = 0 → AW G (My, Mc, Ml, Mr) d mc ms F pc2 lv st w k n) : AW G (My, Mc, Ml, Mr) d mc ms F pc lv (.int x :: st) w k n := by
  obtain ⟨off, hd, ht, rfl⟩ := hd
  exact fun p l e R s m args below meth c H locs ls X hR hl => lv_if_ne X.1 X.2.1 hd ht (fun q => kt q p l e R s m args below meth c H locs ls X hR hl) (fun q => kf q p l e R s m args below meth c H locs ls X hR hl)
theorem aw_icmp_ne {x y : Int32} (hd : BR Mc pc (.if_icmp .ne) tgt pc2) (kt : ¬ x = y → AW G (My, Mc, Ml, Mr) d mc ms F tgt lv st w k n) (kf : x = y → AW G (My, Mc, Ml, Mr) d mc ms F pc2 lv st w k n) : AW G (My, Mc, Ml, Mr) d mc ms F pc lv (.int y :: .int x :: st) w k n := by
  obtain ⟨off, hd, ht, rfl⟩ := hd
  exact fun p l e R s m args below meth c H locs ls X hR hl => lv_icmp_ne X.1 X.2.1 hd ht (fun q => kt q p l e R s m args below meth c H locs ls X hR hl) (fun q => kf q p l e R s m args below meth c H locs ls X hR hl)
theorem aw_if_lt {x : Int32} (hd : BR Mc pc (.ifCond .lt) tgt pc2) (kt : x < 0 → AW G (My, Mc, Ml, Mr) d mc ms F tgt lv st w k n) (kf : ¬ x < 0 → AW G (My, Mc, Ml, Mr) d mc ms F pc2 lv st w k n) : AW G (My, Mc, Ml, Mr) d mc ms F pc lv (.int x :: st) w k n := by
  obtain ⟨off, hd, ht, rfl⟩ := hd
  exact fun p l e R s m args below meth c H locs ls X hR hl => lv_if_lt X.1 X.2.1 hd ht (fun q => kt q p l e R s m args below meth c H locs ls X hR hl) (fun q => kf q p l e R s m args below meth c H locs ls X hR hl)
theorem aw_icmp_lt {x y : Int32} (hd : BR Mc pc (.if_icmp .lt) tgt pc2) (kt : x < y → AW G (My, Mc, Ml, Mr) d mc ms F tgt lv st w k n) (kf : ¬ x < y → AW G (My, Mc, Ml, Mr) d mc ms F pc2 lv st w k n) : AW G (My, Mc, Ml, Mr) d mc ms F pc lv (.int y :: .int x :: st) w k n := by
  obtain ⟨off, hd, ht, rfl⟩ := hd
  exact fun p l e R s m args below meth c H locs ls X hR hl => lv_icmp_lt X.1 X.2.1 hd ht (fun q => kt q p l e R s m args below meth c H locs ls X hR hl) (fun q => kf q p l e R s m args below meth c H locs ls X hR hl)
theorem aw_if_ge {x : Int32} (hd : BR Mc pc (.ifCond .ge) tgt pc2) (kt : 0 ≤ x → AW G (My, Mc, Ml, Mr) d mc ms F tgt lv st w k n) (kf : ¬ 0 ≤ x → AW G (My, Mc, Ml, Mr) d mc ms F pc2 lv st w k n) : AW G (My, Mc, Ml, Mr) d mc ms F pc lv (.int x :: st) w k n := by
  obtain ⟨off, hd, ht, rfl⟩ := hd
  exact fun p l e R s m args below meth c H locs ls X hR hl => lv_if_ge X.1 X.2.1 hd ht (fun q => kt q p l e R s m args below meth c H locs ls X hR hl) (fun q => kf q p l e R s m args below meth c H locs ls X hR hl)
theorem aw_icmp_ge {x y : Int32} (hd : BR Mc pc (.if_icmp .ge) tgt pc2) (kt : y ≤ x → AW G (My, Mc, Ml, Mr) d mc ms F tgt lv st w k n) (kf : ¬ y ≤ x → AW G (My, Mc, Ml, Mr) d mc ms F pc2 lv st w k n) : AW G (My, Mc, Ml, Mr) d mc ms F pc lv (.int y :: .int x :: st) w k n := by
  obtain ⟨off, hd, ht, rfl⟩ := hd
  exact fun p l e R s m args below meth c H locs ls X hR hl => lv_icmp_ge X.1 X.2.1 hd ht (fun q => kt q p l e R s m args below meth c H locs ls X hR hl) (fun q => kf q p l e R s m args below meth c H locs ls X hR hl)
theorem aw_if_gt {x : Int32} (hd : BR Mc pc (.ifCond .gt) tgt pc2) (kt : 0 < x → AW G (My, Mc, Ml, Mr) d mc ms F tgt lv st w k n) (kf : ¬ 0 < x → AW G (My, Mc, Ml, Mr) d mc ms F pc2 lv st w k n) : AW G (My, Mc, Ml, Mr) d mc ms F pc lv (.int x :: st) w k n := by
  obtain ⟨off, hd, ht, rfl⟩ := hd
  exact fun p l e R s m args below meth c H locs ls X hR hl => lv_if_gt X.1 X.2.1 hd ht (fun q => kt q p l e R s m args below meth c H locs ls X hR hl) (fun q => kf q p l e R s m args below meth c H locs ls X hR hl)
theorem aw_icmp_gt {x y : Int32} (hd : BR Mc pc (.if_icmp .gt) tgt pc2) (kt : y < x → AW G (My, Mc, Ml, Mr) d mc ms F tgt lv st w k n) (kf : ¬ y < x → AW G (My, Mc, Ml, Mr) d mc ms F pc2 lv st w k n) : AW G (My, Mc, Ml, Mr) d mc ms F pc lv (.int y :: .int x :: st) w k n := by
  obtain ⟨off, hd, ht, rfl⟩ := hd
  exact fun p l e R s m args below meth c H locs ls X hR hl => lv_icmp_gt X.1 X.2.1 hd ht (fun q => kt q p l e R s m args below meth c H locs ls X hR hl) (fun q => kf q p l e R s m args below meth c H locs ls X hR hl)
theorem aw_if_le {x : Int32} (hd : BR Mc pc (.ifCond .le) tgt pc2) (kt : x ≤ 0 → AW G (My, Mc, Ml, Mr) d mc ms F tgt lv st w k n) (kf : ¬ x ≤ 0 → AW G (My, Mc, Ml, Mr) d mc ms F pc2 lv st w k n) : AW G (My, Mc, Ml, Mr) d mc ms F pc lv (.int x :: st) w k n := by
  obtain ⟨off, hd, ht, rfl⟩ := hd
  exact fun p l e R s m args below meth c H locs ls X hR hl => lv_if_le X.1 X.2.1 hd ht (fun q => kt q p l e R s m args below meth c H locs ls X hR hl) (fun q => kf q p l e R s m args below meth c H locs ls X hR hl)
theorem aw_icmp_le {x y : Int32} (hd : BR Mc pc (.if_icmp .le) tgt pc2) (kt : x ≤ y → AW G (My, Mc, Ml, Mr) d mc ms F tgt lv st w k n) (kf : ¬ x ≤ y → AW G (My, Mc, Ml, Mr) d mc ms F pc2 lv st w k n) : AW G (My, Mc, Ml, Mr) d mc ms F pc lv (.int y :: .int x :: st) w k n := by
  obtain ⟨off, hd, ht, rfl⟩ := hd
  exact fun p l e R s m args below meth c H locs ls X hR hl => lv_icmp_le X.1 X.2.1 hd ht (fun q => kt q p l e R s m args below meth c H locs ls X hR hl) (fun q => kf q p l e R s m args below meth c H locs ls X hR hl)
theorem aw_goto (hd : BR Mc pc .goto tgt pc2) (kk : AW G (My, Mc, Ml, Mr) d mc ms F tgt lv st w k n) : AW G (My, Mc, Ml, Mr) d mc ms F pc lv st w k n := by
  obtain ⟨off, hd, ht, -⟩ := hd
  exact fun p l e R s m args below meth c H locs ls X hR hl => lv_goto X.1 X.2.1 hd ht (kk p l e R s m args below meth c H locs ls X hR hl)
theorem aw_tsw {x : Int32} {tgs : List Nat} {dfl : Nat} (hd : TSW Mc pc tgs dfl) (kk : ∀ j t : Nat, x = nI j → tgs[j]? = some t → AW G (My, Mc, Ml, Mr) d mc ms F t lv st w k n) (kd : (∀ j : Nat, j < tgs.length → ¬ x = nI j) → AW G (My, Mc, Ml, Mr) d mc ms F dfl lv st w k n) : AW G (My, Mc, Ml, Mr) d mc ms F pc lv (.int x :: st) w k n := by
  obtain ⟨df, hi, offs, len, hd, h1, h2, h3, h4⟩ := hd
  intro p l e R s m args below meth c H locs ls X hR hl
  by_cases hin : 0 ≤ x.toInt ∧ x.toInt < (tgs.length : Int)
  · obtain ⟨j, hj⟩ : ∃ j : Nat, x.toInt = (j : Int) := ⟨x.toInt.toNat, by omega⟩
    have hjl : j < tgs.length := by omega
    have ex : x = nI j := by
      apply Int32.toInt_inj.mp
      rw [hj, nI_toInt (by omega)]
    have hl3 : offs.toList.length = tgs.length := by have := congrArg List.length h3; simpa using this
    have e3 := congrArg (fun q => q[j]?) h3
    simp only [List.getElem?_map] at e3
    obtain ⟨t, ht⟩ : ∃ t, tgs[j]? = some t := ⟨tgs[j], List.getElem?_eq_getElem hjl⟩
    obtain ⟨oo, ho⟩ : ∃ t, offs.toList[j]? = some t := ⟨offs.toList[j]'(by omega), List.getElem?_eq_getElem (by omega)⟩
    rw [ht, ho] at e3
    have e4 : (pc : Int) + oo = (t : Int) := Option.some.inj e3
    refine lv_tableIn X.1 X.2.1 hd (by omega) (by omega) (off := oo) ?_ e4 (kk j t ex ht p l e R s m args below meth c H locs ls X hR hl)
    rw [hj, ← Array.getElem?_toList]
    have : ((j : Int) - 0).toNat = j := by omega
    rw [this]; exact ho
  · exact lv_tableOut X.1 X.2.1 hd (by omega) h1 (kd (fun j hj e => hin (by rw [e, nI_toInt (by omega)]; omega)) p l e R s m args below meth c H locs ls X hR hl)
/-- classes, fields, by the words -/
def CK (ci : Nat) (r : vw_C) : Prop := cls[ci]? = some r ∧ (∀ w ∈ u_ws r.1 r.2.1 r.2.2, w ∈ gw) ∧ (∀ k, k < r.2.2 → parseFieldDescriptor (r.2.1 k).2.2.1 = some (cty ci k)) ∧ (∀ a, a < r.2.2 → ∀ b, b < r.2.2 → a ≠ b → (r.2.1 a).2.1 ≠ (r.2.1 b).2.1)
def FLk (own : String) (idx : Nat) (q : String × String × String × Bool) : Prop := ∃ ref : String, (Cond.fieldLink own idx ref q.2.1 q.2.2.1 ∈ gw ∨ ∃ host, Cond.fieldLinkNest own idx ref q.2.1 q.2.2.1 host ∈ nws) ∧ (ref = q.1 ∨ Cond.sameField ref q.1 q.2.1 q.2.2.1 ∈ gw)
def FL (own : String) (idx ci f : Nat) : Prop := ∃ r : vw_C, CK ci r ∧ f < r.2.2 ∧ FLk own idx (r.2.1 f)
def PL (own : String) (idx ci f : Nat) (fin : Bool) : Prop := ∃ r : vw_C, CK ci r ∧ f < r.2.2 ∧ FLk own idx (r.2.1 f) ∧ (r.2.1 f).2.2.2 = fin ∧ (fin = true → (r.2.1 f).1 = own ∧ Cond.fieldLink own idx own (r.2.1 f).2.1 (r.2.1 f).2.2.1 ∈ gw)
theorem fl_same {own : String} {s : State} {args : Array Value} {ref : String} {q : String × String × String × Bool} (hts : ∀ w ∈ gw, w.before args s = true) (h : ref = q.1 ∨ Cond.sameField ref q.1 q.2.1 q.2.2.1 ∈ gw) : ∀ x, s.fieldFound? q.1 q.2.1 q.2.2.1 = some x → s.fieldFound? ref q.2.1 q.2.2.1 = some x := by
  rcases h with rfl | h
  · exact fun _ h => h
  · exact fun x hx => u_same (hts _ h) x hx
theorem aw_get {idx ci f a : Nat} {fs : List Value} {v : Value} (hd : DN Mc pc (.getfield idx) 3 pc2) (hf : FL My.cls idx ci f) (ha : w.2 a = some (t, .inr (ci, fs))) (hv : fs[f]? = some v) (kk : AW G (My, Mc, Ml, Mr) d mc ms F pc2 lv (v :: st) w k n) : AW G (My, Mc, Ml, Mr) d mc ms F pc lv (.ref a :: st) w k n := by
  obtain ⟨hd, rfl⟩ := hd
  obtain ⟨r, ⟨hc, hin, hty, hnm⟩, hlt, ref, hlk, hsm⟩ := hf
  intro p l e R s m args below meth c H locs ls X hR hl
  have hts := X.2.2.2.2.1
  have hK := X.2.2.2.2.2.2.2.2.1
  have hv2 : (fs.map (tv G))[f]? = some (tv G v) := by simp [hv]
  rcases hlk with h1 | ⟨host, h1⟩
  · exact va_get (C := r.1) (T := r.2.1) (N := r.2.2) (fs := fs.map (tv G)) X.1 X.2.1 hts hin X.2.2.2.1 hK.1 (hR.at ha) 0 rfl hc f hlt (hts _ h1) (fl_same (own := ref) hts hsm) hv2 hd (kk p l e R s m args below meth c H locs ls X hR hl)
  · exact va_getN (C := r.1) (T := r.2.1) (N := r.2.2) (fs := fs.map (tv G)) X.1 X.2.1 hts hin X.2.2.2.1 hK.1 (hR.at ha) 0 rfl hc f hlt (va_Nw.use rfl (hK.2.1 _ h1)) (fl_same (own := ref) hts hsm) hv2 hd (kk p l e R s m args below meth c H locs ls X hR hl)
theorem tv_nar {ty : FieldType} {v : Value} (h : narrow ty v = v) : narrow ty (tv G v) = tv G v := by
  cases v <;> first | exact h | (cases ty <;> rfl)
theorem tv_fit {ty : FieldType} {v : Value} (h : fits ty v = true) : fits ty (tv G v) = true := by
  cases v <;> first | exact h | (cases ty <;> first | rfl | exact h)
theorem tv_set (fs : List Value) (f : Nat) (v : Value) : (fs.set f v).map (tv G) = (fs.map (tv G)).set f (tv G v) := by simp [List.map_set]
def axS {d mc ms : Nat} {p : Program} {R : Room} {s : State} {m : MethodId} {args : Array Value} {meth : Method} {c : Code} {H H1 : Heap} {locs locs1 : List Loc} (X : AX G (My, Mc, Ml, Mr) d mc ms p R s m args meth c H locs) (hS : va_S (gA G) s.heap H1 locs1) : AX G (My, Mc, Ml, Mr) d mc ms p R s m args meth c H1 locs1 :=
  ⟨X.1, X.2.1, X.2.2.1, X.2.2.2.1, X.2.2.2.2.1, X.2.2.2.2.2.1, X.2.2.2.2.2.2.1, X.2.2.2.2.2.2.2.1, X.2.2.2.2.2.2.2.2.1, hS, X.2.2.2.2.2.2.2.2.2.2⟩
theorem aw_put {idx ci f a : Nat} {fs : List Value} {v : Value} (hd : DN Mc pc (.putfield idx) 3 pc2) (hf : PL My.cls idx ci f false) (ha : h a = some (t, .inr (ci, fs))) (hl0 : f < fs.length) (hn : narrow (cty ci f) v = v) (hfit : fits (cty ci f) v = true) (kk : AW G (My, Mc, Ml, Mr) d mc ms F pc2 lv st (nx, hset h a (t, .inr (ci, fs.set f v))) k n) : AW G (My, Mc, Ml, Mr) d mc ms F pc lv (v :: .ref a :: st) (nx, h) k n := by
  obtain ⟨hd, rfl⟩ := hd
  obtain ⟨r, ⟨hc, hin, hty, hnm⟩, hlt, ⟨ref, hlk, hsm⟩, hfin, -⟩ := hf
  intro p l e R s m args below meth c H locs ls X hR hl
  have hts := X.2.2.2.2.1
  have hK := X.2.2.2.2.2.2.2.2.1
  have hS := X.2.2.2.2.2.2.2.2.2.1
  have hap := va_apart (own := My.cls) hts hin (cty ci) hty hnm hK.1 (cl := cls) (ci := ci) (C := r.1) (T := r.2.1) (N := r.2.2) hc
  obtain ⟨r', h1, cell, q1, q2, q3, q4⟩ := (hR.2.2 a _ ha).2.2
  have e0 : r' = r := Option.some.inj (h1.symm.trans hc)
  subst e0
  obtain ⟨hSl, hfc, kC, hkC, hkind⟩ := hK.1.1 ci _ hc
  obtain ⟨cf, kf, fi, fd, hi, hsl⟩ := hSl f hlt
  have hlay := hts _ (hin _ (u_in_lay hlt))
  unfold u_lay at hlay
  rw [if_neg (by rw [hfin]; decide)] at hlay
  have hst := (u_facts hfc hkC (u_lays hts hin hlt) hi).1
  have h6 := u_store hfc hkC hkind hlay hi (hty f hlt) (tv_nar (G := G) hn) (tv_fit (G := G) hfit)
  have fin : ∀ H' : Heap, H'[ta G a]? = some (cell.setSlot fd.slot (tv G v)) → H'.size = H.size → (∀ q, q ≠ ta G a → H'[q]? = H[q]?) → W p l e R s m args below meth c H' (locs ++ [⟨ta G a, fd.slot⟩]) k n (F below args s) (F0 m (pc + 3) ls (st.map (tv G))) := by
    intro H' e1 e2 e3
    rw [hsl] at e1
    refine kk p l e R s m args below meth c H' _ ls (axS X (hS.put e2 e3 (ta_A (hR.ge ha)))) (Rel.set hR ha e2 e3 ?_) hl
    refine ⟨_, hc, t_OB.to (V := updV (vp_V (fs.map (tv G))) f (tv G v)) ⟨_, e1, q2, q3, t_set q4 hap hlt _⟩ (fun j _ => ?_)⟩
    rw [vp_updV_set (by simpa using hl0), ← tv_set]
  rcases hlk with h1 | ⟨host, h1⟩
  · exact W.putK X.1 X.2.1 (f := fd) ⟨X.2.2.2.1, hts _ h1, ⟨_, _, _, fl_same (own := ref) hts hsm _ hi⟩, hst⟩ (by rw [q2]; exact h6) q1 q3 (by rw [hsl]; exact k2_hasslot (q4 f hlt)) rfl rfl hd fin
  · exact va_WputK X.1 X.2.1 (f := fd) X.2.2.2.1 (va_Nw.use rfl (hK.2.1 _ h1)) (fl_same (own := ref) hts hsm _ hi) hst (by rw [q2]; exact h6) q1 q3 (by rw [hsl]; exact k2_hasslot (q4 f hlt)) rfl rfl hd fin
theorem aw_putF {idx ci f a : Nat} {fs : List Value} {v : Value} (hd : DN Mc pc (.putfield idx) 3 pc2) (hf : PL My.cls idx ci f true) (hin2 : My.name = "<init>") (ha : h a = some (t, .inr (ci, fs))) (hl0 : f < fs.length) (hn : narrow (cty ci f) v = v) (hfit : fits (cty ci f) v = true) (kk : AW G (My, Mc, Ml, Mr) d mc ms F pc2 lv st (nx, hset h a (t, .inr (ci, fs.set f v))) k n) : AW G (My, Mc, Ml, Mr) d mc ms F pc lv (v :: .ref a :: st) (nx, h) k n := by
  obtain ⟨hd, rfl⟩ := hd
  obtain ⟨r, ⟨hc, hin, hty, hnm⟩, hlt, ⟨ref, hlk, hsm⟩, hfin, hdk⟩ := hf
  obtain ⟨hdecl, hlink⟩ := hdk rfl
  intro p l e R s m args below meth c H locs ls X hR hl
  have hts := X.2.2.2.2.1
  have hK := X.2.2.2.2.2.2.2.2.1
  have hS := X.2.2.2.2.2.2.2.2.2.1
  have hap := va_apart (own := My.cls) hts hin (cty ci) hty hnm hK.1 (cl := cls) (ci := ci) (C := r.1) (T := r.2.1) (N := r.2.2) hc
  obtain ⟨r', h1, cell, q1, q2, q3, q4⟩ := (hR.2.2 a _ ha).2.2
  have e0 : r' = r := Option.some.inj (h1.symm.trans hc)
  subst e0
  obtain ⟨hSl, hfc, kC, hkC, hkind⟩ := hK.1.1 ci _ hc
  obtain ⟨cf, kf, fi, fd, hi, hsl⟩ := hSl f hlt
  have hlay := hts _ (hin _ (u_in_lay hlt))
  unfold u_lay at hlay
  rw [if_pos hfin] at hlay
  have hst := (u_facts hfc hkC (u_lays hts hin hlt) hi).1
  have hcf : m.cls = cf := by
    obtain ⟨_, _, c', _, _, _, -, -, hf', -, -, -, hown2, -⟩ := Cond.laysFinal_spec hlay
    have e1 : c' = cf := by have := hi.symm.trans hf'; simp at this; exact this.1.symm
    rw [hdecl] at hown2
    rw [← e1]; exact Option.some.inj (X.2.2.2.1.symm.trans hown2)
  have h6 := u_fits hfc hkC hkind (Or.inr hlay) hi (hty f hlt) (tv_nar (G := G) hn) (tv_fit (G := G) hfit)
  have hi2 : s.fieldFound? My.cls (r'.2.1 f).2.1 (r'.2.1 f).2.2.1 = some (cf, kf, fi, fd) := by rw [← hdecl]; exact hi
  refine W.putFinK X.1 X.2.1 X.2.2.2.1 (hts _ hlink) hi2 hst hcf (by rw [X.2.2.2.2.2.2.2.1]; exact hin2) (by rw [q2]; exact h6) q1 q3 (by rw [hsl]; exact k2_hasslot (q4 f hlt)) rfl rfl hd fun H' e1 e2 e3 => ?_
  rw [hsl] at e1
  refine kk p l e R s m args below meth c H' _ ls (axS X (hS.put e2 e3 (ta_A (hR.ge ha)))) (Rel.set hR ha e2 e3 ?_) hl
  refine ⟨_, hc, t_OB.to (V := updV (vp_V (fs.map (tv G))) f (tv G v)) ⟨_, e1, q2, q3, t_set q4 hap hlt _⟩ (fun j _ => ?_)⟩
  rw [vp_updV_set (by simpa using hl0), ← tv_set]
theorem aw_iaload {a N : Nat} {f : Nat → Int32} {i : Int32} (hd : DN Mc pc .iaload 1 pc2) (ha : w.2 a = some (cI t N f)) (hin : vp_in i N) (kk : AW G (My, Mc, Ml, Mr) d mc ms F pc2 lv (.int (f i.toNatClampNeg) :: st) w k n) : AW G (My, Mc, Ml, Mr) d mc ms F pc lv (.int i :: .ref a :: st) w k n := by
  obtain ⟨hd, rfl⟩ := hd
  exact fun p l e R s m args below meth c H locs ls X hR hl => va_iald X.1 X.2.1 X.2.2.2.2.2.2.2.2.1.1 (hR.at ha) 0 0 rfl rfl hin hd (kk p l e R s m args below meth c H locs ls X hR hl)
theorem aw_baloadZ {a N : Nat} {f : Nat → Int32} {i : Int32} (hd : DN Mc pc .baload 1 pc2) (ha : w.2 a = some (cZ t N f)) (hin : vp_in i N) (kk : AW G (My, Mc, Ml, Mr) d mc ms F pc2 lv (.int (f i.toNatClampNeg) :: st) w k n) : AW G (My, Mc, Ml, Mr) d mc ms F pc lv (.int i :: .ref a :: st) w k n := by
  obtain ⟨hd, rfl⟩ := hd
  exact fun p l e R s m args below meth c H locs ls X hR hl => va_zald X.1 X.2.1 X.2.2.2.2.2.2.2.2.1.1 (hR.at ha) 0 1 rfl rfl hin hd (kk p l e R s m args below meth c H locs ls X hR hl)
theorem aw_baload {a N : Nat} {f : Nat → Int32} {i : Int32} (hd : DN Mc pc .baload 1 pc2) (ha : w.2 a = some (cB t N f)) (hin : vp_in i N) (kk : AW G (My, Mc, Ml, Mr) d mc ms F pc2 lv (.int (f i.toNatClampNeg) :: st) w k n) : AW G (My, Mc, Ml, Mr) d mc ms F pc lv (.int i :: .ref a :: st) w k n := by
  obtain ⟨hd, rfl⟩ := hd
  exact fun p l e R s m args below meth c H locs ls X hR hl => va_bald X.1 X.2.1 X.2.2.2.2.2.2.2.2.1.1 (hR.at ha) 0 2 rfl rfl hin hd (kk p l e R s m args below meth c H locs ls X hR hl)
theorem aw_laload {a N : Nat} {f : Nat → Int64} {i : Int32} (hd : DN Mc pc .laload 1 pc2) (ha : w.2 a = some (cL t N f)) (hin : vp_in i N) (kk : AW G (My, Mc, Ml, Mr) d mc ms F pc2 lv (.long (f i.toNatClampNeg) :: st) w k n) : AW G (My, Mc, Ml, Mr) d mc ms F pc lv (.int i :: .ref a :: st) w k n := by
  obtain ⟨hd, rfl⟩ := hd
  exact fun p l e R s m args below meth c H locs ls X hR hl => va_lald X.1 X.2.1 X.2.2.2.2.2.2.2.2.1.1 (hR.at ha) 0 3 rfl rfl hin hd (kk p l e R s m args below meth c H locs ls X hR hl)
theorem tv_rf (r : Option Nat) : tv G (va_rf r) = va_rf (r.map (ta G)) := by cases r <;> rfl
theorem aw_aaload {a N : Nat} {f : Nat → Option Nat} {i : Int32} (hd : DN Mc pc .aaload 1 pc2) (ha : w.2 a = some (cO t N f)) (hin : vp_in i N) (kk : AW G (My, Mc, Ml, Mr) d mc ms F pc2 lv (va_rf (f i.toNatClampNeg) :: st) w k n) : AW G (My, Mc, Ml, Mr) d mc ms F pc lv (.int i :: .ref a :: st) w k n := by
  obtain ⟨hd, rfl⟩ := hd
  intro p l e R s m args below meth c H locs ls X hR hl
  have := kk p l e R s m args below meth c H locs ls X hR hl
  simp only [List.map_cons, tv_rf] at this
  exact va_aldq X.1 X.2.1 X.2.2.2.2.2.2.2.2.1.1 (hR.at ha) 0 4 rfl rfl hin hd this
theorem tp_len (x : vp_A) : (tp G x).1 = x.1 := by
  obtain ⟨N, f | f | f | f | f⟩ := x <;> rfl
theorem aw_alen {a ti N : Nat} {x : ((Nat → Int32) ⊕ (Nat → Int64) ⊕ (Nat → UInt32) ⊕ (Nat → UInt64) ⊕ (Nat → Option Nat))} (hd : DN Mc pc .arraylength 1 pc2) (ha : w.2 a = some (t, .inl (ti, N, x))) (hti : ti < 5) (kk : AW G (My, Mc, Ml, Mr) d mc ms F pc2 lv (.int (nI N) :: st) w k n) : AW G (My, Mc, Ml, Mr) d mc ms F pc lv (.ref a :: st) w k n := by
  obtain ⟨hd, rfl⟩ := hd
  intro p l e R s m args below meth c H locs ls X hR hl
  obtain ⟨ty, hty⟩ : ∃ ty, (gT G)[ti]? = some (gC G ti, ty) := by
    match ti, hti with
    | 0, _ => exact ⟨_, rfl⟩
    | 1, _ => exact ⟨_, rfl⟩
    | 2, _ => exact ⟨_, rfl⟩
    | 3, _ => exact ⟨_, rfl⟩
    | 4, _ => exact ⟨_, rfl⟩
    | j + 5, q => omega
  exact va_alen X.1 X.2.1 X.2.2.2.2.2.2.2.2.1.1 (hR.at ha) 0 ti rfl hty (v := nI N) (by rw [tp_len]; rfl) hd (kk p l e R s m args below meth c H locs ls X hR hl)
theorem aw_alenE (hd : DN Mc pc .arraylength 1 pc2) (kk : AW G (My, Mc, Ml, Mr) d mc ms F pc2 lv (.int 0 :: st) w k n) : AW G (My, Mc, Ml, Mr) d mc ms F pc lv (.ref 0 :: st) w k n := by
  obtain ⟨hd, rfl⟩ := hd
  intro p l e R s m args below meth c H locs ls X hR hl
  obtain ⟨cell, h1, h2, h3, h4, h5, h6, h7⟩ := X.2.2.2.2.2.2.2.2.1.2.2.2.1
  have hS := X.2.2.2.2.2.2.2.2.2.1
  exact W.alen (n := 0) X.1 X.2.1 (by show H[gE G]? = _; rw [hS.2.1 _ (Array.getElem?_eq_some_iff.mp h1).1 h7]; exact h1) h2 h5 rfl rfl hd (kk p l e R s m args below meth c H locs ls X hR hl)
theorem aw_iastore {a N : Nat} {f : Nat → Int32} {i : Int32} {x : Int32} (hd : DN Mc pc .iastore 1 pc2) (ha : h a = some (cI t N f)) (hin : vp_in i N) (kk : AW G (My, Mc, Ml, Mr) d mc ms F pc2 lv st (nx, hset h a (cI t N (upd f i.toNatClampNeg (x)))) k n) : AW G (My, Mc, Ml, Mr) d mc ms F pc lv (.int x :: .int i :: .ref a :: st) (nx, h) k n := by
  obtain ⟨hd, rfl⟩ := hd
  intro p l e R s m args below meth c H locs ls X hR hl
  have hK := X.2.2.2.2.2.2.2.2.1
  have hS := X.2.2.2.2.2.2.2.2.2.1
  have hc := (hR.2.2 a _ ha).2.2
  refine W.iast X.1 X.2.1 hc ((hK.1.2 0 _ rfl).1 N (fun j => .int (f j))) (fun q => by cases q) (by show ¬ (i < 0 ∨ (arrV _ _ _).slots.size ≤ _); rw [arrV_size]; exact hin) rfl rfl hd fun H1 e1 z oq => ?_
  refine kk p l e R s m args below meth c H1 _ ls (axS X (hS.put z oq (ta_A (hR.ge ha)))) (Rel.set hR ha z oq ?_) hl
  show H1[ta G a]? = some (vp_cell _ _)
  rw [e1]
  show some ((vp_cell (gC G 0) (N, .inl f)).setSlot i.toNatClampNeg (.int x)) = some (vp_cell (gC G 0) (N, .inl (upd f i.toNatClampNeg (x))))
  rw [vp_cell_i, vp_cell_i, arrV_store]
  congr 2
  funext q
  by_cases hq : q = i.toNatClampNeg
  · subst hq
    simp [updV, upd, vp_updL, vp_nar, narrow]
  · simp [updV, upd, vp_updL, hq]
theorem aw_bastoreZ {a N : Nat} {f : Nat → Int32} {i : Int32} {x : Int32} (hd : DN Mc pc .bastore 1 pc2) (ha : h a = some (cZ t N f)) (hin : vp_in i N) (kk : AW G (My, Mc, Ml, Mr) d mc ms F pc2 lv st (nx, hset h a (cZ t N (upd f i.toNatClampNeg (vp_nar .boolean x)))) k n) : AW G (My, Mc, Ml, Mr) d mc ms F pc lv (.int x :: .int i :: .ref a :: st) (nx, h) k n := by
  obtain ⟨hd, rfl⟩ := hd
  intro p l e R s m args below meth c H locs ls X hR hl
  have hK := X.2.2.2.2.2.2.2.2.1
  have hS := X.2.2.2.2.2.2.2.2.2.1
  have hc := (hR.2.2 a _ ha).2.2
  refine W.zast X.1 X.2.1 hc ((hK.1.2 1 _ rfl).1 N (fun j => .int (f j))) (fun q => by cases q) (by show ¬ (i < 0 ∨ (arrV _ _ _).slots.size ≤ _); rw [arrV_size]; exact hin) rfl rfl hd fun H1 e1 z oq => ?_
  refine kk p l e R s m args below meth c H1 _ ls (axS X (hS.put z oq (ta_A (hR.ge ha)))) (Rel.set hR ha z oq ?_) hl
  show H1[ta G a]? = some (vp_cell _ _)
  rw [e1]
  show some ((vp_cell (gC G 1) (N, .inl f)).setSlot i.toNatClampNeg (narrow .boolean (.int x))) = some (vp_cell (gC G 1) (N, .inl (upd f i.toNatClampNeg (vp_nar .boolean x))))
  rw [vp_cell_i, vp_cell_i, arrV_store]
  congr 2
  funext q
  by_cases hq : q = i.toNatClampNeg
  · subst hq
    simp [updV, upd, vp_updL, vp_nar, narrow]
  · simp [updV, upd, vp_updL, hq]
theorem aw_bastore {a N : Nat} {f : Nat → Int32} {i : Int32} {x : Int32} (hd : DN Mc pc .bastore 1 pc2) (ha : h a = some (cB t N f)) (hin : vp_in i N) (kk : AW G (My, Mc, Ml, Mr) d mc ms F pc2 lv st (nx, hset h a (cB t N (upd f i.toNatClampNeg (vp_nar .byte x)))) k n) : AW G (My, Mc, Ml, Mr) d mc ms F pc lv (.int x :: .int i :: .ref a :: st) (nx, h) k n := by
  obtain ⟨hd, rfl⟩ := hd
  intro p l e R s m args below meth c H locs ls X hR hl
  have hK := X.2.2.2.2.2.2.2.2.1
  have hS := X.2.2.2.2.2.2.2.2.2.1
  have hc := (hR.2.2 a _ ha).2.2
  refine W.bast X.1 X.2.1 hc ((hK.1.2 2 _ rfl).1 N (fun j => .int (f j))) (fun q => by cases q) (by show ¬ (i < 0 ∨ (arrV _ _ _).slots.size ≤ _); rw [arrV_size]; exact hin) rfl rfl hd fun H1 e1 z oq => ?_
  refine kk p l e R s m args below meth c H1 _ ls (axS X (hS.put z oq (ta_A (hR.ge ha)))) (Rel.set hR ha z oq ?_) hl
  show H1[ta G a]? = some (vp_cell _ _)
  rw [e1]
  show some ((vp_cell (gC G 2) (N, .inl f)).setSlot i.toNatClampNeg (narrow .byte (.int x))) = some (vp_cell (gC G 2) (N, .inl (upd f i.toNatClampNeg (vp_nar .byte x))))
  rw [vp_cell_i, vp_cell_i, arrV_store]
  congr 2
  funext q
  by_cases hq : q = i.toNatClampNeg
  · subst hq
    simp [updV, upd, vp_updL, vp_nar, narrow]
  · simp [updV, upd, vp_updL, hq]
theorem aw_lastore {a N : Nat} {f : Nat → Int64} {i : Int32} {x : Int64} (hd : DN Mc pc .lastore 1 pc2) (ha : h a = some (cL t N f)) (hin : vp_in i N) (kk : AW G (My, Mc, Ml, Mr) d mc ms F pc2 lv st (nx, hset h a (cL t N (vp_updL f i.toNatClampNeg (x)))) k n) : AW G (My, Mc, Ml, Mr) d mc ms F pc lv (.long x :: .int i :: .ref a :: st) (nx, h) k n := by
  obtain ⟨hd, rfl⟩ := hd
  intro p l e R s m args below meth c H locs ls X hR hl
  have hK := X.2.2.2.2.2.2.2.2.1
  have hS := X.2.2.2.2.2.2.2.2.2.1
  have hc := (hR.2.2 a _ ha).2.2
  refine W.last X.1 X.2.1 hc ((hK.1.2 3 _ rfl).1 N (fun j => .long (f j))) (fun q => by cases q) (by show ¬ (i < 0 ∨ (arrV _ _ _).slots.size ≤ _); rw [arrV_size]; exact hin) rfl rfl hd fun H1 e1 z oq => ?_
  refine kk p l e R s m args below meth c H1 _ ls (axS X (hS.put z oq (ta_A (hR.ge ha)))) (Rel.set hR ha z oq ?_) hl
  show H1[ta G a]? = some (vp_cell _ _)
  rw [e1]
  show some ((vp_cell (gC G 3) (N, .inr <| .inl f)).setSlot i.toNatClampNeg (.long x)) = some (vp_cell (gC G 3) (N, .inr <| .inl (vp_updL f i.toNatClampNeg (x))))
  rw [vp_cell_l, vp_cell_l, arrV_store]
  congr 2
  funext q
  by_cases hq : q = i.toNatClampNeg
  · subst hq
    simp [updV, upd, vp_updL, vp_nar, narrow]
  · simp [updV, upd, vp_updL, hq]
theorem aw_newaI (t : Nat) {v : Int32} {N : Nat} (hd : DN Mc pc (.newarray .int) 2 pc2) (hv : v = nI N) (hN : N ≤ 1000000) (hk : k + 1 ≤ mc) (hs : n + N ≤ ms) (kk : AW G (My, Mc, Ml, Mr) d mc ms F pc2 lv (.ref nx :: st) (nx + 1, hset h nx (cI t N (fun _ => 0))) (k + 1) (n + N)) : AW G (My, Mc, Ml, Mr) d mc ms F pc lv (.int v :: st) (nx, h) k n := by
  obtain ⟨hd, rfl⟩ := hd
  intro p l e R s m args below meth c H locs ls X hR hl
  have hK := X.2.2.2.2.2.2.2.2.1
  have hS := X.2.2.2.2.2.2.2.2.2.1
  have hts := X.2.2.2.2.1
  have hRm := X.2.2.2.2.2.2.2.2.2.2
  refine va_newaK (N := N) X.1 X.2.1 (hts _ aw_arrI) rfl hd rfl (by rw [hv]; exact nI_pos (by omega)) (by rw [hv]; exact nI_clamp (by omega)) (by simp only [newarray.typeOf, componentBytes]; omega) (Nat.le_trans hk hRm.2.2.1) (Nat.le_trans hs hRm.2.2.2) rfl fun H1 cA e1 z1 o1 hAr hNm => ?_
  have ec : cA = gC G 0 := Option.some.inj (hNm.symm.trans (hK.1.2 0 _ rfl).2)
  subst ec
  have hsz : gB G ≤ H.size := Nat.le_trans hK.2.2.2.2.2.2.2 hS.1
  have hst : (Value.ref nx :: st).map (tv G) = .ref H.size :: st.map (tv G) := by rw [List.map_cons]; show Value.ref (ta G nx) :: _ = _; rw [hR.nx]
  have := kk p l e R s m args below meth c H1 locs ls (axS X ⟨Nat.le_trans hS.1 (by omega), fun x h1 h2 => (o1 x (Nat.lt_of_lt_of_le h1 hS.1)).trans (hS.2.1 x h1 h2), hS.2.2⟩) (Rel.new hR z1 o1 e1) hl
  rw [hst] at this
  exact this
theorem aw_newaZ (t : Nat) {v : Int32} {N : Nat} (hd : DN Mc pc (.newarray .boolean) 2 pc2) (hv : v = nI N) (hN : N ≤ 1000000) (hk : k + 1 ≤ mc) (hs : n + N ≤ ms) (kk : AW G (My, Mc, Ml, Mr) d mc ms F pc2 lv (.ref nx :: st) (nx + 1, hset h nx (cZ t N (fun _ => 0))) (k + 1) (n + N)) : AW G (My, Mc, Ml, Mr) d mc ms F pc lv (.int v :: st) (nx, h) k n := by
  obtain ⟨hd, rfl⟩ := hd
  intro p l e R s m args below meth c H locs ls X hR hl
  have hK := X.2.2.2.2.2.2.2.2.1
  have hS := X.2.2.2.2.2.2.2.2.2.1
  have hts := X.2.2.2.2.1
  have hRm := X.2.2.2.2.2.2.2.2.2.2
  refine va_newaK (N := N) X.1 X.2.1 (hts _ aw_arrZ) rfl hd rfl (by rw [hv]; exact nI_pos (by omega)) (by rw [hv]; exact nI_clamp (by omega)) (by simp only [newarray.typeOf, componentBytes]; omega) (Nat.le_trans hk hRm.2.2.1) (Nat.le_trans hs hRm.2.2.2) rfl fun H1 cA e1 z1 o1 hAr hNm => ?_
  have ec : cA = gC G 1 := Option.some.inj (hNm.symm.trans (hK.1.2 1 _ rfl).2)
  subst ec
  have hsz : gB G ≤ H.size := Nat.le_trans hK.2.2.2.2.2.2.2 hS.1
  have hst : (Value.ref nx :: st).map (tv G) = .ref H.size :: st.map (tv G) := by rw [List.map_cons]; show Value.ref (ta G nx) :: _ = _; rw [hR.nx]
  have := kk p l e R s m args below meth c H1 locs ls (axS X ⟨Nat.le_trans hS.1 (by omega), fun x h1 h2 => (o1 x (Nat.lt_of_lt_of_le h1 hS.1)).trans (hS.2.1 x h1 h2), hS.2.2⟩) (Rel.new hR z1 o1 e1) hl
  rw [hst] at this
  exact this
theorem aw_newaB (t : Nat) {v : Int32} {N : Nat} (hd : DN Mc pc (.newarray .byte) 2 pc2) (hv : v = nI N) (hN : N ≤ 1000000) (hk : k + 1 ≤ mc) (hs : n + N ≤ ms) (kk : AW G (My, Mc, Ml, Mr) d mc ms F pc2 lv (.ref nx :: st) (nx + 1, hset h nx (cB t N (fun _ => 0))) (k + 1) (n + N)) : AW G (My, Mc, Ml, Mr) d mc ms F pc lv (.int v :: st) (nx, h) k n := by
  obtain ⟨hd, rfl⟩ := hd
  intro p l e R s m args below meth c H locs ls X hR hl
  have hK := X.2.2.2.2.2.2.2.2.1
  have hS := X.2.2.2.2.2.2.2.2.2.1
  have hts := X.2.2.2.2.1
  have hRm := X.2.2.2.2.2.2.2.2.2.2
  refine va_newaK (N := N) X.1 X.2.1 (hts _ aw_arrB) rfl hd rfl (by rw [hv]; exact nI_pos (by omega)) (by rw [hv]; exact nI_clamp (by omega)) (by simp only [newarray.typeOf, componentBytes]; omega) (Nat.le_trans hk hRm.2.2.1) (Nat.le_trans hs hRm.2.2.2) rfl fun H1 cA e1 z1 o1 hAr hNm => ?_
  have ec : cA = gC G 2 := Option.some.inj (hNm.symm.trans (hK.1.2 2 _ rfl).2)
  subst ec
  have hsz : gB G ≤ H.size := Nat.le_trans hK.2.2.2.2.2.2.2 hS.1
  have hst : (Value.ref nx :: st).map (tv G) = .ref H.size :: st.map (tv G) := by rw [List.map_cons]; show Value.ref (ta G nx) :: _ = _; rw [hR.nx]
  have := kk p l e R s m args below meth c H1 locs ls (axS X ⟨Nat.le_trans hS.1 (by omega), fun x h1 h2 => (o1 x (Nat.lt_of_lt_of_le h1 hS.1)).trans (hS.2.1 x h1 h2), hS.2.2⟩) (Rel.new hR z1 o1 e1) hl
  rw [hst] at this
  exact this
theorem aw_newaL (t : Nat) {v : Int32} {N : Nat} (hd : DN Mc pc (.newarray .long) 2 pc2) (hv : v = nI N) (hN : N ≤ 1000000) (hk : k + 1 ≤ mc) (hs : n + N ≤ ms) (kk : AW G (My, Mc, Ml, Mr) d mc ms F pc2 lv (.ref nx :: st) (nx + 1, hset h nx (cL t N (fun _ => 0))) (k + 1) (n + N)) : AW G (My, Mc, Ml, Mr) d mc ms F pc lv (.int v :: st) (nx, h) k n := by
  obtain ⟨hd, rfl⟩ := hd
  intro p l e R s m args below meth c H locs ls X hR hl
  have hK := X.2.2.2.2.2.2.2.2.1
  have hS := X.2.2.2.2.2.2.2.2.2.1
  have hts := X.2.2.2.2.1
  have hRm := X.2.2.2.2.2.2.2.2.2.2
  refine va_newaK (N := N) X.1 X.2.1 (hts _ aw_arrL) rfl hd rfl (by rw [hv]; exact nI_pos (by omega)) (by rw [hv]; exact nI_clamp (by omega)) (by simp only [newarray.typeOf, componentBytes]; omega) (Nat.le_trans hk hRm.2.2.1) (Nat.le_trans hs hRm.2.2.2) rfl fun H1 cA e1 z1 o1 hAr hNm => ?_
  have ec : cA = gC G 3 := Option.some.inj (hNm.symm.trans (hK.1.2 3 _ rfl).2)
  subst ec
  have hsz : gB G ≤ H.size := Nat.le_trans hK.2.2.2.2.2.2.2 hS.1
  have hst : (Value.ref nx :: st).map (tv G) = .ref H.size :: st.map (tv G) := by rw [List.map_cons]; show Value.ref (ta G nx) :: _ = _; rw [hR.nx]
  have := kk p l e R s m args below meth c H1 locs ls (axS X ⟨Nat.le_trans hS.1 (by omega), fun x h1 h2 => (o1 x (Nat.lt_of_lt_of_le h1 hS.1)).trans (hS.2.1 x h1 h2), hS.2.2⟩) (Rel.new hR z1 o1 e1) hl
  rw [hst] at this
  exact this
end RUH
