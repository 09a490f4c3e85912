section RUL
variable {G : aG} {My : MethodName} {Mc : ByteArray} {Ml : Nat} {Mr : Option FieldType} {d mc ms : Nat} {F : FT} {pc pc2 : Nat} {lv lv2 : List (Nat × Value)} {st : List Value} {w : aH} {k n : Nat}
def lget : List (Nat × Value) → Nat → Option Value
  | [], _ => none
  | q :: t, i => bif q.1.beq i then some q.2 else lget t i
def lkeep (i : Nat) (q : Nat × Value) : Bool := !(q.1 == i) && !(q.1 + 1 == i && q.2.category == 2)
def lset : List (Nat × Value) → Nat → Value → List (Nat × Value)
  | [], i, v => [(i, v)]
  | q :: t, i, v => bif i.ble q.1 then (i, v) :: (q :: t).filter (lkeep i) else bif lkeep i q then q :: lset t i v else lset t i v
theorem lget_mem : ∀ {lv : List (Nat × Value)} {i : Nat} {v : Value}, lget lv i = some v → (i, v) ∈ lv
  | [], _, _, h => by cases h
  | q :: t, i, v, h => by
    unfold lget at h
    cases hb : q.1.beq i with
    | true =>
      rw [hb] at h
      have e := Nat.eq_of_beq_eq_true hb
      have e2 : q.2 = v := Option.some.inj h
      subst e; subst e2
      exact List.mem_cons_self
    | false =>
      rw [hb] at h
      exact List.mem_cons_of_mem _ (lget_mem h)
theorem lget_at {ls : Array Slot} {nL i : Nat} {v : Value} (hl : lv_has ls nL (lv.map (tl G))) (h : lget lv i = some v) : ls[i]? = some (.val (tv G v)) := hl.2.2 (i, tv G v) (List.mem_map.mpr ⟨(i, v), lget_mem h, rfl⟩)
theorem lset_mem : ∀ {lv : List (Nat × Value)} {i : Nat} {v : Value} {q : Nat × Value}, q ∈ lset lv i v → q = (i, v) ∨ (q ∈ lv ∧ lkeep i q = true)
  | [], i, v, q, h => Or.inl (List.mem_singleton.mp h)
  | p :: t, i, v, q, h => by
    unfold lset at h
    cases hb : i.ble p.1 with
    | true =>
      rw [hb] at h
      rcases List.mem_cons.mp h with h | h
      · exact Or.inl h
      · exact Or.inr ⟨(List.mem_filter.mp h).1, (List.mem_filter.mp h).2⟩
    | false =>
      rw [hb] at h
      cases hk : lkeep i p with
      | true =>
        rw [hk] at h
        rcases List.mem_cons.mp h with h | h
        · subst h; exact Or.inr ⟨List.mem_cons_self, hk⟩
        · rcases lset_mem h with h | h
          · exact Or.inl h
          · exact Or.inr ⟨List.mem_cons_of_mem _ h.1, h.2⟩
      | false =>
        rw [hk] at h
        rcases lset_mem h with h | h
        · exact Or.inl h
        · exact Or.inr ⟨List.mem_cons_of_mem _ h.1, h.2⟩
theorem lset_has {ls : Array Slot} {nL i : Nat} {v : Value} (h : lv_has ls nL ((i, tv G v) :: (lv.map (tl G)).filter (fun q => !(q.1 == i) && !(q.1 + 1 == i && q.2.category == 2)))) : lv_has ls nL ((lset lv i v).map (tl G)) := by
  refine ⟨h.1, h.2.1, fun q hq => h.2.2 q ?_⟩
  obtain ⟨r, hr, rfl⟩ := List.mem_map.mp hq
  rcases lset_mem hr with rfl | ⟨h1, h2⟩
  · exact List.mem_cons_self
  · refine List.mem_cons_of_mem _ (List.mem_filter.mpr ⟨List.mem_map.mpr ⟨r, h1, rfl⟩, ?_⟩)
    show (!(r.1 == i) && !(r.1 + 1 == i && (tv G r.2).category == 2)) = true
    rw [tv_cat]; exact h2
/-- fewer locals -/
theorem aw_drop (ks : List Nat) (h : lv_pick lv ks = lv2) (kk : AW G (My, Mc, Ml, Mr) d mc ms F pc lv2 st w k n) : AW G (My, Mc, Ml, Mr) d mc ms F pc lv st w k n := by
  intro p l e R s m args below meth c H locs ls X hR hl
  refine kk p l e R s m args below meth c H locs ls X hR ⟨hl.1, hl.2.1, fun q hq => hl.2.2 q ?_⟩
  obtain ⟨r, hr, rfl⟩ := List.mem_map.mp hq
  subst h
  obtain ⟨i, -, hi⟩ := List.mem_filterMap.mp hr
  exact List.mem_map.mpr ⟨r, List.mem_of_getElem? hi, rfl⟩
theorem aw_widen {k2 n2 : Nat} (h1 : k ≤ k2) (h2 : n ≤ n2) (kk : AW G (My, Mc, Ml, Mr) d mc ms F pc lv st w k2 n2) : AW G (My, Mc, Ml, Mr) d mc ms F pc lv st w k n := fun p l e R s m args below meth c H locs ls X hR hl => W.widen h1 h2 (kk p l e R s m args below meth c H locs ls X hR hl)
theorem aw_iconst {z : Int} {v : Int32} (hd : DN Mc pc (.iconst z) 1 pc2) (hv : Int32.ofInt z = v) (kk : AW G (My, Mc, Ml, Mr) d mc ms F pc2 lv (.int v :: st) w k n) : AW G (My, Mc, Ml, Mr) d mc ms F pc lv (st) w k n := by
  obtain ⟨hd, rfl⟩ := hd
  exact fun p l e R s m args below meth c H locs ls X hR hl => lv_iconst X.1 X.2.1  hd hv (kk p l e R s m args below meth c H locs ls X hR hl)
theorem aw_bipush {z : Int} {v : Int32} (hd : DN Mc pc (.bipush z) 2 pc2) (hv : (Int8.ofInt z).toInt32 = v) (kk : AW G (My, Mc, Ml, Mr) d mc ms F pc2 lv (.int v :: st) w k n) : AW G (My, Mc, Ml, Mr) d mc ms F pc lv (st) w k n := by
  obtain ⟨hd, rfl⟩ := hd
  exact fun p l e R s m args below meth c H locs ls X hR hl => lv_bipush X.1 X.2.1  hd hv (kk p l e R s m args below meth c H locs ls X hR hl)
theorem aw_sipush {z : Int} {v : Int32} (hd : DN Mc pc (.sipush z) 3 pc2) (hv : (Int16.ofInt z).toInt32 = v) (kk : AW G (My, Mc, Ml, Mr) d mc ms F pc2 lv (.int v :: st) w k n) : AW G (My, Mc, Ml, Mr) d mc ms F pc lv (st) w k n := by
  obtain ⟨hd, rfl⟩ := hd
  exact fun p l e R s m args below meth c H locs ls X hR hl => lv_sipush X.1 X.2.1  hd hv (kk p l e R s m args below meth c H locs ls X hR hl)
theorem aw_iadd {x y : Int32} (hd : DN Mc pc (.iadd) 1 pc2) (kk : AW G (My, Mc, Ml, Mr) d mc ms F pc2 lv (.int (x + y) :: st) w k n) : AW G (My, Mc, Ml, Mr) d mc ms F pc lv (.int y :: .int x :: st) w k n := by
  obtain ⟨hd, rfl⟩ := hd
  exact fun p l e R s m args below meth c H locs ls X hR hl => lv_iadd X.1 X.2.1  hd  (kk p l e R s m args below meth c H locs ls X hR hl)
theorem aw_isub {x y : Int32} (hd : DN Mc pc (.isub) 1 pc2) (kk : AW G (My, Mc, Ml, Mr) d mc ms F pc2 lv (.int (x - y) :: st) w k n) : AW G (My, Mc, Ml, Mr) d mc ms F pc lv (.int y :: .int x :: st) w k n := by
  obtain ⟨hd, rfl⟩ := hd
  exact fun p l e R s m args below meth c H locs ls X hR hl => lv_isub X.1 X.2.1  hd  (kk p l e R s m args below meth c H locs ls X hR hl)
theorem aw_imul {x y : Int32} (hd : DN Mc pc (.imul) 1 pc2) (kk : AW G (My, Mc, Ml, Mr) d mc ms F pc2 lv (.int (x * y) :: st) w k n) : AW G (My, Mc, Ml, Mr) d mc ms F pc lv (.int y :: .int x :: st) w k n := by
  obtain ⟨hd, rfl⟩ := hd
  exact fun p l e R s m args below meth c H locs ls X hR hl => lv_imul X.1 X.2.1  hd  (kk p l e R s m args below meth c H locs ls X hR hl)
theorem aw_iand {x y : Int32} (hd : DN Mc pc (.iand) 1 pc2) (kk : AW G (My, Mc, Ml, Mr) d mc ms F pc2 lv (.int (x &&& y) :: st) w k n) : AW G (My, Mc, Ml, Mr) d mc ms F pc lv (.int y :: .int x :: st) w k n := by
  obtain ⟨hd, rfl⟩ := hd
  exact fun p l e R s m args below meth c H locs ls X hR hl => lv_iand X.1 X.2.1  hd  (kk p l e R s m args below meth c H locs ls X hR hl)
theorem aw_ior {x y : Int32} (hd : DN Mc pc (.ior) 1 pc2) (kk : AW G (My, Mc, Ml, Mr) d mc ms F pc2 lv (.int (x ||| y) :: st) w k n) : AW G (My, Mc, Ml, Mr) d mc ms F pc lv (.int y :: .int x :: st) w k n := by
  obtain ⟨hd, rfl⟩ := hd
  exact fun p l e R s m args below meth c H locs ls X hR hl => lv_ior X.1 X.2.1  hd  (kk p l e R s m args below meth c H locs ls X hR hl)
theorem aw_ixor {x y : Int32} (hd : DN Mc pc (.ixor) 1 pc2) (kk : AW G (My, Mc, Ml, Mr) d mc ms F pc2 lv (.int (x ^^^ y) :: st) w k n) : AW G (My, Mc, Ml, Mr) d mc ms F pc lv (.int y :: .int x :: st) w k n := by
  obtain ⟨hd, rfl⟩ := hd
  exact fun p l e R s m args below meth c H locs ls X hR hl => lv_ixor X.1 X.2.1  hd  (kk p l e R s m args below meth c H locs ls X hR hl)
theorem aw_ishl {x y : Int32} (hd : DN Mc pc (.ishl) 1 pc2) (kk : AW G (My, Mc, Ml, Mr) d mc ms F pc2 lv (.int (x <<< (y &&& 31)) :: st) w k n) : AW G (My, Mc, Ml, Mr) d mc ms F pc lv (.int y :: .int x :: st) w k n := by
  obtain ⟨hd, rfl⟩ := hd
  exact fun p l e R s m args below meth c H locs ls X hR hl => lv_ishl X.1 X.2.1  hd  (kk p l e R s m args below meth c H locs ls X hR hl)
theorem aw_ishr {x y : Int32} (hd : DN Mc pc (.ishr) 1 pc2) (kk : AW G (My, Mc, Ml, Mr) d mc ms F pc2 lv (.int (x >>> (y &&& 31)) :: st) w k n) : AW G (My, Mc, Ml, Mr) d mc ms F pc lv (.int y :: .int x :: st) w k n := by
  obtain ⟨hd, rfl⟩ := hd
  exact fun p l e R s m args below meth c H locs ls X hR hl => lv_ishr X.1 X.2.1  hd  (kk p l e R s m args below meth c H locs ls X hR hl)
theorem aw_idiv {x y : Int32} (hd : DN Mc pc (.idiv) 1 pc2) (hne : ¬ y = 0) (kk : AW G (My, Mc, Ml, Mr) d mc ms F pc2 lv (.int (x / y) :: st) w k n) : AW G (My, Mc, Ml, Mr) d mc ms F pc lv (.int y :: .int x :: st) w k n := by
  obtain ⟨hd, rfl⟩ := hd
  exact fun p l e R s m args below meth c H locs ls X hR hl => lv_idiv X.1 X.2.1  hd hne (kk p l e R s m args below meth c H locs ls X hR hl)
theorem aw_irem {x y : Int32} (hd : DN Mc pc (.irem) 1 pc2) (hne : ¬ y = 0) (kk : AW G (My, Mc, Ml, Mr) d mc ms F pc2 lv (.int (x - x / y * y) :: st) w k n) : AW G (My, Mc, Ml, Mr) d mc ms F pc lv (.int y :: .int x :: st) w k n := by
  obtain ⟨hd, rfl⟩ := hd
  exact fun p l e R s m args below meth c H locs ls X hR hl => lv_irem X.1 X.2.1  hd hne (kk p l e R s m args below meth c H locs ls X hR hl)
theorem aw_ineg {x : Int32} (hd : DN Mc pc (.ineg) 1 pc2) (kk : AW G (My, Mc, Ml, Mr) d mc ms F pc2 lv (.int (-x) :: st) w k n) : AW G (My, Mc, Ml, Mr) d mc ms F pc lv (.int x :: st) w k n := by
  obtain ⟨hd, rfl⟩ := hd
  exact fun p l e R s m args below meth c H locs ls X hR hl => lv_ineg X.1 X.2.1  hd  (kk p l e R s m args below meth c H locs ls X hR hl)
theorem aw_iushr {x y : Int32} (hd : DN Mc pc (.iushr) 1 pc2) (kk : AW G (My, Mc, Ml, Mr) d mc ms F pc2 lv (.int (x.toUInt32 >>> (y.toUInt32 &&& Int32.toUInt32 31)).toInt32 :: st) w k n) : AW G (My, Mc, Ml, Mr) d mc ms F pc lv (.int y :: .int x :: st) w k n := by
  obtain ⟨hd, rfl⟩ := hd
  exact fun p l e R s m args below meth c H locs ls X hR hl => lv_iushr X.1 X.2.1  hd rfl (kk p l e R s m args below meth c H locs ls X hR hl)
theorem aw_i2l {x : Int32} (hd : DN Mc pc (.i2l) 1 pc2) (kk : AW G (My, Mc, Ml, Mr) d mc ms F pc2 lv (.long x.toInt64 :: st) w k n) : AW G (My, Mc, Ml, Mr) d mc ms F pc lv (.int x :: st) w k n := by
  obtain ⟨hd, rfl⟩ := hd
  exact fun p l e R s m args below meth c H locs ls X hR hl => lv_i2l X.1 X.2.1  hd rfl (kk p l e R s m args below meth c H locs ls X hR hl)
theorem aw_i2b {x : Int32} (hd : DN Mc pc (.i2b) 1 pc2) (kk : AW G (My, Mc, Ml, Mr) d mc ms F pc2 lv (.int x.toInt8.toInt32 :: st) w k n) : AW G (My, Mc, Ml, Mr) d mc ms F pc lv (.int x :: st) w k n := by
  obtain ⟨hd, rfl⟩ := hd
  exact fun p l e R s m args below meth c H locs ls X hR hl => lv_i2b X.1 X.2.1  hd rfl (kk p l e R s m args below meth c H locs ls X hR hl)
theorem aw_lcmp {x y : Int64} (hd : DN Mc pc (.lcmp) 1 pc2) (kk : AW G (My, Mc, Ml, Mr) d mc ms F pc2 lv (.int (lg_cmp x y) :: st) w k n) : AW G (My, Mc, Ml, Mr) d mc ms F pc lv (.long y :: .long x :: st) w k n := by
  obtain ⟨hd, rfl⟩ := hd
  exact fun p l e R s m args below meth c H locs ls X hR hl => W.lcmp X.1 X.2.1  hd  (kk p l e R s m args below meth c H locs ls X hR hl)
theorem aw_null  (hd : DN Mc pc (.aconst_null) 1 pc2) (kk : AW G (My, Mc, Ml, Mr) d mc ms F pc2 lv (.null :: st) w k n) : AW G (My, Mc, Ml, Mr) d mc ms F pc lv (st) w k n := by
  obtain ⟨hd, rfl⟩ := hd
  exact fun p l e R s m args below meth c H locs ls X hR hl => lv_null X.1 X.2.1  hd  (kk p l e R s m args below meth c H locs ls X hR hl)
theorem aw_dup {va : Value} (hd : DN Mc pc (.dup) 1 pc2) (h1 : va.category = 1) (kk : AW G (My, Mc, Ml, Mr) d mc ms F pc2 lv (va :: va :: st) w k n) : AW G (My, Mc, Ml, Mr) d mc ms F pc lv (va :: st) w k n := by
  obtain ⟨hd, rfl⟩ := hd
  exact fun p l e R s m args below meth c H locs ls X hR hl => lv_dup X.1 X.2.1  hd (by rw [tv_cat]; exact h1) (kk p l e R s m args below meth c H locs ls X hR hl)
theorem aw_pop {va : Value} (hd : DN Mc pc (.pop) 1 pc2) (h1 : va.category = 1) (kk : AW G (My, Mc, Ml, Mr) d mc ms F pc2 lv (st) w k n) : AW G (My, Mc, Ml, Mr) d mc ms F pc lv (va :: st) w k n := by
  obtain ⟨hd, rfl⟩ := hd
  exact fun p l e R s m args below meth c H locs ls X hR hl => lv_pop X.1 X.2.1  hd (by rw [tv_cat]; exact h1) (kk p l e R s m args below meth c H locs ls X hR hl)
theorem aw_dup_x1 {va vb : Value} (hd : DN Mc pc (.dup_x1) 1 pc2) (h1 : va.category = 1) (h2 : vb.category = 1) (kk : AW G (My, Mc, Ml, Mr) d mc ms F pc2 lv (va :: vb :: va :: st) w k n) : AW G (My, Mc, Ml, Mr) d mc ms F pc lv (va :: vb :: st) w k n := by
  obtain ⟨hd, rfl⟩ := hd
  exact fun p l e R s m args below meth c H locs ls X hR hl => lv_dup_x1 X.1 X.2.1  hd (by rw [tv_cat]; exact h1) (by rw [tv_cat]; exact h2) (kk p l e R s m args below meth c H locs ls X hR hl)
theorem aw_dup2 {va vb : Value} (hd : DN Mc pc (.dup2) 1 pc2) (h1 : va.category = 1) (h2 : vb.category = 1) (kk : AW G (My, Mc, Ml, Mr) d mc ms F pc2 lv (va :: vb :: va :: vb :: st) w k n) : AW G (My, Mc, Ml, Mr) d mc ms F pc lv (va :: vb :: st) w k n := by
  obtain ⟨hd, rfl⟩ := hd
  exact fun p l e R s m args below meth c H locs ls X hR hl => lv_dup2_11 X.1 X.2.1  hd (by rw [tv_cat]; exact h1) (by rw [tv_cat]; exact h2) (kk p l e R s m args below meth c H locs ls X hR hl)
theorem aw_iload_n {j : Fin 4} {i : Nat} {x : Int32} (hd : DN Mc pc (.iload_n j) 1 pc2) (hi : (j : Nat) = i) (h : lget lv i = some (.int x)) (kk : AW G (My, Mc, Ml, Mr) d mc ms F pc2 lv (.int x :: st) w k n) : AW G (My, Mc, Ml, Mr) d mc ms F pc lv st w k n := by
  obtain ⟨hd, rfl⟩ := hd
  exact fun p l e R s m args below meth c H locs ls X hR hl => lv_iload_n X.1 X.2.1 hd hi (lget_at hl h) (kk p l e R s m args below meth c H locs ls X hR hl)
theorem aw_iload {i : Nat} {x : Int32} (hd : DN Mc pc (.iload i) 2 pc2) (h : lget lv i = some (.int x)) (kk : AW G (My, Mc, Ml, Mr) d mc ms F pc2 lv (.int x :: st) w k n) : AW G (My, Mc, Ml, Mr) d mc ms F pc lv st w k n := by
  obtain ⟨hd, rfl⟩ := hd
  exact fun p l e R s m args below meth c H locs ls X hR hl => lv_iload X.1 X.2.1 hd (lget_at hl h) (kk p l e R s m args below meth c H locs ls X hR hl)
theorem aw_lload_n {j : Fin 4} {i : Nat} {x : Int64} (hd : DN Mc pc (.lload_n j) 1 pc2) (hi : (j : Nat) = i) (h : lget lv i = some (.long x)) (kk : AW G (My, Mc, Ml, Mr) d mc ms F pc2 lv (.long x :: st) w k n) : AW G (My, Mc, Ml, Mr) d mc ms F pc lv st w k n := by
  obtain ⟨hd, rfl⟩ := hd
  exact fun p l e R s m args below meth c H locs ls X hR hl => lv_lload_n X.1 X.2.1 hd hi (lget_at hl h) (kk p l e R s m args below meth c H locs ls X hR hl)
theorem aw_lload {i : Nat} {x : Int64} (hd : DN Mc pc (.lload i) 2 pc2) (h : lget lv i = some (.long x)) (kk : AW G (My, Mc, Ml, Mr) d mc ms F pc2 lv (.long x :: st) w k n) : AW G (My, Mc, Ml, Mr) d mc ms F pc lv st w k n := by
  obtain ⟨hd, rfl⟩ := hd
  exact fun p l e R s m args below meth c H locs ls X hR hl => lv_lload X.1 X.2.1 hd (lget_at hl h) (kk p l e R s m args below meth c H locs ls X hR hl)
theorem aw_aload_n {j : Fin 4} {i : Nat} {a : Nat} (hd : DN Mc pc (.aload_n j) 1 pc2) (hi : (j : Nat) = i) (h : lget lv i = some (.ref a)) (kk : AW G (My, Mc, Ml, Mr) d mc ms F pc2 lv (.ref a :: st) w k n) : AW G (My, Mc, Ml, Mr) d mc ms F pc lv st w k n := by
  obtain ⟨hd, rfl⟩ := hd
  exact fun p l e R s m args below meth c H locs ls X hR hl => lv_aload_n X.1 X.2.1 hd hi (lget_at hl h) (kk p l e R s m args below meth c H locs ls X hR hl)
theorem aw_aload {i : Nat} {a : Nat} (hd : DN Mc pc (.aload i) 2 pc2) (h : lget lv i = some (.ref a)) (kk : AW G (My, Mc, Ml, Mr) d mc ms F pc2 lv (.ref a :: st) w k n) : AW G (My, Mc, Ml, Mr) d mc ms F pc lv st w k n := by
  obtain ⟨hd, rfl⟩ := hd
  exact fun p l e R s m args below meth c H locs ls X hR hl => lv_aload X.1 X.2.1 hd (lget_at hl h) (kk p l e R s m args below meth c H locs ls X hR hl)
theorem aw_aload_nN {j : Fin 4} {i : Nat} (hd : DN Mc pc (.aload_n j) 1 pc2) (hi : (j : Nat) = i) (h : lget lv i = some .null) (kk : AW G (My, Mc, Ml, Mr) d mc ms F pc2 lv (.null :: st) w k n) : AW G (My, Mc, Ml, Mr) d mc ms F pc lv st w k n := by
  obtain ⟨hd, rfl⟩ := hd
  exact fun p l e R s m args below meth c H locs ls X hR hl => lv_aload_nN X.1 X.2.1 hd hi (lget_at hl h) (kk p l e R s m args below meth c H locs ls X hR hl)
theorem aw_istore_n {j : Fin 4} {i : Nat} {x : Int32} (hd : DN Mc pc (.istore_n j) 1 pc2) (hi : (j : Nat) = i) (hn : i < Ml) (h : lset lv i (.int x) = lv2) (kk : AW G (My, Mc, Ml, Mr) d mc ms F pc2 lv2 st w k n) : AW G (My, Mc, Ml, Mr) d mc ms F pc lv (.int x :: st) w k n := by
  obtain ⟨hd, rfl⟩ := hd
  subst h
  exact fun p l e R s m args below meth c H locs ls X hR hl => lv_istore_n X.1 X.2.1 hd hi hl hn rfl (fun ls hl => kk p l e R s m args below meth c H locs ls X hR (lset_has hl))
theorem aw_istore {i : Nat} {x : Int32} (hd : DN Mc pc (.istore i) 2 pc2) (hn : i < Ml) (h : lset lv i (.int x) = lv2) (kk : AW G (My, Mc, Ml, Mr) d mc ms F pc2 lv2 st w k n) : AW G (My, Mc, Ml, Mr) d mc ms F pc lv (.int x :: st) w k n := by
  obtain ⟨hd, rfl⟩ := hd
  subst h
  exact fun p l e R s m args below meth c H locs ls X hR hl => lv_istore X.1 X.2.1 hd hl hn rfl (fun ls hl => kk p l e R s m args below meth c H locs ls X hR (lset_has hl))
theorem aw_astore_n {j : Fin 4} {i : Nat} {x : Nat} (hd : DN Mc pc (.astore_n j) 1 pc2) (hi : (j : Nat) = i) (hn : i < Ml) (h : lset lv i (.ref x) = lv2) (kk : AW G (My, Mc, Ml, Mr) d mc ms F pc2 lv2 st w k n) : AW G (My, Mc, Ml, Mr) d mc ms F pc lv (.ref x :: st) w k n := by
  obtain ⟨hd, rfl⟩ := hd
  subst h
  exact fun p l e R s m args below meth c H locs ls X hR hl => lv_astore_n X.1 X.2.1 hd hi hl hn rfl (fun ls hl => kk p l e R s m args below meth c H locs ls X hR (lset_has hl))
theorem aw_astore {i : Nat} {x : Nat} (hd : DN Mc pc (.astore i) 2 pc2) (hn : i < Ml) (h : lset lv i (.ref x) = lv2) (kk : AW G (My, Mc, Ml, Mr) d mc ms F pc2 lv2 st w k n) : AW G (My, Mc, Ml, Mr) d mc ms F pc lv (.ref x :: st) w k n := by
  obtain ⟨hd, rfl⟩ := hd
  subst h
  exact fun p l e R s m args below meth c H locs ls X hR hl => lv_astore X.1 X.2.1 hd hl hn rfl (fun ls hl => kk p l e R s m args below meth c H locs ls X hR (lset_has hl))
theorem aw_iinc {i : Nat} {z : Int} {x v : Int32} (hd : DN Mc pc (.iinc i z) 3 pc2) (hn : i < Ml) (hg : lget lv i = some (.int x)) (hv : x + Int32.ofInt z = v) (h : lset lv i (.int v) = lv2) (kk : AW G (My, Mc, Ml, Mr) d mc ms F pc2 lv2 st w k n) : AW G (My, Mc, Ml, Mr) d mc ms F pc lv st w k n := by
  obtain ⟨hd, rfl⟩ := hd
  subst h
  intro p l e R s m args below meth c H locs ls X hR hl
  obtain ⟨j, hj⟩ := List.getElem?_of_mem (List.mem_map.mpr ⟨(i, Value.int x), lget_mem hg, rfl⟩ : (i, Value.int x) ∈ lv.map (tl G))
  exact lv_iinc X.1 X.2.1 hd hl hj hv hn rfl (fun ls hl => kk p l e R s m args below meth c H locs ls X hR (lset_has hl))
end RUL
