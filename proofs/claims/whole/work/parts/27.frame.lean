/-! tags: which cells may have changed -/
def Fr (T : List Nat) (h h2 : Nat → Option aC) : Prop := ∀ (q : Nat) (c : aC), h q = some c → c.1 ∉ T → h2 q = some c
def Dom (nx : Nat) (h : Nat → Option aC) : Prop := ∀ (q : Nat) (c : aC), h q = some c → q < nx
theorem Fr.rf {T : List Nat} {h : Nat → Option aC} : Fr T h h := fun _ _ h _ => h
theorem Fr.tr {T : List Nat} {h h1 h2 : Nat → Option aC} (a : Fr T h h1) (b : Fr T h1 h2) : Fr T h h2 := fun q c hc ht => b q c (a q c hc ht) ht
theorem Fr.up {T T2 : List Nat} {h h1 : Nat → Option aC} (a : Fr T h h1) (hs : ∀ x, x ∈ T → x ∈ T2) : Fr T2 h h1 := fun q c hc ht => a q c hc (fun z => ht (hs _ z))
theorem Fr.set {T : List Nat} {h : Nat → Option aC} {a : Nat} {c0 c : aC} (ha : h a = some c0) (ht : c0.1 ∈ T) : Fr T h (hset h a c) := by
  intro q x hq hx
  refine hs_ne (fun e => ?_) hq
  subst e
  rw [ha] at hq
  cases hq
  exact hx ht
theorem Fr.new {T : List Nat} {h : Nat → Option aC} {nx : Nat} {c : aC} (hd : Dom nx h) : Fr T h (hset h nx c) := by
  intro q x hq hx
  exact hs_ne (Nat.ne_of_lt (hd q x hq)) hq
theorem Dom.set {nx : Nat} {h : Nat → Option aC} {a : Nat} {c0 c : aC} (hd : Dom nx h) (ha : h a = some c0) : Dom nx (hset h a c) := by
  intro q x hq
  by_cases e : q = a
  · subst e; exact hd q c0 ha
  · rw [hs_ne e rfl] at hq; exact hd q x hq
theorem Dom.new {nx : Nat} {h : Nat → Option aC} {c : aC} (hd : Dom nx h) : Dom (nx + 1) (hset h nx c) := by
  intro q x hq
  by_cases e : q = nx
  · omega
  · rw [hs_ne e rfl] at hq; have := hd q x hq; omega
theorem Dom.up {nx n2 : Nat} {h : Nat → Option aC} (hd : Dom nx h) (hn : nx ≤ n2) : Dom n2 h := fun q x hq => Nat.lt_of_lt_of_le (hd q x hq) hn
/-- two cells of two tags -/
theorem ne_tag {h : Nat → Option aC} {a b : Nat} {x y : aC} (ha : h a = some x) (hb : h b = some y) (ht : x.1 ≠ y.1) : a ≠ b := by
  intro e
  subst e
  rw [ha] at hb
  cases hb
  exact ht rfl
theorem hs_tag {h : Nat → Option aC} {a b : Nat} {c x y : aC} (hb : h b = some y) (ha : h a = some x) (ht : y.1 ≠ x.1) : hset h a c b = some y := hs_ne (ne_tag hb ha ht) hb
theorem hs_dom {h : Nat → Option aC} {nx b : Nat} {c y : aC} (hd : Dom nx h) (hb : h b = some y) : hset h nx c b = some y := hs_ne (Nat.ne_of_lt (hd b y hb)) hb
theorem aw_dom {G : aG} {M : MI} {d mc ms : Nat} {F : FT} {pc : Nat} {lv : List (Nat × Value)} {st : List Value} {nx : Nat} {h : Nat → Option aC} {k n : Nat} (kk : Dom nx h → AW G M d mc ms F pc lv st (nx, h) k n) : AW G M d mc ms F pc lv st (nx, h) k n :=
  fun p l e R s m args below meth c H locs ls X hR hl => kk (fun q c hq => (hR.2.2 q c hq).2.1) p l e R s m args below meth c H locs ls X hR hl
theorem amet_dom {G : aG} {M : MI} {d mc ms : Nat} {av : List Value} {nx : Nat} {h : Nat → Option aC} {Q : Option Value → aH → Prop} (kk : Dom nx h → AMet G M d mc ms av (nx, h) Q) : AMet G M d mc ms av (nx, h) Q := by
  intro l rm h1 h2 h3 h4 p e ha hc hk s m args below hf happ hP hK
  exact kk (fun q c hq => (hP.2.1.2.2 q c hq).2.1) l rm h1 h2 h3 h4 p e ha hc hk s m args below hf happ hP hK
/-- upwards from i to N -/
theorem up_to {σ : Type} (T : σ → Prop) (I : Nat → σ → Prop) (N : Nat) (hs : ∀ i s, i < N → I i s → (∀ s2, I (i + 1) s2 → T s2) → T s) (he : ∀ s, I N s → T s) : ∀ i s, i ≤ N → I i s → T s := by
  intro i s hi
  obtain ⟨j, hj⟩ : ∃ j, i + j = N := ⟨N - i, by omega⟩
  induction j generalizing i s with
  | zero => intro h; have e : i = N := by omega
            subst e; exact he s h
  | succ j ih => intro h; exact hs i s (by omega) h (fun s2 h2 => ih (i + 1) s2 (by omega) (by omega) h2)
/-- upwards to N, the head walked once -/
theorem upto {σ : Type} (T : σ → Prop) (I : Nat → σ → Prop) (N : Nat) (hs : ∀ i s, i ≤ N → I i s → (i < N → ∀ s2, I (i + 1) s2 → T s2) → T s) : ∀ i s, i ≤ N → I i s → T s := by
  intro i s hi
  obtain ⟨j, hj⟩ : ∃ j, i + j = N := ⟨N - i, by omega⟩
  induction j generalizing i s with
  | zero => intro h; exact hs i s hi h (fun q => by omega)
  | succ j ih => intro h; exact hs i s hi h (fun _ s2 h2 => ih (i + 1) s2 (by omega) (by omega) h2)
/-- a changed cell, by what it holds then -/
theorem aw_nm {G : aG} {M : MI} {d mc ms : Nat} {F : FT} {pc : Nat} {lv : List (Nat × Value)} {st : List Value} {nx a : Nat} {h : Nat → Option aC} {k n : Nat} {c0 c : aC} (ha : h a = some c0) (kk : ∀ h1 : Nat → Option aC, h1 a = some c → Fr [c0.1] h h1 → (∀ q, q ≠ a → h1 q = h q) → AW G M d mc ms F pc lv st (nx, h1) k n) : AW G M d mc ms F pc lv st (nx, hset h a c) k n :=
  kk _ (hs_eq _ _ _) (Fr.set ha (List.mem_singleton.mpr rfl)) (fun _ hq => hs_ne hq rfl)
theorem aw_nn {G : aG} {M : MI} {d mc ms : Nat} {F : FT} {pc : Nat} {lv : List (Nat × Value)} {st : List Value} {nx : Nat} {h : Nat → Option aC} {k n : Nat} {c : aC} (hd : Dom nx h) (kk : ∀ h1 : Nat → Option aC, h1 nx = some c → Fr [] h h1 → (∀ q, q ≠ nx → h1 q = h q) → Dom (nx + 1) h1 → AW G M d mc ms F pc lv st (nx + 1, h1) k n) : AW G M d mc ms F pc lv st (nx + 1, hset h nx c) k n :=
  kk _ (hs_eq _ _ _) (Fr.new hd) (fun _ hq => hs_ne hq rfl) (Dom.new hd)
