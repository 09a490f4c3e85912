/-! the law: its end, its script, what holds between two calls (lw_ began as the skeleton's) -/
def R_law : String := "LockedHouseLaw"
def lw_P (b : Addr) (xs : List Int32) (args : Array Value) (s : State) : Prop := args = #[.ref b] ∧ s.IntsAt b xs ∧ xs.length ≤ 2560 ∧ (Jvm.Cond.and given_1 narrow_1).before args s = true
def lw_Q (_ : Array Value) (s : State) (o : Outcome) (t : State) : Prop := o = .returned (some (.int 1)) ∧ Framed s o t [] 61024 8913034
def lw_Z (below : List Frame) (a : Array Value) (s : State) : State → Prop := fun t => ∃ o, t.status = .running ∧ Ended t below o ∧ lw_Q a s o t
theorem lw_ret {p : Program} {l : Launch} {e : Env} {R : Room} {s : State} {m : MethodId} {args : Array Value} {below : List Frame} {meth : Method} {c : Code} (hx : p.tables.exec = Jvm.exec) (hb : c.code = code) (hr : meth.sig.returnType = ret) (hlocks : meth.locks = false) {pc : Nat} {H : Heap} {ls : Array Slot} (hdg : decode code pc = .ok (.ireturn, 1)) : W p l e R s m args below meth c H [] 61024 8913034 (lw_Z below args s) (F0 m pc ls [.int 1]) := by
  intro T hT X
  obtain ⟨fs, hret, hrun, hended, hW, hframe⟩ := X.leave (v := some (.int 1)) (hlocks := hlocks) (fun h => by rw [hr] at h; cases h)
  have hmeth' : T.vm.method? m = some meth := X.method'
  refine ⟨T.setFrames fs, ?_, .returned (some (.int 1)), hrun, hended, rfl, ⟨_, rfl⟩, hW, hframe⟩
  jvm_step X.here [X.here.top, hx, hb, hdg, hmeth', hr, ret, narrow_b1]
  (try refine ⟨rfl, ?_⟩); (try refine ⟨rfl, ?_⟩)
  first | (intro acts; rw [hret _ acts rfl rfl rfl]) | rw [hret _ _ rfl rfl rfl]
  exact Steps.refl _
def FLp (G : aG) (L : Nat) (xs : Nat → Int32) (s : State) : Prop := s.heap.size = gB G ∧ va_X (gS G) L xs s s.heap ∧ gS G < s.heap.size
def FLw (G : aG) (L : Nat) (xs : Nat → Int32) : FT := fun below args s t => FLp G L xs s → lw_Z below args s t
section LAW
variable {G : aG} {L : Nat} {xs : Nat → Int32} {d mc ms : Nat} {pc pc2 tgt : Nat} {lv lv2 : List (Nat × Value)} {st : List Value} {w : aH} {k n : Nat}
theorem aw_lret (hd : DN code pc .ireturn 1 pc2) (hk : k ≤ 61024) (hn : n ≤ 8913034) : AW G m_Law_law d mc ms (FLw G L xs) pc lv [.int 1] w k n := by
  obtain ⟨hd, rfl⟩ := hd
  intro p l e R s m args below meth c H locs ls X hR hl
  have hS := X.2.2.2.2.2.2.2.2.2.1
  by_cases hP : FLp G L xs s
  · have key : W p l.1 e R s m args below meth c H locs k n (lw_Z below args s) (F0 m pc ls [.int 1]) := va_forget (fun q hq => by rw [hP.1]; exact hS.2.2 q hq) (W.widen hk hn (lw_ret X.1 X.2.1 X.2.2.2.2.2.1 X.2.2.2.2.2.2.1 hd))
    intro T hT XT
    obtain ⟨t, a1, b1⟩ := key T hT XT
    exact ⟨t, a1, fun _ => b1⟩
  · exact fun T hT XT => ⟨_, Steps.refl _, fun h => absurd h hP⟩
theorem aw_sld {i : Nat} {My : MethodName} {Mc : ByteArray} {Ml : Nat} {Mr : Option FieldType} (hd : DN Mc pc .iaload 1 pc2) (hi : i < L) (hL : L ≤ 2560) (kk : AW G (My, Mc, Ml, Mr) d mc ms (FLw G L xs) pc2 lv (.int (xs i) :: st) w k n) : AW G (My, Mc, Ml, Mr) d mc ms (FLw G L xs) pc lv (.int (nI i) :: .ref 1 :: st) w k n := by
  obtain ⟨hd, rfl⟩ := hd
  intro p l e R s m args below meth c H locs ls X hR hl
  have hS := X.2.2.2.2.2.2.2.2.2.1
  by_cases hP : FLp G L xs s
  · have hbA : ¬ gA G (gS G) := fun h => by
      have h1 : gB G ≤ gS G := h
      have h2 := hP.2.2
      rw [hP.1] at h2
      omega
    have kk2 := kk p l e R s m args below meth c H locs ls X hR hl
    refine va_sld X.1 X.2.1 hP.2.1 hP.2.2 hbA hS (i := nI i) (vp_in_nI hi (by omega)) hd ?_
    rw [nI_clamp (by omega)]
    exact kk2
  · exact fun T hT XT => ⟨_, Steps.refl _, fun h => absurd h hP⟩
theorem aw_slen {My : MethodName} {Mc : ByteArray} {Ml : Nat} {Mr : Option FieldType} (hd : DN Mc pc .arraylength 1 pc2) (kk : AW G (My, Mc, Ml, Mr) d mc ms (FLw G L xs) pc2 lv (.int (nI L) :: st) w k n) : AW G (My, Mc, Ml, Mr) d mc ms (FLw G L xs) pc lv (.ref 1 :: st) w k n := by
  obtain ⟨hd, rfl⟩ := hd
  intro p l e R s m args below meth c H locs ls X hR hl
  have hS := X.2.2.2.2.2.2.2.2.2.1
  by_cases hP : FLp G L xs s
  · have hbA : ¬ gA G (gS G) := fun h => by
      have h1 : gB G ≤ gS G := h
      have h2 := hP.2.2
      rw [hP.1] at h2
      omega
    exact va_slen X.1 X.2.1 hP.2.1 hP.2.2 hbA hS hd (kk p l e R s m args below meth c H locs ls X hR hl)
  · exact fun T hT XT => ⟨_, Steps.refl _, fun h => absurd h hP⟩
end LAW
theorem lcmp_self (v : Int64) : lg_cmp v v = 0 := by
  unfold lg_cmp
  rw [if_neg (show ¬ v > v from Int64.lt_irrefl), if_pos rfl]
theorem len5 {L i : Nat} (hL : L ≤ 2560) (hi : i ≤ 3000) (h : ¬ nI L - nI 5 < nI i) : i + 5 ≤ L := by
  by_cases e : 5 ≤ L
  · rw [pk_sub e] at h
    have : ¬ L - 5 < i := fun z => h ((nI_ltI (a := L - 5) (b := i) (by omega) (by omega)).mpr z)
    omega
  · exfalso
    apply h
    have h0 : (nI i).toInt = (i : Int) := nI_toInt (by omega)
    rw [Int32.lt_iff_toInt_lt, h0]
    match L, e with
    | 0, _ => have : (nI 0 - nI 5).toInt = -5 := by decide
              omega
    | 1, _ => have : (nI 1 - nI 5).toInt = -4 := by decide
              omega
    | 2, _ => have : (nI 2 - nI 5).toInt = -3 := by decide
              omega
    | 3, _ => have : (nI 3 - nI 5).toInt = -2 := by decide
              omega
    | 4, _ => have : (nI 4 - nI 5).toInt = -1 := by decide
              omega
    | k + 5, e => omega
/-- between two calls: the class and the reference hold the same house -/
def LSt (h : Nat → Option aC) (x a o j k n : Nat) : Prop := ∃ (B : LB) (hs : HSt) (ad : AD) (A : Nat → Nat) (most : Nat) (fl : WFl) (L L2 : List Nat) (ar : Nat → Nat → Int32) (n9 : Nat) (gs : List GSt) (lg : Lg) (xs : List Int32) (cap : Nat) (Am : Nat → Nat) (sc : Nat → Int32) (arm : Nat → Nat → Int32) (fo : Nat → Int64),
  CL h x B hs ad A most fl L L2 ar n9 gs lg xs cap ∧ MoS h a Am sc arm ∧ MoA sc arm hs gs lg xs ∧ VA hs gs ∧ lg.length ≤ j ∧ h o = some (cL 120 1 fo) ∧ KB k n j most cap
