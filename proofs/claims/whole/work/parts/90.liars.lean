/-! liars: the first of the least sets -/
def pcb (b : Nat) : Nat := ctn (fun p => b.testBit p) 12
theorem bcn_pcb0 : ∀ i, i < 64 → ∀ j, j < 64 → bcn (nI (64 * i + j)) = nI (pcb (64 * i + j)) := by decide +kernel
theorem bcn_pcb (b : Nat) (h : b < 4096) : bcn (nI b) = nI (pcb b) := by
  have := bcn_pcb0 (b / 64) (by omega) (b % 64) (by omega)
  rw [show 64 * (b / 64) + b % 64 = b from by omega] at this; exact this
def lowi (u : Nat) : Nat := ((List.range 12).find? (fun p => u.testBit p)).getD 0
theorem low_b0 : ∀ i, i < 64 → ∀ j, j < 64 → 64 * i + j ≠ 0 → nI (64 * i + j) &&& -(nI (64 * i + j)) = nI (2 ^ lowi (64 * i + j)) := by decide +kernel
theorem low_b (u : Nat) (h : u < 4096) (h0 : u ≠ 0) : nI u &&& -(nI u) = nI (2 ^ lowi u) := by
  have := low_b0 (u / 64) (by omega) (u % 64) (by omega)
  rw [show 64 * (u / 64) + u % 64 = u from by omega] at this; exact this h0
theorem xor_z {a b : Nat} (h : a ^^^ b = 0) : a = b := by
  apply Nat.eq_of_testBit_eq
  intro q
  have := congrArg (fun z => z.testBit q) h
  simp only [Nat.testBit_xor, Nat.zero_testBit] at this
  cases e1 : a.testBit q <;> cases e2 : b.testBit q <;> simp_all
theorem nI_xor (a b : Nat) : nI a ^^^ nI b = nI (a ^^^ b) := by
  apply Int32.toBitVec_inj.1
  show BitVec.ofNat 32 a ^^^ BitVec.ofNat 32 b = BitVec.ofNat 32 (a ^^^ b)
  apply BitVec.eq_of_getLsbD_eq
  intro i hi
  simp [hi]
def Lx (a b : Nat) : Prop := ∃ p, a.testBit p = true ∧ b.testBit p = false ∧ ∀ q, q < p → a.testBit q = b.testBit q
theorem Lx.tr {a b c : Nat} (h : Lx a b) (h2 : Lx b c) : Lx a c := by
  obtain ⟨p, p1, p2, p3⟩ := h
  obtain ⟨q, q1, q2, q3⟩ := h2
  rcases Nat.lt_trichotomy p q with e | e | e
  · exact ⟨p, p1, by rw [← q3 p e]; exact p2, fun r hr => (p3 r hr).trans (q3 r (by omega))⟩
  · subst e; rw [p2] at q1; cases q1
  · exact ⟨q, by rw [p3 q e]; exact q1, q2, fun r hr => (p3 r (by omega)).trans (q3 r hr)⟩
theorem lowi_s {u : Nat} (hu : u < 4096) (h0 : u ≠ 0) : u.testBit (lowi u) = true ∧ (∀ q, q < lowi u → u.testBit q = false) ∧ lowi u < 12 := by
  unfold lowi
  cases e : (List.range 12).find? (fun p => u.testBit p) with
  | none =>
    exfalso
    rw [List.find?_eq_none] at e
    apply h0
    apply Nat.eq_of_testBit_eq
    intro q
    rw [Nat.zero_testBit]
    by_cases hq : q < 12
    · simpa using e q (List.mem_range.mpr hq)
    · exact Nat.testBit_lt_two_pow (Nat.lt_of_lt_of_le hu (Nat.pow_le_pow_right (n := 2) (i := 12) (by decide) (by omega)))
  | some i =>
    rw [List.find?_range_eq_some] at e
    refine ⟨e.1, fun q hq => ?_, List.mem_range.mp e.2.1⟩
    have := e.2.2 q hq
    simpa using this
/-- ahead of another set -/
def ahs (a b : Nat) : Bool := decide (pcb a < pcb b) || (decide (pcb a = pcb b) && (decide (a ≠ b) && a.testBit (lowi (a ^^^ b))))
theorem ahs_iff {a b : Nat} (ha : a < 4096) (hb : b < 4096) : ahs a b = true ↔ pcb a < pcb b ∨ (pcb a = pcb b ∧ Lx a b) := by
  unfold ahs
  simp only [Bool.or_eq_true, Bool.and_eq_true, decide_eq_true_eq]
  refine or_congr Iff.rfl (and_congr Iff.rfl ?_)
  constructor
  · rintro ⟨h1, h2⟩
    have hu : a ^^^ b < 4096 := Nat.xor_lt_two_pow (n := 12) ha hb
    have h0 : a ^^^ b ≠ 0 := fun z => h1 (xor_z z)
    obtain ⟨k1, k2, -⟩ := lowi_s hu h0
    refine ⟨lowi (a ^^^ b), h2, ?_, fun q hq => ?_⟩
    · rw [Nat.testBit_xor, h2] at k1; simpa using k1
    · have := k2 q hq
      rw [Nat.testBit_xor] at this
      cases e1 : a.testBit q <;> cases e2 : b.testBit q <;> simp_all
  · rintro ⟨p, p1, p2, p3⟩
    have h1 : a ≠ b := fun z => by rw [z, p2] at p1; cases p1
    have hu : a ^^^ b < 4096 := Nat.xor_lt_two_pow (n := 12) ha hb
    have h0 : a ^^^ b ≠ 0 := fun z => h1 (xor_z z)
    obtain ⟨k1, k2, -⟩ := lowi_s hu h0
    have e : lowi (a ^^^ b) = p := by
      rcases Nat.lt_trichotomy (lowi (a ^^^ b)) p with e | e | e
      · rw [Nat.testBit_xor, p3 _ e] at k1; simp at k1
      · exact e
      · have := k2 p e; rw [Nat.testBit_xor, p1, p2] at this; cases this
    exact ⟨h1, by rw [e]; exact p1⟩
theorem ahs_tr {a b c : Nat} (ha : a < 4096) (hb : b < 4096) (hc : c < 4096) (h : ahs a b = true) (h2 : ahs b c = true) : ahs a c = true := by
  rw [ahs_iff ha hb] at h
  rw [ahs_iff hb hc] at h2
  rw [ahs_iff ha hc]
  rcases h with h | ⟨h, hl⟩ <;> rcases h2 with h2 | ⟨h2, hl2⟩
  · left; omega
  · left; omega
  · left; omega
  · right; exact ⟨by omega, hl.tr hl2⟩
/-- sets -/
theorem ctn_mono {p q : Nat → Bool} : ∀ {n : Nat}, (∀ k, k < n → p k = true → q k = true) → ctn p n ≤ ctn q n
  | 0, _ => Nat.le_refl _
  | n + 1, h => by
    have ih := ctn_mono (n := n) (fun k hk => h k (by omega))
    show _ + _ ≤ _ + _
    by_cases e : p n = true
    · rw [if_pos e, if_pos (h n (by omega) e)]; omega
    · rw [if_neg e]; omega
theorem ctn_eqv {p q : Nat → Bool} : ∀ {n : Nat}, (∀ k, k < n → p k = true → q k = true) → ctn p n = ctn q n → ∀ k, k < n → p k = q k
  | 0, _, _, k, hk => absurd hk (Nat.not_lt_zero _)
  | n + 1, h, he, k, hk => by
    have h1 := ctn_mono (n := n) (fun k hk => h k (by omega))
    have he2 : ctn p n + (if p n then 1 else 0) = ctn q n + (if q n then 1 else 0) := he
    have hpn : p n = q n ∧ ctn p n = ctn q n := by
      cases e1 : p n <;> cases e2 : q n
      · rw [e1, e2] at he2; exact ⟨rfl, by simpa using he2⟩
      · rw [e1, e2] at he2; simp at he2; omega
      · rw [h n (by omega) e1] at e2; cases e2
      · rw [e1, e2] at he2; exact ⟨rfl, by simpa using he2⟩
    by_cases e : k = n
    · rw [e]; exact hpn.1
    · exact ctn_eqv (n := n) (fun k hk => h k (by omega)) hpn.2 k (by omega)
theorem pcb_or {S p : Nat} (hp : p < 12) (h : S.testBit p = false) : pcb (S ||| 2 ^ p) = pcb S + 1 := by
  unfold pcb
  have : ∀ n, ctn (fun q => (S ||| 2 ^ p).testBit q) n = ctn (fun q => S.testBit q) n + (if p < n then 1 else 0) := by
    intro n
    induction n with
    | zero => rfl
    | succ n ih =>
      show ctn (fun q => (S ||| 2 ^ p).testBit q) n + _ = ctn (fun q => S.testBit q) n + _ + _
      rw [ih]
      by_cases e : n = p
      · subst e
        have h1 : (S ||| 2 ^ n).testBit n = true := or_bit_eq
        simp only [h1, h]
        rw [if_neg (Nat.lt_irrefl n), if_pos (Nat.lt_succ_self n)]
        simp
      · have h1 : (S ||| 2 ^ p).testBit n = S.testBit n := or_bit_ne e
        simp only [h1]
        by_cases e2 : p < n
        · rw [if_pos e2, if_pos (show p < n + 1 by omega)]; omega
        · rw [if_neg e2, if_neg (show ¬ p < n + 1 by omega)]; omega
  rw [this 12, if_pos hp]
theorem sub_eq {S T : Nat} (hS : S < 4096) (hT : T < 4096) (hsub : ∀ q, S.testBit q = true → T.testBit q = true) (he : pcb S = pcb T) : S = T := by
  apply Nat.eq_of_testBit_eq
  intro q
  by_cases hq : q < 12
  · exact ctn_eqv (fun k _ => hsub k) he q hq
  · have h2 : (4096 : Nat) ≤ 2 ^ q := Nat.pow_le_pow_right (n := 2) (i := 12) (by decide) (by omega)
    rw [Nat.testBit_lt_two_pow (by omega), Nat.testBit_lt_two_pow (by omega)]
/-- T is set and m more of the last k that have readings -/
def Ext (hs : HSt) (set k m T : Nat) : Prop := T < 4096 ∧ (∀ p, T.testBit p = true → set.testBit p = true ∨ (hs.1.length - k ≤ p ∧ p < hs.1.length ∧ hasR hs p = true)) ∧ (∀ p, set.testBit p = true → T.testBit p = true) ∧ pcb T = pcb set + m
theorem ext_0 {hs : HSt} {set k T : Nat} (hs2 : set < 4096) (h : Ext hs set k 0 T) : T = set := (sub_eq hs2 h.1 h.2.2.1 (by have := h.2.2.2; omega)).symm
theorem lyG_spec {hs : HSt} (hv : VH hs) : ∀ (k m set : Nat), k ≤ hs.1.length → set < 4096 → (∀ p, hs.1.length - k ≤ p → set.testBit p = false) → (∀ T, Ext hs set k m T → asT hs T ≠ 0 → lyG hs m k set ≠ 0) ∧ (lyG hs m k set ≠ 0 → ∃ T, lyG hs m k set = T ||| 4096 ∧ Ext hs set k m T ∧ asT hs T ≠ 0 ∧ ∀ T2, Ext hs set k m T2 → asT hs T2 ≠ 0 → T = T2 ∨ Lx T T2) := by
  have hp12 := hv.1.1
  have base : ∀ (k set : Nat), set < 4096 → (∀ T, Ext hs set k 0 T → asT hs T ≠ 0 → lyG hs 0 k set ≠ 0) ∧ (lyG hs 0 k set ≠ 0 → ∃ T, lyG hs 0 k set = T ||| 4096 ∧ Ext hs set k 0 T ∧ asT hs T ≠ 0 ∧ ∀ T2, Ext hs set k 0 T2 → asT hs T2 ≠ 0 → T = T2 ∨ Lx T T2) := by
    intro k set hset
    rw [lyG_0]
    constructor
    · intro T hT ha
      rw [ext_0 hset hT] at ha
      rw [if_neg ha]
      intro z
      have : (set ||| 4096).testBit 12 = true := by rw [Nat.testBit_or]; simp [show Nat.testBit 4096 12 = true from by decide]
      rw [z, Nat.zero_testBit] at this; cases this
    · intro h
      by_cases ha : asT hs set = 0
      · rw [if_pos ha] at h; exact absurd rfl h
      · rw [if_neg ha]
        exact ⟨set, rfl, ⟨hset, fun p hp => Or.inl hp, fun p hp => hp, by omega⟩, ha, fun T2 h2 _ => Or.inl (ext_0 hset h2).symm⟩
  intro k
  induction k with
  | zero =>
    intro m set hk hset hlow
    cases m with
    | zero => exact base 0 set hset
    | succ m =>
      have hno : ∀ T, ¬ Ext hs set 0 (m + 1) T := by
        intro T h
        have : T = set := by
          apply Nat.eq_of_testBit_eq
          intro q
          cases e : T.testBit q
          · cases e2 : set.testBit q
            · rfl
            · rw [h.2.2.1 q e2] at e; cases e
          · rcases h.2.1 q e with z | z
            · exact z.symm
            · omega
        have h4 := h.2.2.2
        rw [this] at h4; omega
      rw [lyG_z]
      exact ⟨fun T hT _ => absurd hT (hno T), fun h => absurd rfl h⟩
  | succ k ih =>
    intro m set hk hset hlow
    cases m with
    | zero => exact base (k + 1) set hset
    | succ m =>
      have hly := lyG_s (hs := hs) (m := m) (set := set) (i := hs.1.length - (k + 1)) (by omega)
      rw [show hs.1.length - (hs.1.length - (k + 1)) = k + 1 from by omega, show hs.1.length - (hs.1.length - (k + 1) + 1) = k from by omega] at hly
      have hpl : hs.1.length - (k + 1) < 12 := by omega
      have hps := hlow _ (Nat.le_refl _)
      have hob := or_bd hset hpl
      have hpc := pcb_or hpl hps
      have ih1 := ih m (set ||| 2 ^ (hs.1.length - (k + 1))) (by omega) hob (fun p hp => by rw [or_bit_ne (by omega)]; exact hlow p (by omega))
      have ih2 := ih (m + 1) set (by omega) hset (fun p hp => hlow p (by omega))
      generalize hP : hs.1.length - (k + 1) = P at *
      -- the two kinds
      have kind1 : ∀ T, Ext hs set (k + 1) (m + 1) T → T.testBit P = true → hasR hs P = true ∧ Ext hs (set ||| 2 ^ P) k m T := by
        intro T h hb
        have hr : hasR hs P = true := by
          rcases h.2.1 P hb with z | z
          · rw [hps] at z; cases z
          · exact z.2.2
        refine ⟨hr, h.1, fun p hp => ?_, fun p hp => ?_, by rw [hpc]; have := h.2.2.2; omega⟩
        · by_cases e : p = P
          · subst e; exact Or.inl or_bit_eq
          · rcases h.2.1 p hp with z | z
            · exact Or.inl (or_up z)
            · exact Or.inr ⟨by omega, z.2⟩
        · by_cases e : p = P
          · rw [e]; exact hb
          · rw [or_bit_ne e] at hp; exact h.2.2.1 p hp
      have kind1b : ∀ T, hasR hs P = true → Ext hs (set ||| 2 ^ P) k m T → Ext hs set (k + 1) (m + 1) T ∧ T.testBit P = true := by
        intro T hr h
        refine ⟨⟨h.1, fun p hp => ?_, fun p hp => h.2.2.1 p (or_up hp), by have := h.2.2.2; rw [hpc] at this; omega⟩, h.2.2.1 P or_bit_eq⟩
        rcases h.2.1 p hp with z | z
        · by_cases e : p = P
          · subst e; exact Or.inr ⟨by omega, by omega, hr⟩
          · rw [or_bit_ne e] at z; exact Or.inl z
        · exact Or.inr ⟨by omega, z.2⟩
      have kind2 : ∀ T, Ext hs set (k + 1) (m + 1) T → T.testBit P = false → Ext hs set k (m + 1) T := by
        intro T h hb
        refine ⟨h.1, fun p hp => ?_, h.2.2.1, h.2.2.2⟩
        rcases h.2.1 p hp with z | z
        · exact Or.inl z
        · by_cases e : p = P
          · rw [e, hb] at hp; cases hp
          · exact Or.inr ⟨by omega, z.2⟩
      have kind2b : ∀ T, Ext hs set k (m + 1) T → Ext hs set (k + 1) (m + 1) T ∧ T.testBit P = false := by
        intro T h
        refine ⟨⟨h.1, fun p hp => ?_, h.2.2.1, h.2.2.2⟩, ?_⟩
        · rcases h.2.1 p hp with z | z
          · exact Or.inl z
          · exact Or.inr ⟨by omega, z.2⟩
        · cases e : T.testBit P
          · rfl
          · rcases h.2.1 P e with z | z
            · rw [hps] at z; cases z
            · omega
      have below : ∀ T, Ext hs set (k + 1) (m + 1) T → ∀ q, q < P → T.testBit q = set.testBit q := by
        intro T h q hq
        cases e : T.testBit q
        · cases e2 : set.testBit q
          · rfl
          · rw [h.2.2.1 q e2] at e; cases e
        · rcases h.2.1 q e with z | z
          · exact z.symm
          · omega
      by_cases h1 : (if hasR hs P then lyG hs m k (set ||| 2 ^ P) else 0) = 0
      · rw [if_pos h1] at hly
        have hno1 : ∀ T, Ext hs set (k + 1) (m + 1) T → asT hs T ≠ 0 → T.testBit P = false := by
          intro T h ha
          cases e : T.testBit P
          · rfl
          · obtain ⟨hr, hx⟩ := kind1 T h e
            rw [if_pos hr] at h1
            exact absurd h1 (ih1.1 T hx ha)
        rw [hly]
        constructor
        · intro T h ha
          exact ih2.1 T (kind2 T h (hno1 T h ha)) ha
        · intro h
          obtain ⟨T, t1, t2, t3, t4⟩ := ih2.2 h
          exact ⟨T, t1, (kind2b T t2).1, t3, fun T2 h2 ha => t4 T2 (kind2 T2 h2 (hno1 T2 h2 ha)) ha⟩
      · rw [if_neg h1] at hly
        have hr : hasR hs P = true := by
          cases e : hasR hs P
          · rw [e] at h1; exact absurd rfl h1
          · rfl
        rw [if_pos hr] at hly h1
        rw [hly]
        refine ⟨fun _ _ _ => h1, fun _ => ?_⟩
        obtain ⟨T, t1, t2, t3, t4⟩ := ih1.2 h1
        obtain ⟨u1, u2⟩ := kind1b T hr t2
        refine ⟨T, t1, u1, t3, fun T2 h2 ha => ?_⟩
        cases e : T2.testBit P
        · exact Or.inr ⟨P, u2, e, fun q hq => by rw [below T u1 q hq, below T2 h2 q hq]⟩
        · exact t4 T2 (kind1 T2 h2 e).2 ha
theorem liM_lt {hs : HSt} (hv : VH hs) (c : Nat) : liM hs c < 4096 := orb_lt _ hv.1.1
theorem okc_iff {hs : HSt} {b c : Nat} : okc hs b c hs.1.length = true ↔ ∀ p, (liM hs c).testBit p = true → b.testBit p = true := by
  unfold okc
  rw [List.all_eq_true]
  constructor
  · intro h p hp
    unfold liM at hp
    rw [orb_bit] at hp
    simp only [Bool.and_eq_true, decide_eq_true_eq] at hp
    have := h p (List.mem_range.mpr hp.1)
    rw [hp.2] at this; simpa using this
  · intro h p hp
    cases e : lie hs c p
    · rfl
    · have := h p (by unfold liM; rw [orb_bit, decide_eq_true (List.mem_range.mp hp), e]; rfl)
      rw [this]; rfl
theorem asT_iff {hs : HSt} (hv : VH hs) {b : Nat} : asT hs b ≠ 0 ↔ ∃ c, rch hs c = true ∧ ∀ p, (liM hs c).testBit p = true → b.testBit p = true := by
  constructor
  · intro h
    obtain ⟨c, -, h2⟩ := ctn_pos h
    unfold tld at h2
    simp only [Bool.and_eq_true] at h2
    exact ⟨c, h2.1, okc_iff.mp h2.2⟩
  · rintro ⟨c, h1, h2⟩ z
    have hcl := (rcs_iff.mp h1).lt hv
    have := ctn_zero z c hcl
    unfold tld at this
    rw [h1, okc_iff.mpr h2] at this; cases this
/-- the least of the sets that the reached codes belie -/
def LiB (hs : HSt) (b : Nat) : Prop := (∃ c, rch hs c = true ∧ liM hs c = b) ∧ ∀ c, rch hs c = true → ahs (liM hs c) b = false
theorem asT_bit12 {hs : HSt} (hv : VH hs) (b : Nat) : asT hs (b ||| 4096) = asT hs b := by
  have hp12 := hv.1.1
  have e : tld hs (b ||| 4096) = tld hs b := by
    funext c
    unfold tld
    congr 1
    rw [Bool.eq_iff_iff, okc_iff, okc_iff]
    refine forall_congr' (fun p => ?_)
    refine imp_congr_right (fun hp => ?_)
    have hpl : p < 12 := by
      unfold liM at hp; rw [orb_bit] at hp
      simp only [Bool.and_eq_true, decide_eq_true_eq] at hp; omega
    rw [Nat.testBit_or, show (4096 : Nat) = 2 ^ 12 from rfl, Nat.testBit_two_pow_of_ne (by omega), Bool.or_false]
  unfold asT; rw [e]
theorem liB_lr {hs : HSt} (hv : VH hs) {b : Nat} (h : LiB hs b) : (pcb b ≤ 3 → lrM hs = some (pcb b) ∧ lyG hs (pcb b) hs.1.length 0 = b ||| 4096) ∧ (3 < pcb b → lrM hs = none) := by
  have hp12 := hv.1.1
  obtain ⟨⟨c0, r0, e0⟩, hmin⟩ := h
  have hb : b < 4096 := by rw [← e0]; exact liM_lt hv c0
  have hsp := fun m => lyG_spec hv hs.1.length m 0 (Nat.le_refl _) (by decide) (fun p _ => Nat.zero_testBit p)
  have pc0 : pcb 0 = 0 := by decide
  have hpcmin : ∀ c, rch hs c = true → pcb b ≤ pcb (liM hs c) := fun c hc => Nat.not_lt.mp (fun q => by
    have h9 := hmin c hc
    rw [(ahs_iff (liM_lt hv c) hb).mpr (Or.inl q)] at h9; cases h9)
  have hless : ∀ m, m < pcb b → lyG hs m hs.1.length 0 = 0 := fun m hm => Classical.byContradiction (fun hne => by
    obtain ⟨T, t1, t2, t3, t4⟩ := (hsp m).2 hne
    obtain ⟨c, c1, c2⟩ := (asT_iff hv).mp t3
    have h1 : pcb (liM hs c) ≤ pcb T := ctn_mono (fun p _ => c2 p)
    have h2 := t2.2.2.2
    have := hpcmin c c1
    rw [pc0] at h2; omega)
  have hat : lyG hs (pcb b) hs.1.length 0 = b ||| 4096 := by
    have hE : Ext hs 0 hs.1.length (pcb b) b := by
      refine ⟨hb, fun p hp => Or.inr ?_, fun p hp => (by rw [Nat.zero_testBit] at hp; cases hp), by rw [pc0]; omega⟩
      rw [← e0] at hp
      unfold liM at hp; rw [orb_bit] at hp
      simp only [Bool.and_eq_true, decide_eq_true_eq] at hp
      refine ⟨by omega, hp.1, ?_⟩
      have := hp.2
      unfold lie at this
      simp only [Bool.and_eq_true] at this
      exact this.1
    have hA : asT hs b ≠ 0 := (asT_iff hv).mpr ⟨c0, r0, fun p hp => by rw [← e0]; exact hp⟩
    obtain ⟨T, t1, t2, t3, t4⟩ := (hsp (pcb b)).2 ((hsp (pcb b)).1 b hE hA)
    obtain ⟨c, c1, c2⟩ := (asT_iff hv).mp t3
    have h1 : pcb (liM hs c) ≤ pcb T := ctn_mono (fun p _ => c2 p)
    have h2 := t2.2.2.2
    rw [pc0] at h2
    have h3 := hpcmin c c1
    have eT : liM hs c = T := sub_eq (liM_lt hv c) t2.1 c2 (by omega)
    rcases t4 b hE hA with e | e
    · rw [t1, e]
    · have h9 := hmin c c1
      rw [eT] at h9
      rw [(ahs_iff t2.1 hb).mpr (Or.inr ⟨by omega, e⟩)] at h9; cases h9
  constructor
  · intro h3
    refine ⟨find_rng (show pcb b < 4 by omega) (fun k hk => by rw [hless k hk]; rfl) ?_, hat⟩
    refine decide_eq_true ?_
    rw [hat]
    intro z
    have : (b ||| 4096).testBit 12 = true := by rw [Nat.testBit_or]; simp [show Nat.testBit 4096 12 = true from by decide]
    rw [z, Nat.zero_testBit] at this; cases this
  · intro h3
    exact find_rng0 (fun k hk => by rw [hless k (by omega)]; rfl)
theorem bts_bit12 {b n : Nat} (hn : n ≤ 12) : bts (b ||| 4096) n = bts b n := by
  unfold bts
  refine List.filter_congr (fun p hp => ?_)
  have := List.mem_range.mp hp
  rw [Nat.testBit_or, show (4096 : Nat) = 2 ^ 12 from rfl, Nat.testBit_two_pow_of_ne (by omega), Bool.or_false]
theorem pcb_le (b : Nat) : pcb b ≤ 12 := ctn_le _ _
theorem and_pow {x p : Nat} (hx : x < 4096) (hp : p < 12) (h : nI x &&& nI (2 ^ p) = 0) : x.testBit p = false := by
  have h2 : 2 ^ p < 4096 := show 2 ^ p < 2 ^ 12 from Nat.pow_lt_pow_right (by decide) hp
  rw [nI_and _ _ (by omega) (by omega)] at h
  have h3 := (nI_eq (a := x &&& 2 ^ p) (b := 0) (by have := Nat.and_le_left (n := x) (m := 2 ^ p); omega) (by decide)).mp h
  have h4 : (x &&& 2 ^ p).testBit p = false := by rw [h3]; exact Nat.zero_testBit p
  rw [Nat.testBit_and, Nat.testBit_two_pow_self, Bool.and_true] at h4
  exact h4
theorem and_pow2 {x p : Nat} (hx : x < 4096) (hp : p < 12) (h : ¬ nI x &&& nI (2 ^ p) = 0) : x.testBit p = true := by
  cases e : x.testBit p
  · exfalso
    apply h
    have h2 : 2 ^ p < 4096 := show 2 ^ p < 2 ^ 12 from Nat.pow_lt_pow_right (by decide) hp
    rw [nI_and _ _ (by omega) (by omega)]
    have : x &&& 2 ^ p = 0 := by
      apply Nat.eq_of_testBit_eq
      intro q
      rw [Nat.testBit_and, Nat.zero_testBit]
      by_cases e2 : q = p
      · rw [e2, e]; rfl
      · rw [Nat.testBit_two_pow_of_ne (fun z => e2 z.symm), Bool.and_false]
    rw [this]; rfl
  · rfl
theorem and_z0 (x : Int32) : x &&& (nI 0 &&& -(nI 0)) = 0 := by
  rw [show nI 0 &&& -(nI 0) = 0 from by decide]
  apply Int32.toBitVec_inj.1
  rw [Int32.toBitVec_and]
  simp
set_option maxHeartbeats 4000000 in
set_option maxRecDepth 20000 in
theorem c_Walk_isAhead {G : aG} {nx : Nat} {h : Nat → Option aC} {x y : Nat} (hx : x < 4096) (hy : y < 4096) : AMet G m_Walk_isAhead 1 0 0 [.int (nI x), .int (nI y)] (nx, h) (RV (.int (bI (ahs x y))) (nx, h)) := by
  have hpx := pcb_le x
  have hpy := pcb_le y
  refine amet_of pf_Walk_isAhead (Nat.le_of_ble_eq_true rfl) ?_
  show AW G m_Walk_isAhead 1 0 0 _ 0 [(0, .int (nI x)), (1, .int (nI y))] [] (nx, h) 0 0
  refine aw_iload_n (i := 0) d_Walk_isAhead_0 rfl rfl ?_
  apply aw_calls_p (c_Int_bitCount (nI x)) d_Walk_isAhead_1 cl_Walk_196; rfl; rfl; decide; exact Nat.le_of_ble_eq_true rfl; exact (Nat.le_refl _); exact (Nat.le_refl _)
  rw [bcn_pcb x hx]
  refine aw_iload_n (i := 1) d_Walk_isAhead_4 rfl rfl ?_
  apply aw_calls_p (c_Int_bitCount (nI y)) d_Walk_isAhead_5 cl_Walk_196; rfl; rfl; decide; exact Nat.le_of_ble_eq_true rfl; exact (Nat.le_refl _); exact (Nat.le_refl _)
  rw [bcn_pcb y hy]
  refine aw_isub d_Walk_isAhead_8 ?_
  refine aw_istore_n (i := 2) (lv2 := [(0, _), (1, _), (2, _)]) d_Walk_isAhead_9 rfl (by decide) rfl ?_
  refine aw_iload_n (i := 0) d_Walk_isAhead_10 rfl rfl ?_
  refine aw_iload_n (i := 1) d_Walk_isAhead_11 rfl rfl ?_
  refine aw_ixor d_Walk_isAhead_12 ?_
  rw [nI_xor]
  refine aw_istore_n (i := 3) (lv2 := [(0, _), (1, _), (2, _), (3, _)]) d_Walk_isAhead_13 rfl (by decide) rfl ?_
  refine aw_iload_n (i := 3) d_Walk_isAhead_14 rfl rfl ?_
  refine aw_iload_n (i := 3) d_Walk_isAhead_15 rfl rfl ?_
  refine aw_ineg d_Walk_isAhead_16 ?_
  refine aw_iand d_Walk_isAhead_17 ?_
  refine aw_istore (lv2 := [(0, _), (1, _), (2, _), (3, _), (4, _)]) d_Walk_isAhead_18 (by decide) rfl ?_
  refine aw_iload_n (i := 2) d_Walk_isAhead_20 rfl rfl ?_
  refine aw_if_lt d_Walk_isAhead_21 (fun br21_ => ?_) (fun br21_ => ?_)
  · skip
    have hr_ : ahs x y = true := by
      unfold ahs
      have : pcb x < pcb y := Nat.not_le.mp (fun q => by rw [pk_sub q] at br21_; exact absurd br21_ (nI_pos (by omega)))
      rw [decide_eq_true this]; rfl
    refine aw_iconst (v := nI 1) d_Walk_isAhead_35 (by decide) ?_
    refine aw_goto d_Walk_isAhead_36 ?_
    refine aw_zret d_Walk_isAhead_40 rfl rfl (Nat.le_refl _) (Nat.le_refl _) ?_
    exact ⟨by rw [hr_]; rfl, rfl⟩
  · skip
    have hge : pcb y ≤ pcb x := Nat.not_lt.mp (fun q => br21_ (pk_sneg (by omega) q))
    have hnl : decide (pcb x < pcb y) = false := decide_eq_false (by omega)
    refine aw_iload_n (i := 2) d_Walk_isAhead_24 rfl rfl ?_
    refine aw_if_ne d_Walk_isAhead_25 (fun br25_ => ?_) (fun br25_ => ?_)
    · skip
      have hr_ : ahs x y = false := by
        unfold ahs
        rw [hnl, decide_eq_false (fun e => br25_ (by rw [e, pk_sub (Nat.le_refl _), Nat.sub_self]; rfl))]; rfl
      refine aw_iconst (v := nI 0) d_Walk_isAhead_39 (by decide) ?_
      refine aw_zret d_Walk_isAhead_40 rfl rfl (Nat.le_refl _) (Nat.le_refl _) ?_
      exact ⟨by rw [hr_]; rfl, rfl⟩
    · skip
      have heq : pcb x = pcb y := by
        rw [pk_sub hge] at br25_
        have := (nI_eq (a := pcb x - pcb y) (b := 0) (by omega) (by decide)).mp br25_
        omega
      refine aw_iload_n (i := 0) d_Walk_isAhead_28 rfl rfl ?_
      refine aw_iload d_Walk_isAhead_29 rfl ?_
      refine aw_iand d_Walk_isAhead_31 ?_
      refine aw_if_eq d_Walk_isAhead_32 (fun br32_ => ?_) (fun br32_ => ?_)
      · skip
        have hr_ : ahs x y = false := by
          unfold ahs
          rw [hnl, decide_eq_true heq]
          by_cases e : x = y
          · rw [decide_eq_false (fun z => z e)]; rfl
          · have hu : x ^^^ y < 4096 := Nat.xor_lt_two_pow (n := 12) hx hy
            have h0 : x ^^^ y ≠ 0 := fun z => e (xor_z z)
            rw [low_b _ hu h0] at br32_
            rw [and_pow hx (lowi_s hu h0).2.2 br32_]; simp
        refine aw_iconst (v := nI 0) d_Walk_isAhead_39 (by decide) ?_
        refine aw_zret d_Walk_isAhead_40 rfl rfl (Nat.le_refl _) (Nat.le_refl _) ?_
        exact ⟨by rw [hr_]; rfl, rfl⟩
      · skip
        have hr_ : ahs x y = true := by
          unfold ahs
          rw [hnl, decide_eq_true heq]
          by_cases e : x = y
          · exfalso; rw [e, Nat.xor_self] at br32_; exact br32_ (and_z0 _)
          · have hu : x ^^^ y < 4096 := Nat.xor_lt_two_pow (n := 12) hx hy
            have h0 : x ^^^ y ≠ 0 := fun z => e (xor_z z)
            rw [low_b _ hu h0] at br32_
            rw [decide_eq_true e, and_pow2 hx (lowi_s hu h0).2.2 br32_]; rfl
        refine aw_iconst (v := nI 1) d_Walk_isAhead_35 (by decide) ?_
        refine aw_goto d_Walk_isAhead_36 ?_
        refine aw_zret d_Walk_isAhead_40 rfl rfl (Nat.le_refl _) (Nat.le_refl _) ?_
        exact ⟨by rw [hr_]; rfl, rfl⟩

set_option maxHeartbeats 4000000 in
set_option maxRecDepth 20000 in
theorem c_Walk_firstLiars {G : aG} {nx : Nat} {h h0 : Nat → Option aC} {hs : HSt} {ad : AD} {A : Nat → Nat} {most : Nat} {fl : WFl} {L L2 : List Nat} {ar : Nat → Nat → Int32} {n : Nat} (hm : WkF h0 h hs ad A most fl L L2 ar n) (hv : VH hs) (hC : CHT hs L ar) : AMet G m_Walk_firstLiars 4 0 0 [.ref (A 0)] (nx, h) (fun r w => ∃ v, r = some v ∧ ∃ b, v = .int (nI b) ∧ LiB hs b ∧ w = (nx, h)) := by
  have hp12 := hv.1.1
  have hs24 := hv.2.1
  have hall2 := hv.2.2.2.2.2.2.2
  have hmo := hm.mst
  have hLl := hC.len hv
  have hst := hsta_lt hv
  refine amet_of pf_Walk_firstLiars (Nat.le_of_ble_eq_true rfl) ?_
  show AW G m_Walk_firstLiars 4 0 0 _ 0 [(0, .ref (A 0))] [] (nx, h) 0 0
  refine aw_aload_n (i := 0) d_Walk_firstLiars_0 rfl rfl ?_
  apply aw_get d_Walk_firstLiars_1 fl_Walk_9; exact hm.2.2.1.1; rfl
  rw [hm.2.1]
  refine aw_aload_n (i := 0) d_Walk_firstLiars_4 rfl rfl ?_
  apply aw_get d_Walk_firstLiars_5 fl_Walk_9; exact hm.2.2.1.1; rfl
  rw [hm.2.1]
  apply aw_get d_Walk_firstLiars_8 fl_Walk_67; exact hm.1.1; rfl
  apply aw_callv_p (c_House_lies hm.1 hv hst) d_Walk_firstLiars_11 cl_Walk_190; exact hm.1.1; rfl; rfl; rfl; rfl; decide; exact Nat.le_of_ble_eq_true rfl; exact (Nat.le_refl _); exact (Nat.le_refl _)
  refine aw_istore_n (i := 1) (lv2 := [(0, _), (1, _)]) d_Walk_firstLiars_14 rfl (by decide) rfl ?_
  refine aw_iconst (v := nI 0) d_Walk_firstLiars_15 (by decide) ?_
  refine aw_istore_n (i := 2) (lv2 := [(0, _), (1, _), (2, _)]) d_Walk_firstLiars_16 rfl (by decide) rfl ?_
  suffices k0_ : ∀ i b, i ≤ L.length → (b < 4096 ∧ (∃ c, rch hs c = true ∧ liM hs c = b) ∧ (∀ k (hk : k < L.length), k < i → ahs (liM hs L[k]) b = false)) → AW G m_Walk_firstLiars 4 0 0 _ 17 [(0, .ref (A 0)), (1, .int (nI b)), (2, .int (nI i))] [] (nx, h) 0 0 from k0_ 0 _ (Nat.zero_le _) ⟨liM_lt hv _, ⟨hsta hs, rcs_iff.mpr (Rch.start rfl), rfl⟩, fun k hk hk2 => absurd hk2 (Nat.not_lt_zero _)⟩
  intro i b hi hI
  revert hI
  revert b
  suffices k1_ : ∀ b, (b < 4096 ∧ (∃ c, rch hs c = true ∧ liM hs c = b) ∧ (∀ k (hk : k < L.length), k < i → ahs (liM hs L[k]) b = false)) → AW G m_Walk_firstLiars 4 0 0 _ 17 [(0, .ref (A 0)), (1, .int (nI b)), (2, .int (nI i))] [] (nx, h) 0 0 from k1_
  refine upto (σ := Nat) (fun i => ∀ b, (b < 4096 ∧ (∃ c, rch hs c = true ∧ liM hs c = b) ∧ (∀ k (hk : k < L.length), k < i → ahs (liM hs L[k]) b = false)) → AW G m_Walk_firstLiars 4 0 0 _ 17 [(0, .ref (A 0)), (1, .int (nI b)), (2, .int (nI i))] [] (nx, h) 0 0) (fun i s => i = s) L.length ?_ i i hi rfl
  clear hi i
  intro i s9 hi hs9 ih b hI
  subst hs9
  have ih := fun q b => ih q (i + 1) rfl b
  obtain ⟨hb4, hbe, hbm⟩ := hI
  refine aw_iload_n (i := 2) d_Walk_firstLiars_17 rfl rfl ?_
  refine aw_aload_n (i := 0) d_Walk_firstLiars_18 rfl rfl ?_
  apply aw_get d_Walk_firstLiars_19 fl_Walk_30; exact hm.2.2.1.1; rfl
  refine li_size hm.Lr d_Walk_firstLiars_22 fl_Walk_75 ?_
  refine aw_icmpN_ge d_Walk_firstLiars_25 (by omega) (by omega) (fun br25_ => ?_) (fun br25_ => ?_)
  · skip
    have hB : LiB hs b := ⟨hbe, fun c hc => by
      obtain ⟨k, hk, e⟩ := List.getElem_of_mem ((hC.2.1 c).mpr (rcs_iff.mp hc))
      rw [← e]; exact hbm k hk (by omega)⟩
    refine aw_iload_n (i := 1) d_Walk_firstLiars_60 rfl rfl ?_
    refine aw_iret d_Walk_firstLiars_61 rfl (Nat.le_refl _) (Nat.le_refl _) ?_
    exact ⟨_, rfl, b, rfl, hB, rfl⟩
  · skip
    have hcl := hC.at hv br25_
    have hll := liM_lt hv L[i]
    have hrc : rch hs L[i] = true := rcs_iff.mpr ((hC.2.1 _).mp (List.getElem_mem br25_))
    refine aw_aload_n (i := 0) d_Walk_firstLiars_28 rfl rfl ?_
    apply aw_get d_Walk_firstLiars_29 fl_Walk_9; exact hm.2.2.1.1; rfl
    rw [hm.2.1]
    refine aw_aload_n (i := 0) d_Walk_firstLiars_32 rfl rfl ?_
    apply aw_get d_Walk_firstLiars_33 fl_Walk_30; exact hm.2.2.1.1; rfl
    refine aw_iload_n (i := 2) d_Walk_firstLiars_36 rfl rfl ?_
    apply aw_callv_p (c_Line_codeAt hm.Lr (i := i) br25_) d_Walk_firstLiars_37 cl_Walk_78; exact hm.Lr.ob.choose_spec; rfl; rfl; rfl; rfl; decide; exact Nat.le_of_ble_eq_true rfl; exact (Nat.le_refl _); exact (Nat.le_refl _)
    apply aw_callv_p (c_House_lies hm.1 hv hcl) d_Walk_firstLiars_40 cl_Walk_190; exact hm.1.1; rfl; rfl; rfl; rfl; decide; exact Nat.le_of_ble_eq_true rfl; exact (Nat.le_refl _); exact (Nat.le_refl _)
    refine aw_istore_n (i := 3) (lv2 := [(0, _), (1, _), (2, _), (3, _)]) d_Walk_firstLiars_43 rfl (by decide) rfl ?_
    refine aw_iload_n (i := 3) d_Walk_firstLiars_44 rfl rfl ?_
    refine aw_iload_n (i := 1) d_Walk_firstLiars_45 rfl rfl ?_
    apply aw_calls_p (c_Walk_isAhead hll hb4) d_Walk_firstLiars_46 cl_Walk_193; rfl; rfl; decide; exact Nat.le_of_ble_eq_true rfl; exact (Nat.le_refl _); exact (Nat.le_refl _)
    refine aw_ifB_eq d_Walk_firstLiars_49 (fun br49_ => ?_) (fun br49_ => ?_)
    · skip
      refine aw_iincN (lv2 := [(0, _), (1, _), (2, _), (3, _)]) d_Walk_firstLiars_54 (by decide) rfl rfl ?_
      refine aw_goto d_Walk_firstLiars_57 ?_
      refine aw_drop (lv2 := [(0, _), (1, _), (2, _)]) [0, 1, 2] rfl ?_
      exact ih br25_ b ⟨hb4, hbe, fun k hk hk2 => by
        by_cases e : k = i
        · subst e; exact br49_
        · exact hbm k hk (by omega)⟩
    · skip
      refine aw_iload_n (i := 3) d_Walk_firstLiars_52 rfl rfl ?_
      refine aw_istore_n (i := 1) (lv2 := [(0, _), (1, _), (2, _), (3, _)]) d_Walk_firstLiars_53 rfl (by decide) rfl ?_
      refine aw_iincN (lv2 := [(0, _), (1, _), (2, _), (3, _)]) d_Walk_firstLiars_54 (by decide) rfl rfl ?_
      refine aw_goto d_Walk_firstLiars_57 ?_
      refine aw_drop (lv2 := [(0, _), (1, _), (2, _)]) [0, 1, 2] rfl ?_
      exact ih br25_ (liM hs L[i]) ⟨hll, ⟨L[i], hrc, rfl⟩, fun k hk hk2 => by
        by_cases e : k = i
        · subst e
          cases e2 : ahs (liM hs L[k]) (liM hs L[k])
          · rfl
          · rcases (ahs_iff hll hll).mp e2 with z | ⟨_, p, z1, z2, _⟩
            · omega
            · rw [z1] at z2; cases z2
        · cases e2 : ahs (liM hs L[k]) (liM hs L[i])
          · rfl
          · have h9 := hbm k hk (by omega)
            rw [ahs_tr (liM_lt hv _) hll hb4 e2 br49_] at h9; cases h9⟩

theorem told_cnt {hs : HSt} {L : List Nat} {ar : Nat → Nat → Int32} (hv : VH hs) (hC : CHT hs L ar) (b : Nat) : cnt (fun c => okc hs b c hs.1.length) L = asT hs b := by
  refine len_eq (hC.1.filter _) (fun c => ?_)
  rw [List.mem_filter, hC.2.1 c]
  unfold tld
  simp only [Bool.and_eq_true]
  constructor
  · rintro ⟨h1, h2⟩; exact ⟨h1.lt hv, rcs_iff.mpr h1, h2⟩
  · rintro ⟨h1, h2, h3⟩; exact ⟨rcs_iff.mp h2, h3⟩
set_option maxHeartbeats 4000000 in
set_option maxRecDepth 20000 in
theorem c_Walk_countTold {G : aG} {nx : Nat} {h h0 : Nat → Option aC} {hs : HSt} {ad : AD} {A : Nat → Nat} {most : Nat} {fl : WFl} {L L2 : List Nat} {ar : Nat → Nat → Int32} {n : Nat} (hm : WkF h0 h hs ad A most fl L L2 ar n) (hv : VH hs) (hC : CHT hs L ar) {b : Nat} (hb : b < 4096) : AMet G m_Walk_countTold 4 0 0 [.ref (A 0), .int (nI b)] (nx, h) (RV (.int (nI (asT hs b))) (nx, h)) := by
  have hp12 := hv.1.1
  have hs24 := hv.2.1
  have hall2 := hv.2.2.2.2.2.2.2
  have hmo := hm.mst
  have hLl := hC.len hv
  refine amet_of pf_Walk_countTold (Nat.le_of_ble_eq_true rfl) ?_
  show AW G m_Walk_countTold 4 0 0 _ 0 [(0, .ref (A 0)), (1, .int (nI b))] [] (nx, h) 0 0
  refine aw_iconst (v := nI 0) d_Walk_countTold_0 (by decide) ?_
  refine aw_istore_n (i := 2) (lv2 := [(0, _), (1, _), (2, _)]) d_Walk_countTold_1 rfl (by decide) rfl ?_
  refine aw_iconst (v := nI 0) d_Walk_countTold_2 (by decide) ?_
  refine aw_istore_n (i := 3) (lv2 := [(0, _), (1, _), (2, _), (3, _)]) d_Walk_countTold_3 rfl (by decide) rfl ?_
  show AW G m_Walk_countTold 4 0 0 _ 4 [(0, .ref (A 0)), (1, .int (nI b)), (2, .int (nI (cnt (fun c => okc hs b c hs.1.length) (L.take 0)))), (3, .int (nI 0))] [] (nx, h) 0 0
  refine upto (σ := Nat) (fun i => AW G m_Walk_countTold 4 0 0 _ 4 [(0, .ref (A 0)), (1, .int (nI b)), (2, .int (nI (cnt (fun c => okc hs b c hs.1.length) (L.take i)))), (3, .int (nI i))] [] (nx, h) 0 0) (fun i s => i = s ∧ True) (L.length) ?_ 0 0 (Nat.zero_le _) ⟨rfl, trivial⟩
  intro i s9 hi_i hI_i ih_i
  obtain ⟨rfl, hI_i⟩ := hI_i
  refine aw_iload_n (i := 3) d_Walk_countTold_4 rfl rfl ?_
  refine aw_aload_n (i := 0) d_Walk_countTold_5 rfl rfl ?_
  apply aw_get d_Walk_countTold_6 fl_Walk_30; exact hm.2.2.1.1; rfl
  refine li_size hm.Lr d_Walk_countTold_9 fl_Walk_75 ?_
  refine aw_icmpN_ge d_Walk_countTold_12 (by omega) (by omega) (fun br12_ => ?_) (fun br12_ => ?_)
  · skip
    have ei : i = L.length := by omega
    subst ei
    rw [List.take_length, told_cnt hv hC]
    refine aw_iload_n (i := 2) d_Walk_countTold_51 rfl rfl ?_
    refine aw_iret d_Walk_countTold_52 rfl (Nat.le_refl _) (Nat.le_refl _) ?_
    exact ⟨rfl, rfl⟩
  · skip
    have hcl := hC.at hv br12_
    have hll := liM_lt hv L[i]
    have hat := cnt_take (fun c => okc hs b c hs.1.length) L i br12_
    refine aw_iload_n (i := 2) d_Walk_countTold_15 rfl rfl ?_
    refine aw_aload_n (i := 0) d_Walk_countTold_16 rfl rfl ?_
    apply aw_get d_Walk_countTold_17 fl_Walk_9; exact hm.2.2.1.1; rfl
    rw [hm.2.1]
    refine aw_aload_n (i := 0) d_Walk_countTold_20 rfl rfl ?_
    apply aw_get d_Walk_countTold_21 fl_Walk_30; exact hm.2.2.1.1; rfl
    refine aw_iload_n (i := 3) d_Walk_countTold_24 rfl rfl ?_
    apply aw_callv_p (c_Line_codeAt hm.Lr (i := i) br12_) d_Walk_countTold_25 cl_Walk_78; exact hm.Lr.ob.choose_spec; rfl; rfl; rfl; rfl; decide; exact Nat.le_of_ble_eq_true rfl; exact (Nat.le_refl _); exact (Nat.le_refl _)
    apply aw_callv_p (c_House_lies hm.1 hv hcl) d_Walk_countTold_28 cl_Walk_190; exact hm.1.1; rfl; rfl; rfl; rfl; decide; exact Nat.le_of_ble_eq_true rfl; exact (Nat.le_refl _); exact (Nat.le_refl _)
    refine aw_iload_n (i := 1) d_Walk_countTold_31 rfl rfl ?_
    refine aw_iconst (v := -1) d_Walk_countTold_32 (by decide) ?_
    refine aw_ixor d_Walk_countTold_33 ?_
    refine aw_iand d_Walk_countTold_34 ?_
    refine aw_if_ne d_Walk_countTold_35 (fun br35_ => ?_) (fun br35_ => ?_)
    · skip
      have hst : cnt (fun c => okc hs b c hs.1.length) (L.take (i + 1)) = cnt (fun c => okc hs b c hs.1.length) (L.take i) + 0 := by
        rw [hat]
        cases e : okc hs b L[i] hs.1.length
        · rfl
        · exact absurd ((andn_sub hll hb).mpr (okc_iff.mp e)) br35_
      refine aw_iconst (v := nI 0) d_Walk_countTold_42 (by decide) ?_
      refine aw_iaddN d_Walk_countTold_43 ?_
      refine aw_istore_n (i := 2) (lv2 := [(0, _), (1, _), (2, _), (3, _)]) d_Walk_countTold_44 rfl (by decide) rfl ?_
      refine aw_iincN (lv2 := [(0, _), (1, _), (2, _), (3, _)]) d_Walk_countTold_45 (by decide) rfl rfl ?_
      refine aw_goto d_Walk_countTold_48 ?_
      have k9 := ih_i br12_ (i + 1) ⟨rfl, trivial⟩
      rw [hst] at k9
      exact k9
    · skip
      have hst : cnt (fun c => okc hs b c hs.1.length) (L.take (i + 1)) = cnt (fun c => okc hs b c hs.1.length) (L.take i) + 1 := by
        rw [hat, okc_iff.mpr ((andn_sub hll hb).mp br35_)]; rfl
      refine aw_iconst (v := nI 1) d_Walk_countTold_38 (by decide) ?_
      refine aw_goto d_Walk_countTold_39 ?_
      refine aw_iaddN d_Walk_countTold_43 ?_
      refine aw_istore_n (i := 2) (lv2 := [(0, _), (1, _), (2, _), (3, _)]) d_Walk_countTold_44 rfl (by decide) rfl ?_
      refine aw_iincN (lv2 := [(0, _), (1, _), (2, _), (3, _)]) d_Walk_countTold_45 (by decide) rfl rfl ?_
      refine aw_goto d_Walk_countTold_48 ?_
      have k9 := ih_i br12_ (i + 1) ⟨rfl, trivial⟩
      rw [hst] at k9
      exact k9

