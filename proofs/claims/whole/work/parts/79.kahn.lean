/-! the longest way: codes whose moves have all arrived, in their order -/
def pcn (hs : HSt) (t : Nat) : List Nat → Nat
  | [] => 0
  | c :: l => rowc hs t c hs.2.1.length + pcn hs t l
theorem pcn_app (hs : HSt) (t : Nat) : ∀ (a b : List Nat), pcn hs t (a ++ b) = pcn hs t a + pcn hs t b
  | [], b => by simp [pcn]
  | c :: l, b => by simp [pcn, pcn_app hs t l b]; omega
theorem colc_ext {hs : HSt} {p q : Nat → Bool} {t : Nat} : ∀ {n : Nat}, (∀ c, c < n → p c = q c) → colc hs p t n = colc hs q t n
  | 0, _ => rfl
  | n + 1, h => by
    show colc hs p t n + _ = colc hs q t n + _
    rw [colc_ext (n := n) (fun c hc => h c (by omega)), h n (by omega)]
theorem colc_le {hs : HSt} {p q : Nat → Bool} {t : Nat} : ∀ {n : Nat}, (∀ c, c < n → p c = true → q c = true) → colc hs p t n ≤ colc hs q t n
  | 0, _ => Nat.le_refl _
  | n + 1, h => by
    have ih := colc_le (hs := hs) (t := t) (n := n) (fun c hc => h c (by omega))
    show colc hs p t n + _ ≤ colc hs q t n + _
    by_cases e : p n = true
    · rw [if_pos e, if_pos (h n (by omega) e)]; omega
    · rw [if_neg e]; omega
theorem colc_cons {hs : HSt} {l : List Nat} {x t : Nat} (hx : x ∉ l) : ∀ n, colc hs (fun c => (x :: l).contains c) t n = colc hs (fun c => l.contains c) t n + (if x < n then rowc hs t x hs.2.1.length else 0)
  | 0 => rfl
  | n + 1 => by
    have ih := colc_cons (hs := hs) (t := t) hx n
    show colc hs (fun c => (x :: l).contains c) t n + _ = colc hs (fun c => l.contains c) t n + _ + _
    rw [ih]
    by_cases e : n = x
    · subst e
      have h1 : (n :: l).contains n = true := by simp
      have h2 : l.contains n = false := by
        cases e2 : l.contains n
        · rfl
        · exact absurd (List.contains_iff_mem.mp e2) hx
      simp only [h1, h2]
      rw [if_neg (Nat.lt_irrefl n), if_pos (Nat.lt_succ_self n)]
      simp
    · have h1 : (x :: l).contains n = l.contains n := by
        rw [Bool.eq_iff_iff, List.contains_iff_mem, List.contains_iff_mem, List.mem_cons]
        simp [e]
      simp only [h1]
      by_cases e3 : x < n
      · rw [if_pos e3, if_pos (show x < n + 1 by omega)]; omega
      · rw [if_neg e3, if_neg (show ¬ x < n + 1 by omega)]; omega
theorem colc_nil {hs : HSt} {t : Nat} : ∀ n, colc hs (fun _ => false) t n = 0
  | 0 => rfl
  | n + 1 => by show colc hs _ t n + _ = 0; rw [colc_nil n]; rfl
theorem pcn_col {hs : HSt} {t n : Nat} : ∀ {l : List Nat}, l.Nodup → (∀ c ∈ l, c < n) → pcn hs t l = colc hs (fun c => l.contains c) t n
  | [], _, _ => by rw [show (fun c => ([] : List Nat).contains c) = (fun _ => false) from by funext c; rfl, colc_nil]; rfl
  | x :: l, hn, hl => by
    have h1 := List.nodup_cons.mp hn
    rw [colc_cons h1.1, if_pos (hl x List.mem_cons_self), ← pcn_col h1.2 (fun c hc => hl c (List.mem_cons_of_mem _ hc))]
    show _ + _ = _
    omega
theorem pcn_le {hs : HSt} {t n : Nat} {p : Nat → Bool} {l : List Nat} (hn : l.Nodup) (hl : ∀ c ∈ l, c < n ∧ p c = true) : pcn hs t l ≤ colc hs p t n := by
  rw [pcn_col hn (fun c hc => (hl c hc).1)]
  exact colc_le (fun c _ h => (hl c (List.contains_iff_mem.mp h)).2)
theorem pcn_eq {hs : HSt} {t n : Nat} {p : Nat → Bool} {l : List Nat} (hn : l.Nodup) (hl : ∀ c, c ∈ l ↔ (c < n ∧ p c = true)) : pcn hs t l = colc hs p t n := by
  rw [pcn_col hn (fun c hc => ((hl c).mp hc).1)]
  refine colc_ext (fun c hc => ?_)
  rw [Bool.eq_iff_iff, List.contains_iff_mem, hl c]
  simp [hc]
theorem len_ctn {p : Nat → Bool} : ∀ {n : Nat} {l : List Nat}, l.Nodup → (∀ c ∈ l, c < n ∧ p c = true) → l.length ≤ ctn p n
  | 0, l, _, h => by
    cases l with
    | nil => exact Nat.le_refl _
    | cons x t => exact absurd (h x List.mem_cons_self).1 (Nat.not_lt_zero _)
  | n + 1, l, hn, h => by
    show _ ≤ ctn p n + _
    by_cases e : n ∈ l
    · have h2 := len_ctn (p := p) (n := n) (l := l.erase n) (hn.erase n) (fun c hc => by
        have h3 := (List.Nodup.mem_erase_iff hn).mp hc
        have := h c h3.2
        exact ⟨by omega, this.2⟩)
      rw [List.length_erase_of_mem e] at h2
      rw [(h n e).2]
      simp; omega
    · have h2 := len_ctn (p := p) (n := n) hn (fun c hc => by
        have := h c hc
        have hne : c ≠ n := fun q => e (by rw [← q]; exact hc)
        exact ⟨by omega, this.2⟩)
      omega
theorem ctn_len {p : Nat → Bool} {n : Nat} : ctn p n = ((List.range n).filter p).length := by
  induction n with
  | zero => rfl
  | succ n ih =>
    rw [List.range_succ, List.filter_append, List.length_append, ← ih]
    show _ + _ = _
    cases e : p n <;> simp [e]
theorem len_eq {p : Nat → Bool} {n : Nat} {l : List Nat} (hn : l.Nodup) (h : ∀ c, c ∈ l ↔ (c < n ∧ p c = true)) : l.length = ctn p n := by
  refine Nat.le_antisymm (len_ctn hn (fun c hc => (h c).mp hc)) ?_
  rw [ctn_len]
  exact List.Nodup.length_le_of_subset (List.nodup_range.filter _) (fun c hc => (h c).mpr (by
    have := List.mem_filter.mp hc
    exact ⟨List.mem_range.mp this.1, this.2⟩))
abbrev KSt : Type := List Nat × (Nat → Nat) × (Nat → Nat)
def kst (hs : HSt) (c sum s : Nat) (st : KSt) : KSt := if opn hs c s then (if st.2.1 (aft hs c s) - 1 = 0 then st.1 ++ [aft hs c s] else st.1, updn st.2.1 (aft hs c s) (st.2.1 (aft hs c s) - 1), updn st.2.2 (aft hs c s) (max (st.2.2 (aft hs c s)) (sum + tks hs s))) else st
def krow (hs : HSt) (c sum : Nat) : Nat → KSt → KSt
  | 0, st => st
  | j + 1, st => kst hs c sum j (krow hs c sum j st)
noncomputable def kz (hs : HSt) : KSt := (if colc hs (rch hs) (hsta hs) (hall hs) = 0 then [hsta hs] else [], fun t => colc hs (rch hs) t (hall hs), fun _ => 0)
noncomputable def kS (hs : HSt) : Nat → KSt × Nat
  | 0 => (kz hs, 0)
  | k + 1 => if k < (kS hs k).1.1.length then (krow hs ((kS hs k).1.1.getD k 0) ((kS hs k).1.2.2 ((kS hs k).1.1.getD k 0)) hs.2.1.length (kS hs k).1, max (kS hs k).2 ((kS hs k).1.2.2 ((kS hs k).1.1.getD k 0))) else kS hs k
noncomputable def lng (hs : HSt) : Int32 := if (kS hs (hall hs)).1.1.length = ctn (rch hs) (hall hs) then nI (kS hs (hall hs)).2 else -2
theorem kst_pre {hs : HSt} {c sum s : Nat} {st : KSt} : ∃ e, (kst hs c sum s st).1 = st.1 ++ e := by
  unfold kst
  by_cases h : opn hs c s = true
  · rw [if_pos h]
    by_cases h2 : st.2.1 (aft hs c s) - 1 = 0
    · exact ⟨[aft hs c s], if_pos h2⟩
    · exact ⟨[], by rw [List.append_nil]; exact if_neg h2⟩
  · rw [if_neg h]; exact ⟨[], by simp⟩
theorem krow_pre {hs : HSt} {c sum : Nat} {st : KSt} : ∀ j, ∃ e, (krow hs c sum j st).1 = st.1 ++ e
  | 0 => ⟨[], by simp [krow]⟩
  | j + 1 => by
    obtain ⟨e1, h1⟩ := krow_pre (hs := hs) (c := c) (sum := sum) (st := st) j
    obtain ⟨e2, h2⟩ := kst_pre (hs := hs) (c := c) (sum := sum) (s := j) (st := krow hs c sum j st)
    exact ⟨e1 ++ e2, by rw [← List.append_assoc, ← h1]; exact h2⟩
theorem gd_app {l e : List Nat} {k : Nat} (h : k < l.length) : (l ++ e).getD k 0 = l.getD k 0 := by
  simp [List.getD_eq_getElem?_getD, List.getElem?_append_left h]
/-- k codes are done, and of the next one j steps -/
def KI (hs : HSt) (k j : Nat) (st : KSt) : Prop := st.1.Nodup ∧ (∀ c ∈ st.1, c < hall hs ∧ rch hs c = true) ∧ (∀ t, t < hall hs → st.2.1 t + pcn hs t (st.1.take k) + rowc hs t (st.1.getD k 0) j = colc hs (rch hs) t (hall hs)) ∧ (∀ t ∈ st.1, st.2.1 t = 0)
theorem KI.more {hs : HSt} {k j : Nat} {st : KSt} (h : KI hs k j st) (hk : k < st.1.length) (hj : j < hs.2.1.length) (ho : opn hs (st.1.getD k 0) j = true) (hal : aft hs (st.1.getD k 0) j < hall hs) : 1 ≤ st.2.1 (aft hs (st.1.getD k 0) j) ∧ aft hs (st.1.getD k 0) j ∉ st.1 := by
  obtain ⟨h1, h2, h3, h4⟩ := h
  have e3 := h3 _ hal
  have hmem : st.1.getD k 0 ∈ st.1 := by rw [gDx hk]; exact List.getElem_mem hk
  have hle : pcn hs (aft hs (st.1.getD k 0) j) (st.1.take (k + 1)) ≤ colc hs (rch hs) (aft hs (st.1.getD k 0) j) (hall hs) := pcn_le (h1.sublist (List.take_sublist _ _)) (fun c hc => h2 c (List.mem_of_mem_take hc))
  rw [List.take_succ_eq_append_getElem hk, pcn_app, ← gDx (d := 0) hk] at hle
  have h5 : pcn hs (aft hs (st.1.getD k 0) j) [st.1.getD k 0] = rowc hs (aft hs (st.1.getD k 0) j) (st.1.getD k 0) hs.2.1.length := by simp [pcn]
  rw [h5] at hle
  have h6 := row_mono hs (aft hs (st.1.getD k 0) j) (st.1.getD k 0) (show j + 1 ≤ hs.2.1.length by omega)
  have h7 : rowc hs (aft hs (st.1.getD k 0) j) (st.1.getD k 0) (j + 1) = rowc hs (aft hs (st.1.getD k 0) j) (st.1.getD k 0) j + 1 := by
    show _ + ind hs _ _ j = _
    unfold ind; rw [ho]; simp
  have hpos : 1 ≤ st.2.1 (aft hs (st.1.getD k 0) j) := by omega
  exact ⟨hpos, fun hm => by have := h4 _ hm; omega⟩
theorem KI.step {hs : HSt} (hv : VH hs) {k j sum : Nat} {st : KSt} (h : KI hs k j st) (hk : k < st.1.length) (hj : j < hs.2.1.length) : KI hs k (j + 1) (kst hs (st.1.getD k 0) sum j st) := by
  have hmem : st.1.getD k 0 ∈ st.1 := by rw [gDx hk]; exact List.getElem_mem hk
  have hcl := (h.2.1 _ hmem).1
  have hal := aft_lt hv hcl hj
  by_cases ho : opn hs (st.1.getD k 0) j = true
  · obtain ⟨m1, m2⟩ := h.more hk hj ho hal
    obtain ⟨h1, h2, h3, h4⟩ := h
    have hrow : ∀ t, rowc hs t (st.1.getD k 0) (j + 1) = rowc hs t (st.1.getD k 0) j + (if t = aft hs (st.1.getD k 0) j then 1 else 0) := by
      intro t
      show _ + ind hs t _ j = _
      unfold ind; rw [ho]
      by_cases e : t = aft hs (st.1.getD k 0) j
      · rw [if_pos e]; simp [e]
      · rw [if_neg e]
        have : (aft hs (st.1.getD k 0) j == t) = false := beq_eq_false_iff_ne.mpr (fun q => e q.symm)
        rw [this]; rfl
    have hr : rch hs (aft hs (st.1.getD k 0) j) = true := rcs_iff.mpr ((rcs_iff.mp (h2 _ hmem).2).step hj ho rfl)
    unfold kst
    rw [if_pos ho]
    have hcin : ∀ t, t < hall hs → ∀ l : List Nat, (∃ e, l = st.1 ++ e) → updn st.2.1 (aft hs (st.1.getD k 0) j) (st.2.1 (aft hs (st.1.getD k 0) j) - 1) t + pcn hs t (l.take k) + rowc hs t (l.getD k 0) (j + 1) = colc hs (rch hs) t (hall hs) := by
      rintro t ht l ⟨e, rfl⟩
      rw [List.take_append_of_le_length (by omega), gd_app hk, hrow t]
      have := h3 t ht
      by_cases e2 : t = aft hs (st.1.getD k 0) j
      · rw [if_pos e2]; rw [e2, un_s]; rw [e2] at this; omega
      · rw [if_neg e2, un_n e2]; omega
    by_cases hz : st.2.1 (aft hs (st.1.getD k 0) j) - 1 = 0
    · rw [if_pos hz]
      refine ⟨?_, ?_, fun t ht => hcin t ht _ ⟨[aft hs (st.1.getD k 0) j], rfl⟩, ?_⟩
      · rw [List.nodup_append]
        refine ⟨h1, by simp, fun x hx y hy e => ?_⟩
        rw [List.mem_singleton.mp hy] at e
        subst e; exact m2 hx
      · intro c hc
        rcases List.mem_append.mp hc with q | q
        · exact h2 c q
        · rw [List.mem_singleton.mp q]; exact ⟨hal, hr⟩
      · intro t ht
        show updn _ _ _ t = 0
        rcases List.mem_append.mp ht with q | q
        · rw [un_n (fun e => m2 (by rw [← e]; exact q))]; exact h4 t q
        · rw [List.mem_singleton.mp q, un_s]; exact hz
    · rw [if_neg hz]
      refine ⟨h1, h2, fun t ht => hcin t ht _ ⟨[], by simp⟩, fun t ht => ?_⟩
      show updn _ _ _ t = 0
      rw [un_n (fun e => m2 (by rw [← e]; exact ht))]; exact h4 t ht
  · have ho2 : opn hs (st.1.getD k 0) j = false := by simpa using ho
    unfold kst
    rw [if_neg ho]
    refine ⟨h.1, h.2.1, fun t ht => ?_, h.2.2.2⟩
    have := h.2.2.1 t ht
    have e : rowc hs t (st.1.getD k 0) (j + 1) = rowc hs t (st.1.getD k 0) j + 0 := by
      show _ + ind hs t _ j = _
      unfold ind; rw [ho2]; rfl
    rw [e]; omega
theorem KI.row {hs : HSt} (hv : VH hs) {k sum : Nat} {st : KSt} (h : KI hs k 0 st) (hk : k < st.1.length) : ∀ j, j ≤ hs.2.1.length → KI hs k j (krow hs (st.1.getD k 0) sum j st)
  | 0, _ => h
  | j + 1, hj => by
    have ih := KI.row hv (sum := sum) h hk j (by omega)
    obtain ⟨e, he⟩ := krow_pre (hs := hs) (c := st.1.getD k 0) (sum := sum) (st := st) j
    have hg : (krow hs (st.1.getD k 0) sum j st).1.getD k 0 = st.1.getD k 0 := by rw [he]; exact gd_app hk
    have := ih.step hv (sum := sum) (by rw [he, List.length_append]; omega) (show j < hs.2.1.length by omega)
    rw [hg] at this
    exact this
theorem KI.next {hs : HSt} {k : Nat} {st : KSt} (h : KI hs k hs.2.1.length st) (hk : k < st.1.length) : KI hs (k + 1) 0 st := by
  refine ⟨h.1, h.2.1, fun t ht => ?_, h.2.2.2⟩
  have := h.2.2.1 t ht
  rw [List.take_succ_eq_append_getElem hk, pcn_app, ← gDx (d := 0) hk]
  have h5 : pcn hs t [st.1.getD k 0] = rowc hs t (st.1.getD k 0) hs.2.1.length := by simp [pcn]
  have h6 : rowc hs t (st.1.getD (k + 1) 0) 0 = 0 := rfl
  rw [h5, h6]; omega
theorem kz_I {hs : HSt} (hv : VH hs) : KI hs 0 0 (kz hs) := by
  have hst := hsta_lt hv
  unfold kz
  by_cases e : colc hs (rch hs) (hsta hs) (hall hs) = 0
  · rw [if_pos e]
    refine ⟨by simp, fun c hc => ?_, fun t ht => by simp [pcn, rowc], fun t ht => ?_⟩
    · rw [List.mem_singleton.mp hc]; exact ⟨hst, rcs_iff.mpr (Rch.start rfl)⟩
    · rw [List.mem_singleton.mp ht]; exact e
  · rw [if_neg e]
    exact ⟨by simp, fun c hc => absurd hc List.not_mem_nil, fun t ht => by simp [pcn, rowc], fun t ht => absurd ht List.not_mem_nil⟩
theorem kS_s {hs : HSt} {k : Nat} (hk : k < (kS hs k).1.1.length) : kS hs (k + 1) = (krow hs ((kS hs k).1.1.getD k 0) ((kS hs k).1.2.2 ((kS hs k).1.1.getD k 0)) hs.2.1.length (kS hs k).1, max (kS hs k).2 ((kS hs k).1.2.2 ((kS hs k).1.1.getD k 0))) := by
  show (if _ then _ else _) = _
  rw [if_pos hk]
/-- as long as the line goes on -/
theorem kS_I {hs : HSt} (hv : VH hs) : ∀ k, (k = 0 ∨ ∃ m, k = m + 1 ∧ m < (kS hs m).1.1.length) → KI hs k 0 (kS hs k).1
  | 0, _ => kz_I hv
  | k + 1, h => by
    have hk : k < (kS hs k).1.1.length := by
      rcases h with h | ⟨m, h1, h2⟩
      · omega
      · have : m = k := by omega
        subst this; exact h2
    have hp : k = 0 ∨ ∃ m, k = m + 1 ∧ m < (kS hs m).1.1.length := by
      cases k with
      | zero => exact Or.inl rfl
      | succ k =>
        refine Or.inr ⟨k, rfl, Nat.not_le.mp (fun q => ?_)⟩
        have e : kS hs (k + 1) = kS hs k := by show (if _ then _ else _) = _; rw [if_neg (by omega)]
        rw [e] at hk; omega
    have ih := kS_I hv k hp
    rw [kS_s hk]
    have h2 := ih.row hv (sum := (kS hs k).1.2.2 ((kS hs k).1.1.getD k 0)) hk hs.2.1.length (Nat.le_refl _)
    obtain ⟨e, he⟩ := krow_pre (hs := hs) (c := (kS hs k).1.1.getD k 0) (sum := (kS hs k).1.2.2 ((kS hs k).1.1.getD k 0)) (st := (kS hs k).1) hs.2.1.length
    exact h2.next (by rw [he, List.length_append]; omega)
theorem kS_end {hs : HSt} {k : Nat} (hk : (kS hs k).1.1.length ≤ k) : ∀ n, kS hs (k + n) = kS hs k
  | 0 => rfl
  | n + 1 => by
    have ih := kS_end hk n
    have e : kS hs (k + n + 1) = kS hs (k + n) := by
      show (if k + n < (kS hs (k + n)).1.1.length then _ else kS hs (k + n)) = _
      rw [if_neg (by rw [ih]; omega)]
    exact e.trans ih
theorem kst_bd {hs : HSt} (hv : VH hs) {c sum s b : Nat} {st : KSt} (hs2 : s < hs.2.1.length) (hb : ∀ t, st.2.2 t ≤ b) (hsum : sum + 100 ≤ b) : ∀ t, (kst hs c sum s st).2.2 t ≤ b := by
  intro t
  have htk : tks hs s ≤ 100 := (hv.s hs2).2.2.2.2.1
  unfold kst
  by_cases ho : opn hs c s = true
  · rw [if_pos ho]
    show updn _ _ _ t ≤ b
    by_cases e : t = aft hs c s
    · rw [e, un_s]; have := hb (aft hs c s); omega
    · rw [un_n e]; exact hb t
  · rw [if_neg ho]; exact hb t
theorem krow_bd {hs : HSt} (hv : VH hs) {c sum b : Nat} {st : KSt} (hb : ∀ t, st.2.2 t ≤ b) (hsum : sum + 100 ≤ b) : ∀ j, j ≤ hs.2.1.length → ∀ t, (krow hs c sum j st).2.2 t ≤ b
  | 0, _ => hb
  | j + 1, hj => kst_bd hv (by omega) (krow_bd hv hb hsum j (by omega)) hsum
theorem kS_bd {hs : HSt} (hv : VH hs) : ∀ k, (∀ t, (kS hs k).1.2.2 t ≤ 100 * k) ∧ (kS hs k).2 ≤ 100 * k
  | 0 => ⟨fun t => Nat.zero_le _, Nat.zero_le _⟩
  | k + 1 => by
    have ih := kS_bd hv k
    by_cases hk : k < (kS hs k).1.1.length
    · rw [kS_s hk]
      refine ⟨krow_bd hv (fun t => Nat.le_trans (ih.1 t) (by omega)) (by have := ih.1 ((kS hs k).1.1.getD k 0); omega) _ (Nat.le_refl _), ?_⟩
      show max _ _ ≤ _
      have := ih.1 ((kS hs k).1.1.getD k 0)
      have := ih.2
      omega
    · have e : kS hs (k + 1) = kS hs k := by show (if _ then _ else _) = _; rw [if_neg hk]
      rw [e]
      exact ⟨fun t => Nat.le_trans (ih.1 t) (by omega), by have := ih.2; omega⟩
/-- the sum of the code itself stays as it is -/
theorem krow_self {hs : HSt} (hv : VH hs) {k sum : Nat} {st : KSt} (h : KI hs k 0 st) (hk : k < st.1.length) : ∀ j, j ≤ hs.2.1.length → (krow hs (st.1.getD k 0) sum j st).2.2 (st.1.getD k 0) = st.2.2 (st.1.getD k 0)
  | 0, _ => rfl
  | j + 1, hj => by
    have ih := krow_self hv (sum := sum) h hk j (by omega)
    have hI := h.row hv (sum := sum) hk j (by omega)
    obtain ⟨e, he⟩ := krow_pre (hs := hs) (c := st.1.getD k 0) (sum := sum) (st := st) j
    have hg : (krow hs (st.1.getD k 0) sum j st).1.getD k 0 = st.1.getD k 0 := by rw [he]; exact gd_app hk
    have hmem : st.1.getD k 0 ∈ st.1 := by rw [gDx hk]; exact List.getElem_mem hk
    have hl : k < (krow hs (st.1.getD k 0) sum j st).1.length := by rw [he, List.length_append]; omega
    show (kst hs _ sum j _).2.2 _ = _
    unfold kst
    by_cases ho : opn hs (st.1.getD k 0) j = true
    · rw [if_pos ho]
      have hm := hI.more hl (by omega) (by rw [hg]; exact ho) (by rw [hg]; exact aft_lt hv (h.2.1 _ hmem).1 (by omega))
      rw [hg] at hm
      show updn _ _ _ _ = _
      rw [un_n (fun e => hm.2 (by rw [← e, he]; exact List.mem_append_left _ hmem))]
      exact ih
    · rw [if_neg ho]; exact ih
theorem KI.len {hs : HSt} {k j : Nat} {st : KSt} (h : KI hs k j st) : st.1.length ≤ ctn (rch hs) (hall hs) ∧ st.1.length ≤ hall hs := ⟨len_ctn h.1 h.2.1, nd_len h.1 (fun c hc => (h.2.1 c hc).1)⟩
theorem lng_at {hs : HSt} (hv : VH hs) {k : Nat} (hk : (kS hs k).1.1.length ≤ k) (hkl : k ≤ hall hs) : lng hs = if (kS hs k).1.1.length = ctn (rch hs) (hall hs) then nI (kS hs k).2 else -2 := by
  obtain ⟨n, hn⟩ : ∃ n, hall hs = k + n := ⟨hall hs - k, by omega⟩
  have e := kS_end hk n
  unfold lng
  rw [hn] at *
  rw [e]
/-- in the rows of the reference -/
def KRep (hs : HSt) (ar : Nat → Nat → Int32) (st : KSt) : Prop := (∀ m, m < st.1.length → ar 31 m = nI (st.1.getD m 0)) ∧ (∀ t, t < hall hs → ar 40 t = nI (st.2.1 t) ∧ ar 41 t = nI (st.2.2 t))
theorem colc_bd {hs : HSt} (p : Nat → Bool) (t : Nat) : ∀ n, colc hs p t n ≤ n * hs.2.1.length
  | 0 => Nat.zero_le _
  | n + 1 => by
    have ih := colc_bd (hs := hs) p t n
    have hr : ∀ s, rowc hs t n s ≤ s := by
      intro s; induction s with
      | zero => exact Nat.le_refl _
      | succ s ih => show _ + ind hs t n s ≤ _; unfold ind; split <;> omega
    have := hr hs.2.1.length
    show _ + _ ≤ _
    rw [Nat.succ_mul]
    split <;> omega
theorem pred_pos {n : Nat} (h : 1 ≤ n) : nI n - nI 1 = nI (n - 1) := pk_sub h
set_option maxHeartbeats 4000000 in
set_option maxRecDepth 20000 in
theorem c_Mod_longest {G : aG} {nx : Nat} {h h0 : Nat → Option aC} {a : Nat} {A : Nat → Nat} {sc : Nat → Int32} {ar : Nat → Nat → Int32} (hm : MoF h0 h a A sc ar) {hs : HSt} {gs : List GSt} {lg : List (Nat × Nat × Nat)} {xs : List Int32} (hq : MoA sc ar hs gs lg xs) (hv : VH hs) : AMet G m_Mod_longest 4 0 0 [.ref a] (nx, h) (MR nx a h0 A (fun r sc2 ar2 => r = some (.int (lng hs)) ∧ sc2 0 = 0 ∧ MoA sc2 ar2 hs gs lg xs)) := by
  have hp12 := hv.1.1
  have hs24 := hv.2.1
  have hall2 := hv.2.2.2.2.2.2.2
  have hq0 := hq
  refine amet_of pf_Mod_longest (Nat.le_of_ble_eq_true rfl) ?_
  show AW G m_Mod_longest 4 0 0 _ 0 [(0, .ref a)] [] (nx, h) 0 0
  refine aw_aload_n (i := 0) d_Mod_longest_0 rfl rfl ?_
  refine aw_iconst (v := nI 0) d_Mod_longest_1 (by decide) ?_
  apply mo_put (f := 0) hm d_Mod_longest_2 pl_Mod_150 (ms_0 _ _ _) (by decide) rfl rfl; intro h hm
  have hq := hq0.kp (Kp.put (Ls := [0]) (La := []) (f := 0) (x := nI 0) rfl) rfl rfl rfl rfl
  have hh := hq.1
  have hg := hq.2.1
  have hr := hq.2.2.2.1
  refine aw_aload_n (i := 0) d_Mod_longest_5 rfl rfl ?_
  apply aw_callv_M0 (c_Mod_fresh hm hq hv) d_Mod_longest_6 cl_Mod_259; exact hm.1.1; rfl; rfl; rfl; rfl; decide; exact Nat.le_of_ble_eq_true rfl; exact Nat.le_refl _; exact Nat.le_refl _
  rintro h sc1 ar1 hm ⟨hq, hf, h0_⟩
  have hf0 := hf
  have hq1 := hq
  have hst := hsta_lt hv
  have hcl := ctn_le (rch hs) (hall hs)
  refine aw_iconst (v := nI 0) d_Mod_longest_9 (by decide) ?_
  refine aw_istore_n (i := 1) (lv2 := [(0, _), (1, _)]) d_Mod_longest_10 rfl (by decide) rfl ?_
  refine aw_iconst (v := nI 0) d_Mod_longest_11 (by decide) ?_
  refine aw_istore_n (i := 2) (lv2 := [(0, _), (1, _), (2, _)]) d_Mod_longest_12 rfl (by decide) rfl ?_
  refine mloop (h0 := h0) (a := a) (A := A) (hall hs) (fun i h sc2 ar2 => AW G m_Mod_longest 4 0 0 _ 13 [(0, .ref a), (1, .int (nI (ctn (rch hs) i))), (2, .int (nI i))] [] (nx, h) 0 0) (fun i sc2 ar2 => Kp [] [31, 40, 41] sc1 ar1 sc2 ar2 ∧ ∀ t, t < i → ar2 40 t = nI 0 ∧ ar2 41 t = nI 0) ?_ 0 _ _ _ (Nat.zero_le _) hm ⟨Kp.rf, fun k hk => absurd hk (Nat.not_lt_zero _)⟩
  intro i h sc2 ar2 hi_i hm hI ih
  have hf := hf0.kp hI.1 rfl rfl
  have hw := hf.1
  have hh := hq1.1.kp hI.1 rfl rfl
  have hb := hf.2.2.1
  have h29 := hf.2.2.2.1
  refine aw_iload_n (i := 2) d_Mod_longest_13 rfl rfl ?_
  refine aw_aload_n (i := 0) d_Mod_longest_14 rfl rfl ?_
  apply mo_gets (f := 26) hm d_Mod_longest_15 fl_Mod_206 rfl; exact hw.1
  refine aw_icmpN_ge d_Mod_longest_18 (by omega) (by omega) (fun br18_ => ?_) (fun br18_ => ?_)
  · skip
    have ei : i = hall hs := by omega
    subst ei
    refine aw_iconst (v := nI 0) d_Mod_longest_58 (by decide) ?_
    refine aw_istore_n (i := 2) (lv2 := [(0, _), (1, _), (2, _)]) d_Mod_longest_59 rfl (by decide) rfl ?_
    refine mloop (h0 := h0) (a := a) (A := A) (hall hs) (fun i h sc2 ar2 => AW G m_Mod_longest 4 0 0 _ 60 [(0, .ref a), (1, .int (nI (ctn (rch hs) (hall hs)))), (2, .int (nI i))] [] (nx, h) 0 0) (fun i sc2 ar2 => Kp [] [31, 40, 41] sc1 ar1 sc2 ar2 ∧ ∀ t, t < hall hs → ar2 40 t = nI (colc hs (rch hs) t i) ∧ ar2 41 t = nI 0) ?_ 0 _ _ _ (Nat.zero_le _) hm ⟨hI.1, fun t ht => hI.2 t ht⟩
    intro i h sc2 ar2 hi_i hm hI ih2
    have hf := hf0.kp hI.1 rfl rfl
    have hw := hf.1
    have hh := hq1.1.kp hI.1 rfl rfl
    have hb := hf.2.2.1
    have h29 := hf.2.2.2.1
    refine aw_iload_n (i := 2) d_Mod_longest_60 rfl rfl ?_
    refine aw_aload_n (i := 0) d_Mod_longest_61 rfl rfl ?_
    apply mo_gets (f := 26) hm d_Mod_longest_62 fl_Mod_206 rfl; exact hw.1
    refine aw_icmpN_ge d_Mod_longest_65 (by omega) (by omega) (fun br65_ => ?_) (fun br65_ => ?_)
    · skip
      have ei : i = hall hs := by omega
      subst ei
      have h40 := (hI.2 _ hst).1
      have hcb := colc_bd (hs := hs) (rch hs) (hsta hs) (hall hs)
      have hcb2 : hall hs * hs.2.1.length ≤ 20000 * 24 := Nat.mul_le_mul hall2 hs24
      refine aw_aload_n (i := 0) d_Mod_longest_133 rfl rfl ?_
      refine mo_get (f := 40) hm d_Mod_longest_134 fl_Mod_111 rfl ?_
      refine aw_aload_n (i := 0) d_Mod_longest_137 rfl rfl ?_
      apply mo_gets (f := 27) hm d_Mod_longest_138 fl_Mod_209 rfl; exact hf.2.1
      apply mo_ld (f := 40) (N := 20000) hm d_Mod_longest_141 rfl rfl (by decide); omega; exact h40
      refine aw_ifN_le d_Mod_longest_142 (by omega) (fun br142_ => ?_) (fun br142_ => ?_)
      · skip
        have hz0 : colc hs (rch hs) (hsta hs) (hall hs) = 0 := by omega
        refine aw_aload_n (i := 0) d_Mod_longest_148 rfl rfl ?_
        refine mo_get (f := 31) hm d_Mod_longest_149 fl_Mod_89 rfl ?_
        refine aw_iconst (v := nI 0) d_Mod_longest_152 (by decide) ?_
        refine aw_aload_n (i := 0) d_Mod_longest_153 rfl rfl ?_
        apply mo_gets (f := 27) hm d_Mod_longest_154 fl_Mod_209 rfl; exact hf.2.1
        apply mo_st (f := 31) (N := 20000) hm d_Mod_longest_157 rfl rfl (by decide); omega; intro h hm
        have hk0 : kS hs 0 = (([hsta hs], fun t => colc hs (rch hs) t (hall hs), fun _ => 0), 0) := by show (kz hs, 0) = _; unfold kz; rw [if_pos hz0]
        refine aw_iconst (v := nI 1) d_Mod_longest_158 (by decide) ?_
        refine aw_istore_n (i := 2) (lv2 := [(0, _), (1, _), (2, _)]) d_Mod_longest_159 rfl (by decide) rfl ?_
        refine aw_iconst (v := nI 0) d_Mod_longest_160 (by decide) ?_
        refine aw_istore_n (i := 3) (lv2 := [(0, _), (1, _), (2, _), (3, _)]) d_Mod_longest_161 rfl (by decide) rfl ?_
        refine aw_iconst (v := nI 0) d_Mod_longest_162 (by decide) ?_
        refine aw_istore (lv2 := [(0, _), (1, _), (2, _), (3, _), (4, _)]) d_Mod_longest_163 (by decide) rfl ?_
        suffices k0_ : AW G m_Mod_longest 4 0 0 _ 165 [(0, .ref a), (1, .int (nI (ctn (rch hs) (hall hs)))), (2, .int (nI (kS hs 0).1.1.length)), (3, .int (nI (kS hs 0).2)), (4, .int (nI 0))] [] (nx, h) 0 0 by rw [hk0] at k0_; exact k0_
        refine mloop (h0 := h0) (a := a) (A := A) (hall hs) (fun k h sc2 ar2 => Kp [] [31, 40, 41] sc1 ar1 sc2 ar2 ∧ KRep hs ar2 (kS hs k).1 ∧ (k = 0 ∨ ∃ m, k = m + 1 ∧ m < (kS hs m).1.1.length) → AW G m_Mod_longest 4 0 0 _ 165 [(0, .ref a), (1, .int (nI (ctn (rch hs) (hall hs)))), (2, .int (nI (kS hs k).1.1.length)), (3, .int (nI (kS hs k).2)), (4, .int (nI k))] [] (nx, h) 0 0) (fun _ _ _ => True) ?_ 0 _ _ _ (Nat.zero_le _) hm trivial ⟨hI.1.tr (Kp.st rfl), by rw [hk0]; exact ⟨fun m hm9 => by have e : m = 0 := (by simp at hm9; omega); subst e; rfl, fun t ht => hI.2 t ht⟩, Or.inl rfl⟩
        intro k h sc2 ar2 hi_k hm _ ih4 hI
        obtain ⟨hK, hRp, hkp⟩ := hI
        have hKI := kS_I hv k hkp
        have hln := hKI.len
        have hbd := kS_bd hv k
        have hf := hf0.kp hK rfl rfl
        have hw := hf.1
        have hh := hq1.1.kp hK rfl rfl
        have hb := hf.2.2.1
        have h29 := hf.2.2.2.1
        refine aw_iload d_Mod_longest_165 rfl ?_
        refine aw_iload_n (i := 2) d_Mod_longest_167 rfl rfl ?_
        refine aw_icmpN_ge d_Mod_longest_168 (by omega) (by omega) (fun br168_ => ?_) (fun br168_ => ?_)
        · skip
          have hlg := lng_at hv br168_ (by omega)
          refine aw_iload_n (i := 2) d_Mod_longest_303 rfl rfl ?_
          refine aw_iload_n (i := 1) d_Mod_longest_304 rfl rfl ?_
          refine aw_icmpN_ge d_Mod_longest_305 (by omega) (by omega) (fun br305_ => ?_) (fun br305_ => ?_)
          · skip
            refine aw_iload_n (i := 3) d_Mod_longest_313 rfl rfl ?_
            refine aw_iret d_Mod_longest_314 rfl (Nat.le_refl _) (Nat.le_refl _) ?_
            exact ⟨_, _, _, rfl, hm, by rw [hlg, if_pos (by omega)], (hK.1 0 rfl).trans (h0_.trans rfl), hq1.kp hK rfl rfl rfl rfl⟩
          · skip
            refine aw_bipush (v := -2) d_Mod_longest_308 (by decide) ?_
            refine aw_goto d_Mod_longest_310 ?_
            refine aw_iret d_Mod_longest_314 rfl (Nat.le_refl _) (Nat.le_refl _) ?_
            exact ⟨_, _, _, rfl, hm, by rw [hlg, if_neg (by omega)], (hK.1 0 rfl).trans (h0_.trans rfl), hq1.kp hK rfl rfl rfl rfl⟩
        · skip
          have hmem : (kS hs k).1.1.getD k 0 ∈ (kS hs k).1.1 := by rw [gDx br168_]; exact List.getElem_mem br168_
          have hcl2 := (hKI.2.1 _ hmem).1
          have hbc := hbd.1 ((kS hs k).1.1.getD k 0)
          refine aw_aload_n (i := 0) d_Mod_longest_171 rfl rfl ?_
          refine mo_get (f := 31) hm d_Mod_longest_172 fl_Mod_89 rfl ?_
          refine aw_iload d_Mod_longest_175 rfl ?_
          apply mo_ld (f := 31) (N := 20000) hm d_Mod_longest_177 rfl rfl (by decide); omega; exact hRp.1 _ br168_
          refine aw_istore (lv2 := [(0, _), (1, _), (2, _), (3, _), (4, _), (5, _)]) d_Mod_longest_178 (by decide) rfl ?_
          refine aw_iload_n (i := 3) d_Mod_longest_180 rfl rfl ?_
          refine aw_aload_n (i := 0) d_Mod_longest_181 rfl rfl ?_
          refine mo_get (f := 41) hm d_Mod_longest_182 fl_Mod_114 rfl ?_
          refine aw_iload d_Mod_longest_185 rfl ?_
          apply mo_ld (f := 41) (N := 20000) hm d_Mod_longest_187 rfl rfl (by decide); omega; exact (hRp.2 _ hcl2).2
          apply aw_calls_p (c_Math_max_nI (kS hs k).2 ((kS hs k).1.2.2 ((kS hs k).1.1.getD k 0)) (by omega) (by omega)) d_Mod_longest_188 cl_Mod_278; rfl; rfl; decide; exact Nat.le_of_ble_eq_true rfl; exact (Nat.le_refl _); exact (Nat.le_refl _)
          refine aw_istore_n (i := 3) (lv2 := [(0, _), (1, _), (2, _), (3, _), (4, _), (5, _)]) d_Mod_longest_191 rfl (by decide) rfl ?_
          refine aw_iconst (v := nI 0) d_Mod_longest_192 (by decide) ?_
          refine aw_istore (lv2 := [(0, _), (1, _), (2, _), (3, _), (4, _), (5, _), (6, _)]) d_Mod_longest_193 (by decide) rfl ?_
          refine mloop (h0 := h0) (a := a) (A := A) (hs.2.1.length) (fun j h sc3 ar3 => AW G m_Mod_longest 4 0 0 _ 195 [(0, .ref a), (1, .int (nI (ctn (rch hs) (hall hs)))), (2, .int (nI (krow hs ((kS hs k).1.1.getD k 0) ((kS hs k).1.2.2 ((kS hs k).1.1.getD k 0)) j (kS hs k).1).1.length)), (3, .int (nI (max (kS hs k).2 ((kS hs k).1.2.2 ((kS hs k).1.1.getD k 0))))), (4, .int (nI k)), (5, .int (nI ((kS hs k).1.1.getD k 0))), (6, .int (nI j))] [] (nx, h) 0 0) (fun j sc3 ar3 => Kp [] [31, 40, 41] sc1 ar1 sc3 ar3 ∧ KRep hs ar3 (krow hs ((kS hs k).1.1.getD k 0) ((kS hs k).1.2.2 ((kS hs k).1.1.getD k 0)) j (kS hs k).1)) ?_ 0 _ _ _ (Nat.zero_le _) hm ⟨hK, hRp⟩
          intro j h sc3 ar3 hi_j hm hJ ih5
          have hf := hf0.kp hJ.1 rfl rfl
          have hw := hf.1
          have hh := hq1.1.kp hJ.1 rfl rfl
          have hb := hf.2.2.1
          have h29 := hf.2.2.2.1
          obtain ⟨hK, hRp2⟩ := hJ
          have hKJ := hKI.row hv (sum := (kS hs k).1.2.2 ((kS hs k).1.1.getD k 0)) br168_ j hi_j
          have hlj := hKJ.len
          have hself := krow_self hv (sum := (kS hs k).1.2.2 ((kS hs k).1.1.getD k 0)) hKI br168_ j hi_j
          have hbj := krow_bd hv (c := (kS hs k).1.1.getD k 0) (sum := (kS hs k).1.2.2 ((kS hs k).1.1.getD k 0)) (b := 100 * (k + 1)) (st := (kS hs k).1) (fun t => Nat.le_trans (hbd.1 t) (by omega)) (by omega) j hi_j
          obtain ⟨e9, he9⟩ := krow_pre (hs := hs) (c := (kS hs k).1.1.getD k 0) (sum := (kS hs k).1.2.2 ((kS hs k).1.1.getD k 0)) (st := (kS hs k).1) j
          have hg9 : (krow hs ((kS hs k).1.1.getD k 0) ((kS hs k).1.2.2 ((kS hs k).1.1.getD k 0)) j (kS hs k).1).1.getD k 0 = (kS hs k).1.1.getD k 0 := by rw [he9]; exact gd_app br168_
          have hl9 : k < (krow hs ((kS hs k).1.1.getD k 0) ((kS hs k).1.2.2 ((kS hs k).1.1.getD k 0)) j (kS hs k).1).1.length := by rw [he9, List.length_append]; omega
          refine aw_iload d_Mod_longest_195 rfl ?_
          refine aw_aload_n (i := 0) d_Mod_longest_197 rfl rfl ?_
          apply mo_gets (f := 4) hm d_Mod_longest_198 fl_Mod_164 rfl; exact hh.1.2.1
          refine aw_icmpN_ge d_Mod_longest_201 (by omega) (by omega) (fun br201_ => ?_) (fun br201_ => ?_)
          · skip
            have ej : j = hs.2.1.length := by omega
            subst ej
            refine aw_iincN (lv2 := [(0, _), (1, _), (2, _), (3, _), (4, _), (5, _), (6, _)]) d_Mod_longest_297 (by decide) rfl rfl ?_
            refine aw_goto d_Mod_longest_300 ?_
            refine aw_drop (lv2 := [(0, _), (1, _), (2, _), (3, _), (4, _)]) [0, 1, 2, 3, 4] rfl ?_
            have k9 := ih4 (by omega) _ _ _ hm trivial ⟨hK, by rw [kS_s br168_]; exact hRp2, Or.inr ⟨k, rfl, br168_⟩⟩
            rw [kS_s br168_] at k9
            exact k9
          · skip
            have hal := aft_lt hv hcl2 br201_
            refine aw_aload_n (i := 0) d_Mod_longest_204 rfl rfl ?_
            refine mo_get (f := 28) hm d_Mod_longest_205 fl_Mod_79 rfl ?_
            refine aw_iload d_Mod_longest_208 rfl ?_
            refine aw_bipush (v := nI 24) d_Mod_longest_210 (by decide) ?_
            refine aw_imulN d_Mod_longest_212 ?_
            refine aw_iload d_Mod_longest_213 rfl ?_
            refine aw_iaddN d_Mod_longest_215 ?_
            apply mo_ld (f := 28) (N := 480000) hm d_Mod_longest_216 rfl rfl (by decide); omega; exact hb _ _ hcl2 br201_
            refine aw_istore (lv2 := [(0, _), (1, _), (2, _), (3, _), (4, _), (5, _), (6, _), (7, _)]) d_Mod_longest_217 (by decide) rfl ?_
            refine aw_iload d_Mod_longest_219 rfl ?_
            refine aw_if_ge d_Mod_longest_221 (fun br221_ => ?_) (fun br221_ => ?_)
            · skip
              have ho := bh_pos (fun q => absurd br221_ (Int32.not_le.mpr q))
              rw [bh_t ho]
              have hmo := hKJ.more hl9 br201_ (by rw [hg9]; exact ho) (by rw [hg9]; exact hal)
              rw [hg9] at hmo
              have hba := hbj (aft hs ((kS hs k).1.1.getD k 0) j)
              have htk : tks hs j ≤ 100 := (hv.s br201_).2.2.2.2.1
              have hc40 := (hRp2.2 _ hal).1
              have hco := hKJ.2.2.1 _ hal
              have hcb := colc_bd (hs := hs) (rch hs) (aft hs ((kS hs k).1.1.getD k 0) j) (hall hs)
              have hcb2 : hall hs * hs.2.1.length ≤ 20000 * 24 := Nat.mul_le_mul hall2 hs24
              refine aw_aload_n (i := 0) d_Mod_longest_227 rfl rfl ?_
              refine mo_get (f := 41) hm d_Mod_longest_228 fl_Mod_114 rfl ?_
              refine aw_iload d_Mod_longest_231 rfl ?_
              refine aw_aload_n (i := 0) d_Mod_longest_233 rfl rfl ?_
              refine mo_get (f := 41) hm d_Mod_longest_234 fl_Mod_114 rfl ?_
              refine aw_iload d_Mod_longest_237 rfl ?_
              apply mo_ld (f := 41) (N := 20000) hm d_Mod_longest_239 rfl rfl (by decide); omega; exact (hRp2.2 _ hal).2
              refine aw_aload_n (i := 0) d_Mod_longest_240 rfl rfl ?_
              refine mo_get (f := 41) hm d_Mod_longest_241 fl_Mod_114 rfl ?_
              refine aw_iload d_Mod_longest_244 rfl ?_
              apply mo_ld (f := 41) (N := 20000) hm d_Mod_longest_246 rfl rfl (by decide); omega; exact ((hRp2.2 _ hcl2).2.trans (by rw [hself]))
              refine aw_aload_n (i := 0) d_Mod_longest_247 rfl rfl ?_
              refine mo_get (f := 7) hm d_Mod_longest_248 fl_Mod_22 rfl ?_
              refine aw_iload d_Mod_longest_251 rfl ?_
              apply mo_ld (f := 7) (N := 24) hm d_Mod_longest_253 rfl rfl (by decide); omega; exact (show _ = nI (tks hs j) from (hh.2.2.1 _ br201_).2.2.1)
              refine aw_iaddN d_Mod_longest_254 ?_
              apply aw_calls_p (c_Math_max_nI ((krow hs ((kS hs k).1.1.getD k 0) ((kS hs k).1.2.2 ((kS hs k).1.1.getD k 0)) j (kS hs k).1).2.2 (aft hs ((kS hs k).1.1.getD k 0) j)) ((kS hs k).1.2.2 ((kS hs k).1.1.getD k 0) + tks hs j) (by omega) (by omega)) d_Mod_longest_255 cl_Mod_278; rfl; rfl; decide; exact Nat.le_of_ble_eq_true rfl; exact (Nat.le_refl _); exact (Nat.le_refl _)
              apply mo_st (f := 41) (N := 20000) hm d_Mod_longest_258 rfl rfl (by decide); omega; intro h hm
              refine aw_aload_n (i := 0) d_Mod_longest_259 rfl rfl ?_
              refine mo_get (f := 40) hm d_Mod_longest_260 fl_Mod_111 rfl ?_
              refine aw_iload d_Mod_longest_263 rfl ?_
              refine aw_dup2 d_Mod_longest_265 rfl rfl ?_
              apply mo_ld (f := 40) (N := 20000) hm d_Mod_longest_266 rfl rfl (by decide); omega; exact hc40
              refine aw_iconst (v := nI 1) d_Mod_longest_267 (by decide) ?_
              refine aw_isubN d_Mod_longest_268 hmo.1 ?_
              apply mo_st (f := 40) (N := 20000) hm d_Mod_longest_269 rfl rfl (by decide); omega; intro h hm
              refine aw_aload_n (i := 0) d_Mod_longest_270 rfl rfl ?_
              refine mo_get (f := 40) hm d_Mod_longest_271 fl_Mod_111 rfl ?_
              refine aw_iload d_Mod_longest_274 rfl ?_
              apply mo_ld (f := 40) (N := 20000) hm d_Mod_longest_276 rfl rfl (by decide); omega; exact (show upd _ _ _ _ = _ from pk_us)
              refine aw_ifN_ne d_Mod_longest_277 (by omega) (fun br277_ => ?_) (fun br277_ => ?_)
              · skip
                have hkn : (krow hs ((kS hs k).1.1.getD k 0) ((kS hs k).1.2.2 ((kS hs k).1.1.getD k 0)) (j + 1) (kS hs k).1).1 = (krow hs ((kS hs k).1.1.getD k 0) ((kS hs k).1.2.2 ((kS hs k).1.1.getD k 0)) j (kS hs k).1).1 := by show (kst hs _ _ j _).1 = _; unfold kst; rw [if_pos ho]; exact if_neg br277_
                refine aw_iincN (lv2 := [(0, _), (1, _), (2, _), (3, _), (4, _), (5, _), (6, _), (7, _)]) d_Mod_longest_291 (by decide) rfl rfl ?_
                refine aw_goto d_Mod_longest_294 ?_
                refine aw_drop (lv2 := [(0, _), (1, _), (2, _), (3, _), (4, _), (5, _), (6, _)]) [0, 1, 2, 3, 4, 5, 6] rfl ?_
                have k9 := ih5 br201_ _ _ _ hm ⟨(hK.tr (Kp.st rfl)).tr (Kp.st rfl), ⟨by rw [hkn]; exact hRp2.1, fun t ht => ?_⟩⟩
                · rw [hkn] at k9; exact k9
                · show upd (ar3 40) _ _ t = nI ((kst hs _ _ j _).2.1 t) ∧ upd (ar3 41) _ _ t = nI ((kst hs _ _ j _).2.2 t)
                  unfold kst
                  rw [if_pos ho]
                  show _ = nI (updn _ _ _ t) ∧ _ = nI (updn _ _ _ t)
                  by_cases e : t = aft hs ((kS hs k).1.1.getD k 0) j
                  · rw [e, pk_us, pk_us, un_s, un_s]; exact ⟨rfl, rfl⟩
                  · rw [pk_un e, pk_un e, un_n e, un_n e]; exact hRp2.2 t ht
              · skip
                have hkn : (krow hs ((kS hs k).1.1.getD k 0) ((kS hs k).1.2.2 ((kS hs k).1.1.getD k 0)) (j + 1) (kS hs k).1).1 = (krow hs ((kS hs k).1.1.getD k 0) ((kS hs k).1.2.2 ((kS hs k).1.1.getD k 0)) j (kS hs k).1).1 ++ [aft hs ((kS hs k).1.1.getD k 0) j] := by show (kst hs _ _ j _).1 = _; unfold kst; rw [if_pos ho]; exact if_pos br277_
                have hKJ1 := hKI.row hv (sum := (kS hs k).1.2.2 ((kS hs k).1.1.getD k 0)) br168_ (j + 1) (by omega)
                have hlj1 := hKJ1.len.2
                rw [hkn] at hlj1
                simp only [List.length_append, List.length_singleton] at hlj1
                refine aw_aload_n (i := 0) d_Mod_longest_280 rfl rfl ?_
                refine mo_get (f := 31) hm d_Mod_longest_281 fl_Mod_89 rfl ?_
                refine aw_iload_n (i := 2) d_Mod_longest_284 rfl rfl ?_
                refine aw_iload d_Mod_longest_285 rfl ?_
                apply mo_st (f := 31) (N := 20000) hm d_Mod_longest_287 rfl rfl (by decide); omega; intro h hm
                refine aw_iincN (lv2 := [(0, _), (1, _), (2, _), (3, _), (4, _), (5, _), (6, _), (7, _)]) d_Mod_longest_288 (by decide) rfl rfl ?_
                refine aw_iincN (lv2 := [(0, _), (1, _), (2, _), (3, _), (4, _), (5, _), (6, _), (7, _)]) d_Mod_longest_291 (by decide) rfl rfl ?_
                refine aw_goto d_Mod_longest_294 ?_
                refine aw_drop (lv2 := [(0, _), (1, _), (2, _), (3, _), (4, _), (5, _), (6, _)]) [0, 1, 2, 3, 4, 5, 6] rfl ?_
                have k9 := ih5 br201_ _ _ _ hm ⟨((hK.tr (Kp.st rfl)).tr (Kp.st rfl)).tr (Kp.st rfl), ⟨fun m hm9 => ?_, fun t ht => ?_⟩⟩
                · rw [hkn, List.length_append] at k9; exact k9
                · rw [hkn] at hm9 ⊢
                  simp only [List.length_append, List.length_singleton] at hm9
                  show upd (ar3 31) _ _ m = _
                  rw [gd_snoc hm9]
                  by_cases e : m < (krow hs ((kS hs k).1.1.getD k 0) ((kS hs k).1.2.2 ((kS hs k).1.1.getD k 0)) j (kS hs k).1).1.length
                  · rw [if_pos e, pk_un (by omega)]; exact hRp2.1 m e
                  · have em : m = (krow hs ((kS hs k).1.1.getD k 0) ((kS hs k).1.2.2 ((kS hs k).1.1.getD k 0)) j (kS hs k).1).1.length := by omega
                    rw [if_neg e, em, pk_us]
                · show upd (ar3 40) _ _ t = nI ((kst hs _ _ j _).2.1 t) ∧ upd (ar3 41) _ _ t = nI ((kst hs _ _ j _).2.2 t)
                  unfold kst
                  rw [if_pos ho]
                  show _ = nI (updn _ _ _ t) ∧ _ = nI (updn _ _ _ t)
                  by_cases e : t = aft hs ((kS hs k).1.1.getD k 0) j
                  · rw [e, pk_us, pk_us, un_s, un_s]; exact ⟨rfl, rfl⟩
                  · rw [pk_un e, pk_un e, un_n e, un_n e]; exact hRp2.2 t ht
            · skip
              have ho := bh_neg (Int32.not_le.mp br221_) (by omega)
              have hkn : krow hs ((kS hs k).1.1.getD k 0) ((kS hs k).1.2.2 ((kS hs k).1.1.getD k 0)) (j + 1) (kS hs k).1 = krow hs ((kS hs k).1.1.getD k 0) ((kS hs k).1.2.2 ((kS hs k).1.1.getD k 0)) j (kS hs k).1 := by show kst hs _ _ j _ = _; unfold kst; rw [ho]; rfl
              refine aw_goto d_Mod_longest_224 ?_
              refine aw_iincN (lv2 := [(0, _), (1, _), (2, _), (3, _), (4, _), (5, _), (6, _), (7, _)]) d_Mod_longest_291 (by decide) rfl rfl ?_
              refine aw_goto d_Mod_longest_294 ?_
              refine aw_drop (lv2 := [(0, _), (1, _), (2, _), (3, _), (4, _), (5, _), (6, _)]) [0, 1, 2, 3, 4, 5, 6] rfl ?_
              have k9 := ih5 br201_ _ _ _ hm ⟨hK, by rw [hkn]; exact hRp2⟩
              rw [hkn] at k9
              exact k9
      · skip
        have hz0 : colc hs (rch hs) (hsta hs) (hall hs) ≠ 0 := by omega
        have hln : lng hs = -2 := by
          have e0 : (kS hs 0).1.1.length = 0 := by show (if _ then _ else _ : List Nat).length = 0; rw [if_neg hz0]; rfl
          rw [lng_at hv (k := 0) (by rw [e0]; exact Nat.le_refl _) (Nat.zero_le _), e0, if_neg]
          intro q
          have := ctn_zero q.symm _ hst
          rw [show rch hs (hsta hs) = true from rcs_iff.mpr (Rch.start rfl)] at this; cases this
        refine aw_bipush (v := -2) d_Mod_longest_145 (by decide) ?_
        refine aw_iret d_Mod_longest_147 rfl (Nat.le_refl _) (Nat.le_refl _) ?_
        exact ⟨_, _, _, rfl, hm, by rw [hln], (hI.1.1 0 rfl).trans (h0_.trans rfl), hq1.kp hI.1 rfl rfl rfl rfl⟩
    · skip
      refine aw_iconst (v := nI 0) d_Mod_longest_68 (by decide) ?_
      refine aw_istore_n (i := 3) (lv2 := [(0, _), (1, _), (2, _), (3, _)]) d_Mod_longest_69 rfl (by decide) rfl ?_
      refine mloop (h0 := h0) (a := a) (A := A) (hs.2.1.length) (fun j h sc3 ar3 => AW G m_Mod_longest 4 0 0 _ 70 [(0, .ref a), (1, .int (nI (ctn (rch hs) (hall hs)))), (2, .int (nI i)), (3, .int (nI j))] [] (nx, h) 0 0) (fun j sc3 ar3 => Kp [] [31, 40, 41] sc1 ar1 sc3 ar3 ∧ ∀ t, t < hall hs → ar3 40 t = nI (colc hs (rch hs) t i + (if rch hs i then rowc hs t i j else 0)) ∧ ar3 41 t = nI 0) ?_ 0 _ _ _ (Nat.zero_le _) hm ⟨hI.1, fun t ht => by rw [show (if rch hs i then rowc hs t i 0 else 0) = 0 from by split <;> rfl]; exact hI.2 t ht⟩
      intro j h sc3 ar3 hi_j hm hJ ih3
      have hf := hf0.kp hJ.1 rfl rfl
      have hw := hf.1
      have hh := hq1.1.kp hJ.1 rfl rfl
      have hb := hf.2.2.1
      have h29 := hf.2.2.2.1
      refine aw_iload_n (i := 3) d_Mod_longest_70 rfl rfl ?_
      refine aw_aload_n (i := 0) d_Mod_longest_71 rfl rfl ?_
      apply mo_gets (f := 4) hm d_Mod_longest_72 fl_Mod_164 rfl; exact hh.1.2.1
      refine aw_icmpN_ge d_Mod_longest_75 (by omega) (by omega) (fun br75_ => ?_) (fun br75_ => ?_)
      · skip
        have ej : j = hs.2.1.length := by omega
        subst ej
        refine aw_iincN (lv2 := [(0, _), (1, _), (2, _), (3, _)]) d_Mod_longest_127 (by decide) rfl rfl ?_
        refine aw_goto d_Mod_longest_130 ?_
        refine aw_drop (lv2 := [(0, _), (1, _), (2, _)]) [0, 1, 2] rfl ?_
        exact ih2 br65_ _ _ _ hm hJ
      · skip
        have hal := aft_lt hv br65_ br75_
        refine aw_aload_n (i := 0) d_Mod_longest_78 rfl rfl ?_
        refine mo_get (f := 29) hm d_Mod_longest_79 fl_Mod_82 rfl ?_
        refine aw_iload_n (i := 2) d_Mod_longest_82 rfl rfl ?_
        apply mo_zld (f := 29) (N := 20000) hm d_Mod_longest_83 rfl rfl (by decide); omega; exact h29 _ br65_
        refine aw_ifB_eq d_Mod_longest_84 (fun br84_ => ?_) (fun br84_ => ?_)
        · skip
          refine aw_iincN (lv2 := [(0, _), (1, _), (2, _), (3, _)]) d_Mod_longest_127 (by decide) rfl rfl ?_
          refine aw_goto d_Mod_longest_130 ?_
          refine aw_drop (lv2 := [(0, _), (1, _), (2, _)]) [0, 1, 2] rfl ?_
          refine ih2 br65_ _ _ _ hm ⟨hJ.1, fun t ht => ?_⟩
          have h9 := hJ.2 t ht
          rw [br84_, if_neg (by decide)] at h9
          have e9 : colc hs (rch hs) t (i + 1) = colc hs (rch hs) t i + 0 := by show _ + _ = _; rw [br84_]; rfl
          rw [e9]; exact h9
        · skip
          refine aw_aload_n (i := 0) d_Mod_longest_87 rfl rfl ?_
          refine mo_get (f := 28) hm d_Mod_longest_88 fl_Mod_79 rfl ?_
          refine aw_iload_n (i := 2) d_Mod_longest_91 rfl rfl ?_
          refine aw_bipush (v := nI 24) d_Mod_longest_92 (by decide) ?_
          refine aw_imulN d_Mod_longest_94 ?_
          refine aw_iload_n (i := 3) d_Mod_longest_95 rfl rfl ?_
          refine aw_iaddN d_Mod_longest_96 ?_
          apply mo_ld (f := 28) (N := 480000) hm d_Mod_longest_97 rfl rfl (by decide); omega; exact hb _ _ br65_ br75_
          refine aw_if_lt d_Mod_longest_98 (fun br98_ => ?_) (fun br98_ => ?_)
          · skip
            have ho := bh_neg br98_ (by omega)
            have hrw : ∀ t, rowc hs t i (j + 1) = rowc hs t i j + 0 := fun t => by show _ + ind hs t i j = _; unfold ind; rw [ho]; rfl
            refine aw_iincN (lv2 := [(0, _), (1, _), (2, _), (3, _)]) d_Mod_longest_121 (by decide) rfl rfl ?_
            refine aw_goto d_Mod_longest_124 ?_
            refine ih3 br75_ _ _ _ hm ⟨hJ.1, fun t ht => ?_⟩
            rw [hrw t]; exact hJ.2 t ht
          · skip
            have ho := bh_pos br98_
            have hrw : ∀ t, rowc hs t i (j + 1) = rowc hs t i j + (if t = aft hs i j then 1 else 0) := fun t => by
              show _ + ind hs t i j = _
              unfold ind; rw [ho]
              by_cases e : t = aft hs i j
              · rw [if_pos e]; simp [e]
              · rw [if_neg e, show (aft hs i j == t) = false from beq_eq_false_iff_ne.mpr (fun q => e q.symm)]; rfl
            refine aw_aload_n (i := 0) d_Mod_longest_101 rfl rfl ?_
            refine mo_get (f := 40) hm d_Mod_longest_102 fl_Mod_111 rfl ?_
            refine aw_aload_n (i := 0) d_Mod_longest_105 rfl rfl ?_
            refine mo_get (f := 28) hm d_Mod_longest_106 fl_Mod_79 rfl ?_
            refine aw_iload_n (i := 2) d_Mod_longest_109 rfl rfl ?_
            refine aw_bipush (v := nI 24) d_Mod_longest_110 (by decide) ?_
            refine aw_imulN d_Mod_longest_112 ?_
            refine aw_iload_n (i := 3) d_Mod_longest_113 rfl rfl ?_
            refine aw_iaddN d_Mod_longest_114 ?_
            apply mo_ld (f := 28) (N := 480000) hm d_Mod_longest_115 rfl rfl (by decide); omega; exact ((hb _ _ br65_ br75_).trans (bh_t ho))
            refine aw_dup2 d_Mod_longest_116 rfl rfl ?_
            apply mo_ld (f := 40) (N := 20000) hm d_Mod_longest_117 rfl rfl (by decide); omega; exact (hJ.2 _ hal).1
            refine aw_iconst (v := nI 1) d_Mod_longest_118 (by decide) ?_
            refine aw_iaddN d_Mod_longest_119 ?_
            apply mo_st (f := 40) (N := 20000) hm d_Mod_longest_120 rfl rfl (by decide); omega; intro h hm
            refine aw_iincN (lv2 := [(0, _), (1, _), (2, _), (3, _)]) d_Mod_longest_121 (by decide) rfl rfl ?_
            refine aw_goto d_Mod_longest_124 ?_
            refine ih3 br75_ _ _ _ hm ⟨hJ.1.tr (Kp.st rfl), fun t ht => ⟨?_, (hJ.2 t ht).2⟩⟩
            show upd (ar3 40) (aft hs i j) _ t = _
            rw [hrw t, br84_, if_pos rfl]
            by_cases e : t = aft hs i j
            · subst e; rw [pk_us]; simp [br84_, Nat.add_assoc]
            · rw [pk_un e, if_neg e, (hJ.2 t ht).1, br84_, if_pos rfl]; rfl
  · skip
    refine aw_aload_n (i := 0) d_Mod_longest_21 rfl rfl ?_
    refine mo_get (f := 40) hm d_Mod_longest_22 fl_Mod_111 rfl ?_
    refine aw_iload_n (i := 2) d_Mod_longest_25 rfl rfl ?_
    refine aw_iconst (v := nI 0) d_Mod_longest_26 (by decide) ?_
    apply mo_st (f := 40) (N := 20000) hm d_Mod_longest_27 rfl rfl (by decide); omega; intro h hm
    refine aw_aload_n (i := 0) d_Mod_longest_28 rfl rfl ?_
    refine mo_get (f := 41) hm d_Mod_longest_29 fl_Mod_114 rfl ?_
    refine aw_iload_n (i := 2) d_Mod_longest_32 rfl rfl ?_
    refine aw_iconst (v := nI 0) d_Mod_longest_33 (by decide) ?_
    apply mo_st (f := 41) (N := 20000) hm d_Mod_longest_34 rfl rfl (by decide); omega; intro h hm
    refine aw_iload_n (i := 1) d_Mod_longest_35 rfl rfl ?_
    refine aw_aload_n (i := 0) d_Mod_longest_36 rfl rfl ?_
    refine mo_get (f := 29) hm d_Mod_longest_37 fl_Mod_82 rfl ?_
    refine aw_iload_n (i := 2) d_Mod_longest_40 rfl rfl ?_
    apply mo_zld (f := 29) (N := 20000) hm d_Mod_longest_41 rfl rfl (by decide); omega; exact h29 _ br18_
    refine aw_ifB_eq d_Mod_longest_42 (fun br42_ => ?_) (fun br42_ => ?_)
    · skip
      have hct : ctn (rch hs) (i + 1) = ctn (rch hs) i + 0 := by show _ + _ = _; rw [br42_]; rfl
      refine aw_iconst (v := nI 0) d_Mod_longest_49 (by decide) ?_
      refine aw_iaddN d_Mod_longest_50 ?_
      refine aw_istore_n (i := 1) (lv2 := [(0, _), (1, _), (2, _)]) d_Mod_longest_51 rfl (by decide) rfl ?_
      refine aw_iincN (lv2 := [(0, _), (1, _), (2, _)]) d_Mod_longest_52 (by decide) rfl rfl ?_
      refine aw_goto d_Mod_longest_55 ?_
      have k9 := ih br18_ _ _ _ hm ⟨(hI.1.tr (Kp.st rfl)).tr (Kp.st rfl), fun t ht => ?_⟩
      · rw [hct] at k9; exact k9
      · show upd (ar2 40) i _ t = _ ∧ upd (ar2 41) i _ t = _
        by_cases e : t = i
        · subst e; rw [pk_us, pk_us]; exact ⟨rfl, rfl⟩
        · rw [pk_un e, pk_un e]; exact hI.2 t (by omega)
    · skip
      have hct : ctn (rch hs) (i + 1) = ctn (rch hs) i + 1 := by show _ + _ = _; rw [br42_]; rfl
      refine aw_iconst (v := nI 1) d_Mod_longest_45 (by decide) ?_
      refine aw_goto d_Mod_longest_46 ?_
      refine aw_iaddN d_Mod_longest_50 ?_
      refine aw_istore_n (i := 1) (lv2 := [(0, _), (1, _), (2, _)]) d_Mod_longest_51 rfl (by decide) rfl ?_
      refine aw_iincN (lv2 := [(0, _), (1, _), (2, _)]) d_Mod_longest_52 (by decide) rfl rfl ?_
      refine aw_goto d_Mod_longest_55 ?_
      have k9 := ih br18_ _ _ _ hm ⟨(hI.1.tr (Kp.st rfl)).tr (Kp.st rfl), fun t ht => ?_⟩
      · rw [hct] at k9; exact k9
      · show upd (ar2 40) i _ t = _ ∧ upd (ar2 41) i _ t = _
        by_cases e : t = i
        · subst e; rw [pk_us, pk_us]; exact ⟨rfl, rfl⟩
        · rw [pk_un e, pk_un e]; exact hI.2 t (by omega)

