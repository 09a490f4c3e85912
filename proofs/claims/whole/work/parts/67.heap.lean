/-! a binary heap with a hole: both the class's and the reference's -/
def updn (f : Nat → Nat) (i x : Nat) : Nat → Nat := fun j => if j = i then x else f j
theorem un_s {f : Nat → Nat} {i x : Nat} : updn f i x i = x := if_pos rfl
theorem un_n {f : Nat → Nat} {i x j : Nat} (h : j ≠ i) : updn f i x j = f j := if_neg h
/-- n codes at 0 .. n-1, each knows its place, none above a lesser one -/
def Hp (n : Nat) (hp pl key : Nat → Nat) (C : Nat → Prop) : Prop := (∀ i, i < n → pl (hp i) = i) ∧ (∀ i, 0 < i → i < n → key (hp ((i - 1) / 2)) ≤ key (hp i)) ∧ ∀ c, C c ↔ ∃ i, i < n ∧ hp i = c
/-- the same with a hole at q, in which x is to go; what is above the hole may be greater than x, what is under it not -/
def Hu (n : Nat) (hp pl key : Nat → Nat) (C : Nat → Prop) (x q : Nat) : Prop := q < n ∧ (∀ i, i < n → i ≠ q → pl (hp i) = i ∧ hp i ≠ x) ∧ (∀ i, 0 < i → i < n → i ≠ q → (i - 1) / 2 ≠ q → key (hp ((i - 1) / 2)) ≤ key (hp i)) ∧ (∀ i, 0 < i → i < n → (i - 1) / 2 = q → key x ≤ key (hp i)) ∧ (∀ i, 0 < i → i < n → (i - 1) / 2 = q → 0 < q → key (hp ((q - 1) / 2)) ≤ key (hp i)) ∧ ∀ c, C c ↔ c = x ∨ ∃ i, i < n ∧ i ≠ q ∧ hp i = c
/-- what is under the hole may be less than x, what is above it not greater -/
def Hd (n : Nat) (hp pl key : Nat → Nat) (C : Nat → Prop) (x q : Nat) : Prop := q < n ∧ (∀ i, i < n → i ≠ q → pl (hp i) = i ∧ hp i ≠ x) ∧ (∀ i, 0 < i → i < n → i ≠ q → (i - 1) / 2 ≠ q → key (hp ((i - 1) / 2)) ≤ key (hp i)) ∧ (0 < q → key (hp ((q - 1) / 2)) ≤ key x) ∧ (∀ i, 0 < i → i < n → (i - 1) / 2 = q → 0 < q → key (hp ((q - 1) / 2)) ≤ key (hp i)) ∧ ∀ c, C c ↔ c = x ∨ ∃ i, i < n ∧ i ≠ q ∧ hp i = c
theorem Hp.min {n : Nat} {hp pl key : Nat → Nat} {C : Nat → Prop} (h : Hp n hp pl key C) : ∀ i, i < n → key (hp 0) ≤ key (hp i) := by
  intro i
  induction i using Nat.strongRecOn with
  | ind i ih =>
    intro hi
    by_cases e : i = 0
    · subst e; exact Nat.le_refl _
    · exact Nat.le_trans (ih ((i - 1) / 2) (by omega) (by omega)) (h.2.1 i (by omega) hi)
theorem Hp.inj {n : Nat} {hp pl key : Nat → Nat} {C : Nat → Prop} (h : Hp n hp pl key C) {i j : Nat} (hi : i < n) (hj : j < n) (e : hp i = hp j) : i = j := by
  rw [← h.1 i hi, ← h.1 j hj, e]
theorem Hu.step {n : Nat} {hp pl key : Nat → Nat} {C : Nat → Prop} {x q : Nat} (h : Hu n hp pl key C x q) (hq : 0 < q) (hk : key x < key (hp ((q - 1) / 2))) : Hu n (updn hp q (hp ((q - 1) / 2))) (updn pl (hp ((q - 1) / 2)) q) key C x ((q - 1) / 2) := by
  obtain ⟨h1, h2, h3, h4, h5, h6⟩ := h
  have hpq : (q - 1) / 2 < q := by omega
  have hp2 := h2 ((q - 1) / 2) (by omega) (by omega)
  refine ⟨by omega, fun i hi hne => ?_, fun i h0 hi hne hpa => ?_, fun i h0 hi hpa => ?_, fun i h0 hi hpa hz => ?_, fun c => ?_⟩
  · by_cases e : i = q
    · subst e; rw [un_s, un_s]; exact ⟨rfl, hp2.2⟩
    · rw [un_n e]
      have := h2 i hi e
      refine ⟨?_, this.2⟩
      rw [un_n, this.1]
      intro e2
      rw [e2, hp2.1] at this
      exact hne this.1.symm
  · by_cases e : i = q
    · subst e; exact absurd rfl hpa
    · by_cases e2 : (i - 1) / 2 = q
      · rw [un_n e, e2, un_s]; exact h5 i h0 hi e2 hq
      · rw [un_n e, un_n e2]; exact h3 i h0 hi e e2
  · by_cases e : i = q
    · subst e; rw [un_s]; omega
    · rw [un_n e]
      have := h3 i h0 hi e (by omega)
      rw [hpa] at this
      omega
  · have e0 : ((q - 1) / 2 - 1) / 2 ≠ q := by omega
    have h8 := h3 ((q - 1) / 2) hz (by omega) (by omega) (by omega)
    rw [un_n e0]
    by_cases e : i = q
    · subst e; rw [un_s]; exact h8
    · rw [un_n e]
      have := h3 i h0 hi e (by omega)
      rw [hpa] at this
      omega
  · rw [h6 c]
    constructor
    · rintro (rfl | ⟨i, hi, hne, rfl⟩)
      · exact Or.inl rfl
      · right
        by_cases e : i = (q - 1) / 2
        · exact ⟨q, h1, by omega, by rw [un_s, e]⟩
        · exact ⟨i, hi, e, un_n hne⟩
    · rintro (rfl | ⟨i, hi, hne, rfl⟩)
      · exact Or.inl rfl
      · right
        by_cases e : i = q
        · subst e; exact ⟨(i - 1) / 2, by omega, by omega, by rw [un_s]⟩
        · exact ⟨i, hi, e, by rw [un_n e]⟩
theorem hfin {n : Nat} {hp pl key : Nat → Nat} {C : Nat → Prop} {x q : Nat} (h1 : q < n) (h2 : ∀ i, i < n → i ≠ q → pl (hp i) = i ∧ hp i ≠ x) (h3 : ∀ i, 0 < i → i < n → i ≠ q → (i - 1) / 2 ≠ q → key (hp ((i - 1) / 2)) ≤ key (hp i)) (h4 : ∀ i, 0 < i → i < n → (i - 1) / 2 = q → key x ≤ key (hp i)) (h5 : 0 < q → key (hp ((q - 1) / 2)) ≤ key x) (h6 : ∀ c, C c ↔ c = x ∨ ∃ i, i < n ∧ i ≠ q ∧ hp i = c) : Hp n (updn hp q x) (updn pl x q) key C := by
  refine ⟨fun i hi => ?_, fun i h0 hi => ?_, fun c => ?_⟩
  · by_cases e : i = q
    · subst e; rw [un_s, un_s]
    · rw [un_n e, un_n (h2 i hi e).2, (h2 i hi e).1]
  · by_cases e : i = q
    · subst e; rw [un_s, un_n (by omega)]; exact h5 h0
    · by_cases e2 : (i - 1) / 2 = q
      · rw [un_n e, e2, un_s]; exact h4 i h0 hi e2
      · rw [un_n e, un_n e2]; exact h3 i h0 hi e e2
  · rw [h6 c]
    constructor
    · rintro (rfl | ⟨i, hi, hne, rfl⟩)
      · exact ⟨q, h1, un_s⟩
      · exact ⟨i, hi, un_n hne⟩
    · rintro ⟨i, hi, rfl⟩
      by_cases e : i = q
      · subst e; rw [un_s]; exact Or.inl rfl
      · rw [un_n e]; exact Or.inr ⟨i, hi, e, rfl⟩
theorem Hu.fin {n : Nat} {hp pl key : Nat → Nat} {C : Nat → Prop} {x q : Nat} (h : Hu n hp pl key C x q) (hk : 0 < q → key (hp ((q - 1) / 2)) ≤ key x) : Hp n (updn hp q x) (updn pl x q) key C := hfin h.1 h.2.1 h.2.2.1 h.2.2.2.1 hk h.2.2.2.2.2
theorem Hd.fin {n : Nat} {hp pl key : Nat → Nat} {C : Nat → Prop} {x q : Nat} (h : Hd n hp pl key C x q) (hk : ∀ i, 0 < i → i < n → (i - 1) / 2 = q → key x ≤ key (hp i)) : Hp n (updn hp q x) (updn pl x q) key C := hfin h.1 h.2.1 h.2.2.1 hk h.2.2.2.1 h.2.2.2.2.2
theorem Hd.step {n : Nat} {hp pl key : Nat → Nat} {C : Nat → Prop} {x q r : Nat} (h : Hd n hp pl key C x q) (hr : r < n) (h0r : 0 < r) (hrq : (r - 1) / 2 = q) (hk : key (hp r) < key x) (hsib : ∀ i, 0 < i → i < n → (i - 1) / 2 = q → key (hp r) ≤ key (hp i)) : Hd n (updn hp q (hp r)) (updn pl (hp r) q) key C x r := by
  obtain ⟨h1, h2, h3, h4, h5, h6⟩ := h
  have hqr : q < r := by omega
  have hr2 := h2 r hr (by omega)
  refine ⟨hr, fun i hi hne => ?_, fun i h0 hi hne hpa => ?_, fun hz => ?_, fun i h0 hi hpa hz => ?_, fun c => ?_⟩
  · by_cases e : i = q
    · subst e; rw [un_s, un_s]; exact ⟨rfl, hr2.2⟩
    · rw [un_n e]
      have := h2 i hi e
      refine ⟨?_, this.2⟩
      rw [un_n, this.1]
      intro e2
      rw [e2, hr2.1] at this
      exact hne this.1.symm
  · by_cases e : i = q
    · subst e
      rw [un_s, un_n (by omega)]
      exact h5 r h0r hr hrq h0
    · by_cases e2 : (i - 1) / 2 = q
      · rw [un_n e, e2, un_s]; exact hsib i h0 hi e2
      · rw [un_n e, un_n e2]; exact h3 i h0 hi e e2
  · rw [hrq, un_s]; omega
  · rw [hrq, un_s, un_n (by omega)]
    have := h3 i h0 hi (by omega) (by omega)
    rw [hpa] at this
    exact this
  · rw [h6 c]
    constructor
    · rintro (rfl | ⟨i, hi, hne, rfl⟩)
      · exact Or.inl rfl
      · right
        by_cases e : i = r
        · exact ⟨q, h1, by omega, by rw [un_s, e]⟩
        · exact ⟨i, hi, e, un_n hne⟩
    · rintro (rfl | ⟨i, hi, hne, rfl⟩)
      · exact Or.inl rfl
      · right
        by_cases e : i = q
        · subst e; exact ⟨r, hr, by omega, by rw [un_s]⟩
        · exact ⟨i, hi, e, by rw [un_n e]⟩
/-- a code whose key has become less goes up from its place -/
theorem Hp.hole {n : Nat} {hp pl key key2 : Nat → Nat} {C : Nat → Prop} {x : Nat} (h : Hp n hp pl key C) (hC : C x) (hle : key2 x ≤ key x) (hoth : ∀ c, c ≠ x → key2 c = key c) : Hu n hp pl key2 C x (pl x) := by
  obtain ⟨h1, h2, h3⟩ := h
  obtain ⟨q, hq, hx⟩ := (h3 x).mp hC
  have e : pl x = q := by rw [← hx]; exact h1 q hq
  have hne : ∀ i, i < n → i ≠ q → hp i ≠ x := fun i hi hne e2 => hne (by rw [← h1 i hi, e2, e])
  rw [e]
  refine ⟨hq, fun i hi hn => ⟨h1 i hi, hne i hi hn⟩, fun i h0 hi hn hpa => ?_, fun i h0 hi hpa => ?_, fun i h0 hi hpa hz => ?_, fun c => ?_⟩
  · rw [hoth _ (hne i hi hn), hoth _ (hne _ (by omega) hpa)]; exact h2 i h0 hi
  · have := h2 i h0 hi
    rw [hpa, hx] at this
    rw [hoth _ (hne i hi (by omega))]
    omega
  · have a1 := h2 i h0 hi
    have a2 := h2 q hz hq
    rw [hpa] at a1
    rw [hoth _ (hne i hi (by omega)), hoth _ (hne _ (by omega) (by omega))]
    omega
  · rw [h3 c]
    constructor
    · rintro ⟨i, hi, rfl⟩
      by_cases e2 : i = q
      · subst e2; exact Or.inl hx
      · exact Or.inr ⟨i, hi, e2, rfl⟩
    · rintro (rfl | ⟨i, hi, -, rfl⟩)
      · exact ⟨q, hq, hx⟩
      · exact ⟨i, hi, rfl⟩
/-- a new code at the end -/
theorem Hp.more {n : Nat} {hp pl key key2 : Nat → Nat} {C : Nat → Prop} {x : Nat} (h : Hp n hp pl key C) (hC : ¬ C x) (hoth : ∀ c, c ≠ x → key2 c = key c) : Hu (n + 1) hp pl key2 (fun c => c = x ∨ C c) x n := by
  obtain ⟨h1, h2, h3⟩ := h
  have hne : ∀ i, i < n → hp i ≠ x := fun i hi e => hC ((h3 x).mpr ⟨i, hi, e⟩)
  refine ⟨by omega, fun i hi hn => ⟨h1 i (by omega), hne i (by omega)⟩, fun i h0 hi hn hpa => ?_, fun i h0 hi hpa => by omega, fun i h0 hi hpa hz => by omega, fun c => ?_⟩
  · rw [hoth _ (hne i (by omega)), hoth _ (hne _ (by omega))]; exact h2 i h0 (by omega)
  · show c = x ∨ C c ↔ _
    rw [h3 c]
    constructor
    · rintro (rfl | ⟨i, hi, rfl⟩)
      · exact Or.inl rfl
      · exact Or.inr ⟨i, by omega, by omega, rfl⟩
    · rintro (rfl | ⟨i, hi, hn, rfl⟩)
      · exact Or.inl rfl
      · exact Or.inr ⟨i, by omega, rfl⟩
/-- the top is taken: the last goes down from there -/
theorem Hp.take {n : Nat} {hp pl key : Nat → Nat} {C : Nat → Prop} (h : Hp (n + 1) hp pl key C) (hn : 0 < n) : Hd n hp pl key (fun c => C c ∧ c ≠ hp 0) (hp n) 0 := by
  obtain ⟨h1, h2, h3⟩ := h
  refine ⟨hn, fun i hi hne => ⟨h1 i (by omega), fun e => ?_⟩, fun i h0 hi hne hpa => h2 i h0 (by omega), fun hz => by omega, fun i h0 hi hpa hz => by omega, fun c => ?_⟩
  · have a1 := h1 i (by omega)
    have a2 := h1 n (by omega)
    rw [e, a2] at a1
    omega
  · show C c ∧ c ≠ hp 0 ↔ _
    rw [h3 c]
    constructor
    · rintro ⟨⟨i, hi, rfl⟩, hne⟩
      by_cases e : i = n
      · subst e; exact Or.inl rfl
      · exact Or.inr ⟨i, by omega, fun e2 => hne (by rw [e2]), rfl⟩
    · rintro (rfl | ⟨i, hi, hne, rfl⟩)
      · refine ⟨⟨n, by omega, rfl⟩, fun e => ?_⟩
        have a1 := h1 0 (by omega)
        have a2 := h1 n (by omega)
        rw [e, a1] at a2
        omega
      · refine ⟨⟨i, by omega, rfl⟩, fun e => ?_⟩
        have a1 := h1 0 (by omega)
        have a2 := h1 i (by omega)
        rw [e, a1] at a2
        omega
theorem Hp.take0 {hp pl key : Nat → Nat} {C : Nat → Prop} (h : Hp 1 hp pl key C) (hp2 pl2 : Nat → Nat) : Hp 0 hp2 pl2 key (fun c => C c ∧ c ≠ hp 0) := by
  refine ⟨fun i hi => by omega, fun i h0 hi => by omega, fun c => ⟨fun ⟨hc, hne⟩ => ?_, fun ⟨i, hi, _⟩ => by omega⟩⟩
  obtain ⟨i, hi, rfl⟩ := (h.2.2 c).mp hc
  have : i = 0 := by omega
  subst this
  exact absurd rfl hne
