/-! the moves that come to a code, counted -/
def ind (hs : HSt) (t c s : Nat) : Nat := if (opn hs c s && aft hs c s == t) = true then 1 else 0
def rowc (hs : HSt) (t c : Nat) : Nat → Nat
  | 0 => 0
  | s + 1 => rowc hs t c s + ind hs t c s
def colc (hs : HSt) (p : Nat → Bool) (t : Nat) : Nat → Nat
  | 0 => 0
  | c + 1 => colc hs p t c + (if p c then rowc hs t c hs.2.1.length else 0)
def sumT (f : Nat → Nat) : Nat → Nat
  | 0 => 0
  | t + 1 => sumT f t + f t
theorem sumT_add (f g : Nat → Nat) : ∀ n, sumT (fun t => f t + g t) n = sumT f n + sumT g n
  | 0 => rfl
  | n + 1 => by simp only [sumT, sumT_add f g n]; omega
theorem sumT_le {f g : Nat → Nat} (h : ∀ t, f t ≤ g t) : ∀ n, sumT f n ≤ sumT g n
  | 0 => Nat.le_refl _
  | n + 1 => by simp only [sumT]; have := sumT_le h n; have := h n; omega
theorem sumT_ind (hs : HSt) (c s : Nat) : ∀ n, sumT (fun t => ind hs t c s) n ≤ if aft hs c s < n then 1 else 0
  | 0 => Nat.zero_le _
  | n + 1 => by
    have ih := sumT_ind hs c s n
    simp only [sumT]
    unfold ind at ih ⊢
    by_cases e : aft hs c s = n
    · rw [if_neg (by omega)] at ih
      have h3 : aft hs c s < n + 1 := by omega
      rw [if_pos h3]
      split <;> omega
    · have e2 : (opn hs c s && aft hs c s == n) = false := by rw [beq_eq_false_iff_ne.mpr e, Bool.and_false]
      rw [e2, if_neg (by decide)]
      refine Nat.le_trans ih ?_
      split <;> split <;> omega
theorem sumT_row (hs : HSt) (c n : Nat) : ∀ s, sumT (fun t => rowc hs t c s) n ≤ s
  | 0 => by
    have : ∀ n, sumT (fun t => rowc hs t c 0) n = 0 := by
      intro n; induction n with
      | zero => rfl
      | succ n ih => simp only [sumT, ih]; rfl
    rw [this]; exact Nat.le_refl _
  | s + 1 => by
    have ih := sumT_row hs c n s
    have h1 := sumT_ind hs c s n
    have h2 := sumT_add (fun t => rowc hs t c s) (fun t => ind hs t c s) n
    have e : (fun t => rowc hs t c (s + 1)) = (fun t => rowc hs t c s + ind hs t c s) := rfl
    rw [e, h2]
    have : (if aft hs c s < n then 1 else 0) ≤ 1 := by split <;> omega
    omega
theorem sumT_col (hs : HSt) (p : Nat → Bool) (n : Nat) : ∀ c, sumT (fun t => colc hs p t c) n ≤ c * hs.2.1.length
  | 0 => by
    have : ∀ n, sumT (fun t => colc hs p t 0) n = 0 := by
      intro n; induction n with
      | zero => rfl
      | succ n ih => simp only [sumT, ih]; rfl
    rw [this]; exact Nat.zero_le _
  | c + 1 => by
    have ih := sumT_col hs p n c
    have h1 := sumT_row hs c n hs.2.1.length
    have h2 := sumT_add (fun t => colc hs p t c) (fun t => if p c then rowc hs t c hs.2.1.length else 0) n
    have e : (fun t => colc hs p t (c + 1)) = (fun t => colc hs p t c + (if p c then rowc hs t c hs.2.1.length else 0)) := rfl
    rw [e, h2]
    have h3 : sumT (fun t => if p c then rowc hs t c hs.2.1.length else 0) n ≤ sumT (fun t => rowc hs t c hs.2.1.length) n := sumT_le (fun t => by split <;> omega) n
    rw [Nat.succ_mul]
    omega
theorem row_mono (hs : HSt) (t c : Nat) : ∀ {s s2 : Nat}, s ≤ s2 → rowc hs t c s ≤ rowc hs t c s2 := by
  intro s s2 h
  induction s2 with
  | zero => have : s = 0 := by omega
            subst this; exact Nat.le_refl _
  | succ n ih =>
    by_cases e : s = n + 1
    · subst e; exact Nat.le_refl _
    · have := ih (by omega); simp only [rowc]; omega
theorem col_mono (hs : HSt) (p : Nat → Bool) (t : Nat) : ∀ {c c2 : Nat}, c ≤ c2 → colc hs p t c ≤ colc hs p t c2 := by
  intro c c2 h
  induction c2 with
  | zero => have : c = 0 := by omega
            subst this; exact Nat.le_refl _
  | succ n ih =>
    by_cases e : c = n + 1
    · subst e; exact Nat.le_refl _
    · have := ih (by omega); simp only [colc]; omega
theorem col_row {hs : HSt} {p : Nat → Bool} {t c s n : Nat} (hp : p c = true) (hc : c < n) (hs2 : s ≤ hs.2.1.length) : colc hs p t c + rowc hs t c s ≤ colc hs p t n := by
  have h1 := col_mono hs p t (show c + 1 ≤ n by omega)
  have h2 := row_mono hs t c hs2
  simp only [colc, hp, if_true] at h1
  omega
def TT : Nat → Bool := fun _ => true
def bgn (hs : HSt) (t : Nat) : Nat := sumT (fun t => colc hs TT t (hall hs)) t
theorem bgn_s (hs : HSt) (t : Nat) : bgn hs (t + 1) = bgn hs t + colc hs TT t (hall hs) := rfl
theorem bgn_mono (hs : HSt) {t t2 : Nat} (h : t ≤ t2) : bgn hs t ≤ bgn hs t2 := by
  induction t2 with
  | zero => have : t = 0 := by omega
            subst this; exact Nat.le_refl _
  | succ n ih =>
    by_cases e : t = n + 1
    · subst e; exact Nat.le_refl _
    · have := ih (by omega); rw [bgn_s]; omega
theorem bgn_le {hs : HSt} (hv : VH hs) (t : Nat) : bgn hs t ≤ 480000 := by
  have h1 := sumT_col hs TT t (hall hs)
  have h2 := hv.2.1
  have h3 := hv.2.2.2.2.2.2.2
  have h4 : hall hs * hs.2.1.length ≤ 20000 * 24 := Nat.mul_le_mul h3 h2
  unfold bgn
  omega
/-- the rows that turnsRound() fills, on the way: at code i, step j -/
def cnE (hs : HSt) (t i j : Nat) : Nat := colc hs TT t i + rowc hs t i j
theorem cnE_le {hs : HSt} {t i j : Nat} (hi : i < hall hs) (hj : j ≤ hs.2.1.length) : bgn hs t + cnE hs t i j ≤ bgn hs (t + 1) := by
  have := col_row (hs := hs) (p := TT) (t := t) (c := i) (s := j) (n := hall hs) rfl hi hj
  rw [bgn_s]; unfold cnE; omega
theorem cnE_s1 {hs : HSt} {t i j : Nat} (ho : opn hs i j = true) (ht : aft hs i j = t) : cnE hs t i (j + 1) = cnE hs t i j + 1 := by
  have : ind hs t i j = 1 := by unfold ind; rw [ho, ht]; simp
  simp only [cnE, rowc, this]; omega
theorem cnE_s0 {hs : HSt} {t i j : Nat} (h : opn hs i j = false ∨ aft hs i j ≠ t) : cnE hs t i (j + 1) = cnE hs t i j := by
  have : ind hs t i j = 0 := by
    unfold ind
    rcases h with h | h
    · rw [h]; simp
    · rw [beq_eq_false_iff_ne.mpr h]; simp
  simp only [cnE, rowc, this]; omega
theorem cnE_n {hs : HSt} {t i : Nat} : cnE hs t i hs.2.1.length = cnE hs t (i + 1) 0 := rfl
def E4 (hs : HSt) (f31 f33 f34 : Nat → Int32) (i j : Nat) : Prop := (∀ t, t < hall hs → f31 t = nI (bgn hs t + cnE hs t i j)) ∧ (∀ t, t < hall hs → ∀ k, bgn hs t ≤ k → k < bgn hs t + cnE hs t i j → ∃ c s, c < hall hs ∧ s < hs.2.1.length ∧ opn hs c s = true ∧ aft hs c s = t ∧ f33 k = nI c ∧ f34 k = nI s) ∧ (∀ c s, (c < i ∨ (c = i ∧ s < j)) → c < hall hs → s < hs.2.1.length → opn hs c s = true → ∃ k, bgn hs (aft hs c s) ≤ k ∧ k < bgn hs (aft hs c s) + cnE hs (aft hs c s) i j ∧ f33 k = nI c ∧ f34 k = nI s)
theorem E4.skip {hs : HSt} {f31 f33 f34 : Nat → Int32} {i j : Nat} (h : E4 hs f31 f33 f34 i j) (ho : opn hs i j = false) : E4 hs f31 f33 f34 i (j + 1) := by
  have e : ∀ t, cnE hs t i (j + 1) = cnE hs t i j := fun t => cnE_s0 (Or.inl ho)
  refine ⟨fun t ht => by rw [e]; exact h.1 t ht, fun t ht k => by rw [e]; exact h.2.1 t ht k, fun c s hcs hc hs2 hop => ?_⟩
  rw [e]
  refine h.2.2 c s ?_ hc hs2 hop
  rcases Nat.lt_or_ge c i with q | q
  · exact Or.inl q
  · right
    refine ⟨by omega, ?_⟩
    rcases Nat.lt_or_ge s j with q2 | q2
    · exact q2
    · have e1 : c = i := by omega
      have e2 : s = j := by omega
      subst e1 e2
      rw [ho] at hop; cases hop
theorem E4.next {hs : HSt} {f31 f33 f34 : Nat → Int32} {i : Nat} (h : E4 hs f31 f33 f34 i hs.2.1.length) : E4 hs f31 f33 f34 (i + 1) 0 := by
  refine ⟨h.1, h.2.1, fun c s hcs hc hs2 => h.2.2 c s ?_ hc hs2⟩
  omega
theorem E4.step {hs : HSt} {f31 f33 f34 : Nat → Int32} {i j t0 k0 : Nat} (hv : VH hs) (h : E4 hs f31 f33 f34 i j) (hi : i < hall hs) (hj : j < hs.2.1.length) (ho : opn hs i j = true) (ht : aft hs i j = t0) (hk : k0 = bgn hs t0 + cnE hs t0 i j) : E4 hs (upd f31 t0 (nI (k0 + 1))) (upd f33 k0 (nI i)) (upd f34 k0 (nI j)) i (j + 1) ∧ k0 < 480000 := by
  have hc1 := cnE_s1 ho ht
  have hb0 := cnE_le (hs := hs) (t := t0) (i := i) (j := j + 1) hi (by omega)
  have hbl := bgn_le hv (t0 + 1)
  have hdis : ∀ t, t < hall hs → t ≠ t0 → ∀ k, bgn hs t ≤ k → k < bgn hs t + cnE hs t i (j + 1) → k ≠ k0 := by
    intro t htl hne k h1 h2 e
    have hb := cnE_le (hs := hs) (t := t) (i := i) (j := j + 1) hi (by omega)
    rcases Nat.lt_or_ge t t0 with q | q
    · have := bgn_mono hs (show t + 1 ≤ t0 by omega); omega
    · have := bgn_mono hs (show t0 + 1 ≤ t by omega); omega
  refine ⟨⟨fun t htl => ?_, fun t htl k h1 h2 => ?_, fun c s hcs hc hs2 hop => ?_⟩, by omega⟩
  · by_cases e : t = t0
    · subst e; rw [pk_us, hc1, hk]; rfl
    · rw [pk_un e, cnE_s0 (Or.inr (by omega))]; exact h.1 t htl
  · by_cases e : t = t0
    · subst e
      by_cases e2 : k = k0
      · subst e2
        exact ⟨i, j, hi, hj, ho, ht, pk_us, pk_us⟩
      · obtain ⟨c, s, q1, q2, q3, q4, q5, q6⟩ := h.2.1 t htl k h1 (by omega)
        exact ⟨c, s, q1, q2, q3, q4, by rw [pk_un e2]; exact q5, by rw [pk_un e2]; exact q6⟩
    · have e2 := hdis t htl e k h1 h2
      rw [cnE_s0 (Or.inr (by omega))] at h2
      obtain ⟨c, s, q1, q2, q3, q4, q5, q6⟩ := h.2.1 t htl k h1 h2
      exact ⟨c, s, q1, q2, q3, q4, by rw [pk_un e2]; exact q5, by rw [pk_un e2]; exact q6⟩
  · by_cases e : c = i ∧ s = j
    · obtain ⟨rfl, rfl⟩ := e
      exact ⟨k0, by rw [ht]; omega, by rw [ht]; omega, pk_us, pk_us⟩
    · obtain ⟨k, q1, q2, q3, q4⟩ := h.2.2 c s (by omega) hc hs2 hop
      have e2 : k ≠ k0 := by
        by_cases e3 : aft hs c s = t0
        · rw [e3] at q2; omega
        · refine hdis (aft hs c s) (aft_lt hv hc hs2) e3 k q1 ?_
          rw [cnE_s0 (Or.inr (by omega))]; exact q2
      refine ⟨k, q1, ?_, by rw [pk_un e2]; exact q3, by rw [pk_un e2]; exact q4⟩
      by_cases e3 : aft hs c s = t0
      · rw [e3] at q2 ⊢; omega
      · rw [cnE_s0 (Or.inr (by omega))]; exact q2
/-- what turnsRound() leaves -/
def MoE (ar : Nat → Nat → Int32) (hs : HSt) : Prop := (∀ t, t ≤ hall hs → ar 32 t = nI (bgn hs t)) ∧ (∀ t, t < hall hs → ∀ k, bgn hs t ≤ k → k < bgn hs (t + 1) → ∃ c s, c < hall hs ∧ s < hs.2.1.length ∧ opn hs c s = true ∧ aft hs c s = t ∧ ar 33 k = nI c ∧ ar 34 k = nI s) ∧ (∀ c s, c < hall hs → s < hs.2.1.length → opn hs c s = true → ∃ k, bgn hs (aft hs c s) ≤ k ∧ k < bgn hs (aft hs c s + 1) ∧ ar 33 k = nI c ∧ ar 34 k = nI s)
theorem E4.done {hs : HSt} {ar : Nat → Nat → Int32} (h : E4 hs (ar 31) (ar 33) (ar 34) (hall hs) 0) (h0 : ∀ t, t ≤ hall hs → ar 32 t = nI (bgn hs t)) : MoE ar hs := by
  have e : ∀ t, bgn hs t + cnE hs t (hall hs) 0 = bgn hs (t + 1) := fun t => rfl
  exact ⟨h0, fun t ht k h1 h2 => h.2.1 t ht k h1 (by rw [e]; exact h2), fun c s hc hs2 ho => by
    obtain ⟨k, q1, q2, q3⟩ := h.2.2 c s (Or.inl hc) hc hs2 ho
    exact ⟨k, q1, by rw [e] at q2; exact q2, q3⟩⟩
/-! least ways -/
def tks (hs : HSt) (j : Nat) : Nat := (hs.2.1.getD j sz0).2.2.1
def Way (hs : HSt) (c v : Nat) : Prop := ∀ P : Nat → Nat → Prop, (∀ c, c < hall hs → isE hs c = true → P c 0) → (∀ c j v, c < hall hs → j < hs.2.1.length → opn hs c j = true → P (aft hs c j) v → P c (v + tks hs j)) → P c v
theorem Way.fin {hs : HSt} {c : Nat} (hc : c < hall hs) (h : isE hs c = true) : Way hs c 0 := fun _ h1 _ => h1 c hc h
theorem Way.step {hs : HSt} {c j v : Nat} (hc : c < hall hs) (hj : j < hs.2.1.length) (ho : opn hs c j = true) (h : Way hs (aft hs c j) v) : Way hs c (v + tks hs j) := fun P h1 h2 => h2 c j v hc hj ho (h P h1 h2)
def LstR (hs : HSt) (c : Nat) : Option Nat → Prop
  | none => ∀ v, ¬ Way hs c v
  | some v => Way hs c v ∧ ∀ v', Way hs c v' → v ≤ v'
theorem LstR.uniq {hs : HSt} {c : Nat} : ∀ {o o2 : Option Nat}, LstR hs c o → LstR hs c o2 → o = o2
  | none, none, _, _ => rfl
  | none, some v, h1, h2 => absurd h2.1 (h1 v)
  | some v, none, h1, h2 => absurd h1.1 (h2 v)
  | some v, some w, h1, h2 => by have := h1.2 w h2.1; have := h2.2 v h1.1; congr 1; omega
noncomputable def lst (hs : HSt) (c : Nat) : Option Nat := @Classical.epsilon (Option Nat) ⟨none⟩ (LstR hs c)
theorem lst_eq {hs : HSt} {c : Nat} {o : Option Nat} (h : LstR hs c o) : lst hs c = o := LstR.uniq (Classical.epsilon_spec (p := LstR hs c) ⟨o, h⟩) h
abbrev FAR : Nat := 268435456
/-- Dijkstra's invariant: SL is taken, Q is to be taken, of the moves to x those of dn are done -/
def Dij (hs : HSt) (key : Nat → Nat) (Q : Nat → Prop) (SL : List Nat) (x : Nat) (dn : Nat → Nat → Prop) : Prop := (∀ c, c < hall hs → (key c < FAR → Way hs c (key c)) ∧ (isE hs c = true → key c = 0) ∧ (key c < FAR ↔ c ∈ SL ∨ Q c) ∧ key c ≤ FAR ∧ (key c < FAR → key c ≤ 100 * SL.length)) ∧ (∀ c, Q c → c < hall hs ∧ c ∉ SL) ∧ (SL.Nodup ∧ ∀ c ∈ SL, c < hall hs) ∧ (∀ s ∈ SL, ∀ q, Q q → key s ≤ key q) ∧ (∀ y ∈ SL, ∀ b j, b < hall hs → j < hs.2.1.length → opn hs b j = true → aft hs b j = y → (y = x → dn b j) → key b ≤ key y + tks hs j)
theorem Dij.sl {hs : HSt} {key : Nat → Nat} {Q : Nat → Prop} {SL : List Nat} {x : Nat} {dn : Nat → Nat → Prop} (h : Dij hs key Q SL x dn) : SL.length ≤ hall hs := nd_len h.2.2.1.1 h.2.2.1.2
theorem Dij.take {hs : HSt} {key : Nat → Nat} {Q : Nat → Prop} {SL : List Nat} {x0 x : Nat} {dn : Nat → Nat → Prop} (h : Dij hs key Q SL x0 dn) (hd : ∀ b j, b < hall hs → j < hs.2.1.length → opn hs b j = true → aft hs b j = x0 → dn b j) (hx : Q x) (hmin : ∀ q, Q q → key x ≤ key q) : Dij hs key (fun c => Q c ∧ c ≠ x) (SL ++ [x]) x (fun _ _ => False) := by
  obtain ⟨h1, h2, h3, h4, h5⟩ := h
  refine ⟨fun c hc => ?_, fun c hq => ?_, ⟨?_, fun c hc => ?_⟩, fun s hs2 q hq => ?_, fun y hy b j hb hj ho ha hyx => ?_⟩
  · obtain ⟨a1, a2, a3, a4, a5⟩ := h1 c hc
    refine ⟨a1, a2, ?_, a4, fun hk => ?_⟩
    · rw [a3, List.mem_append, List.mem_singleton]
      by_cases e : c = x
      · subst e; simp [hx]
      · simp [e]
    · have := a5 hk; simp; omega
  · refine ⟨(h2 c hq.1).1, fun hm => ?_⟩
    rcases List.mem_append.mp hm with q | q
    · exact (h2 c hq.1).2 q
    · exact hq.2 (List.mem_singleton.mp q)
  · rw [List.nodup_append]
    refine ⟨h3.1, by simp, fun a ha b hb e => ?_⟩
    rw [List.mem_singleton.mp hb] at e
    subst e
    exact (h2 _ hx).2 ha
  · rcases List.mem_append.mp hc with q | q
    · exact h3.2 c q
    · rw [List.mem_singleton.mp q]; exact (h2 x hx).1
  · rcases List.mem_append.mp hs2 with q1 | q1
    · exact h4 s q1 q hq.1
    · rw [List.mem_singleton.mp q1]; exact hmin q hq.1
  · rcases List.mem_append.mp hy with q1 | q1
    · refine h5 y q1 b j hb hj ho ha (fun e => hd b j hb hj ho (by rw [ha, e]))
    · exact absurd (List.mem_singleton.mp q1) (fun e => hyx e)
theorem Dij.keep {hs : HSt} {key : Nat → Nat} {Q : Nat → Prop} {SL : List Nat} {x b0 j0 : Nat} {dn : Nat → Nat → Prop} (h : Dij hs key Q SL x dn) (hle : key b0 ≤ key x + tks hs j0) : Dij hs key Q SL x (fun b j => dn b j ∨ (b = b0 ∧ j = j0)) := by
  obtain ⟨h1, h2, h3, h4, h5⟩ := h
  refine ⟨h1, h2, h3, h4, fun y hy b j hb hj ho ha hyx => ?_⟩
  by_cases e : y = x ∧ (b = b0 ∧ j = j0)
  · obtain ⟨rfl, rfl, rfl⟩ := e; exact hle
  · refine h5 y hy b j hb hj ho ha (fun e2 => ?_)
    rcases hyx e2 with q | q
    · exact q
    · exact absurd ⟨e2, q⟩ e
theorem Dij.less {hs : HSt} {key : Nat → Nat} {Q : Nat → Prop} {SL : List Nat} {x b0 j0 : Nat} {dn : Nat → Nat → Prop} (hv : VH hs) (h : Dij hs key Q SL x dn) (hxm : x ∈ SL) (hxs : ∀ s ∈ SL, key s ≤ key x) (hxk : key x ≤ 100 * (SL.length - 1)) (hb : b0 < hall hs) (hj : j0 < hs.2.1.length) (ho : opn hs b0 j0 = true) (ha : aft hs b0 j0 = x) (hlt : key x + tks hs j0 < key b0) : b0 ∉ SL ∧ key x + tks hs j0 < FAR ∧ Dij hs (updn key b0 (key x + tks hs j0)) (fun c => c = b0 ∨ Q c) SL x (fun b j => dn b j ∨ (b = b0 ∧ j = j0)) := by
  have hsl := h.sl
  obtain ⟨h1, h2, h3, h4, h5⟩ := h
  have hbs : b0 ∉ SL := fun q => by have := hxs b0 q; omega
  have hbx : x ≠ b0 := fun e => hbs (by rw [← e]; exact hxm)
  have hxl := h3.2 x hxm
  have htk : tks hs j0 ≤ 100 := (hv.s hj).2.2.2.2.1
  have hla := hv.2.2.2.2.2.2.2
  have hln : 0 < SL.length := List.length_pos_of_mem hxm
  have hkf : key x + tks hs j0 < FAR := by
    show _ < 268435456
    omega
  have hkx : key x < FAR := by omega
  have hns : ∀ s ∈ SL, updn key b0 (key x + tks hs j0) s = key s := fun s hs2 => un_n (fun e => hbs (by rw [← e]; exact hs2))
  refine ⟨hbs, hkf, fun c hc => ?_, fun c hq => ?_, h3, fun s hs2 q hq => ?_, fun y hy b j hb2 hj2 ho2 ha2 hyx => ?_⟩
  · obtain ⟨a1, a2, a3, a4, a5⟩ := h1 c hc
    by_cases e : c = b0
    · subst e
      rw [un_s]
      refine ⟨fun _ => ?_, fun he => ?_, ⟨fun _ => Or.inr (Or.inl rfl), fun _ => hkf⟩, by omega, fun _ => by omega⟩
      · have := ((h1 x hxl).1 hkx)
        rw [← ha] at this
        rw [← ha]
        exact Way.step hc hj ho this
      · rw [a2 he] at hlt; omega
    · rw [un_n e]
      refine ⟨a1, a2, ?_, a4, a5⟩
      rw [a3]; simp [e]
  · rcases hq with rfl | hq
    · exact ⟨hb, hbs⟩
    · exact h2 c hq
  · rw [hns s hs2]
    by_cases e : q = b0
    · subst e; rw [un_s]; have := hxs s hs2; omega
    · rw [un_n e]
      rcases hq with hq | hq
      · exact absurd hq e
      · exact h4 s hs2 q hq
  · rw [hns y hy]
    by_cases e : y = x ∧ (b = b0 ∧ j = j0)
    · obtain ⟨rfl, rfl, rfl⟩ := e; rw [un_s]; exact Nat.le_refl _
    · have hold : key b ≤ key y + tks hs j := by
        refine h5 y hy b j hb2 hj2 ho2 ha2 (fun e2 => ?_)
        rcases hyx e2 with q | q
        · exact q
        · exact absurd ⟨e2, q⟩ e
      by_cases e2 : b = b0
      · subst e2; rw [un_s]; omega
      · rw [un_n e2]; exact hold
theorem Dij.done {hs : HSt} {key : Nat → Nat} {Q : Nat → Prop} {SL : List Nat} {x0 : Nat} {dn : Nat → Nat → Prop} (hv : VH hs) (h : Dij hs key Q SL x0 dn) (hd : ∀ b j, b < hall hs → j < hs.2.1.length → opn hs b j = true → aft hs b j = x0 → dn b j) (hq : ∀ c, ¬ Q c) (c : Nat) (hc : c < hall hs) : LstR hs c (if key c < FAR then some (key c) else none) := by
  obtain ⟨h1, h2, h3, h4, h5⟩ := h
  have key1 : ∀ v, Way hs c v → key c < FAR ∧ key c ≤ v := by
    intro v hw
    have := hw (fun c v => c < hall hs → key c < FAR ∧ key c ≤ v) (fun c hc he hc2 => by
      have := (h1 c hc).2.1 he
      constructor
      · rw [this]; decide
      · omega) (fun c j v hc2 hj ho ih hc3 => by
      have ih2 := ih (aft_lt hv hc2 hj)
      have hm : aft hs c j ∈ SL := by
        rcases ((h1 _ (aft_lt hv hc2 hj)).2.2.1).mp ih2.1 with q | q
        · exact q
        · exact absurd q (hq _)
      have h6 := h5 _ hm c j hc2 hj ho rfl (fun e => hd c j hc2 hj ho e)
      have htk : tks hs j ≤ 100 := (hv.s hj).2.2.2.2.1
      have h7 := (h1 _ (aft_lt hv hc2 hj)).2.2.2.2 ih2.1
      have h8 : SL.length ≤ hall hs := nd_len h3.1 h3.2
      have hla := hv.2.2.2.2.2.2.2
      constructor
      · show _ < 268435456
        omega
      · omega)
    exact this hc
  by_cases e : key c < FAR
  · rw [if_pos e]
    exact ⟨(h1 c hc).1 e, fun v' hw => (key1 v' hw).2⟩
  · rw [if_neg e]
    exact fun v hw => e (key1 v hw).1
