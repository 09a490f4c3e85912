/-! mixed radix: digits of a code -/
def prd : List Nat → Nat
  | [] => 1
  | k :: t => k * prd t
def dg : List Nat → Nat → Nat → Nat
  | [], _, _ => 0
  | k :: _, c, 0 => c % k
  | k :: t, c, i + 1 => dg t (c / k) i
def sd : List Nat → Nat → Nat → Nat → Nat
  | [], c, _, _ => c
  | k :: _, c, 0, s => c / k * k + s
  | k :: t, c, i + 1, s => c % k + k * sd t (c / k) i s
theorem prd_pos : ∀ {ks : List Nat}, (∀ k ∈ ks, 0 < k) → 0 < prd ks
  | [], _ => Nat.one_pos
  | k :: t, h => Nat.mul_pos (h k List.mem_cons_self) (prd_pos (fun x hx => h x (List.mem_cons_of_mem _ hx)))
theorem prd_app : ∀ (a b : List Nat), prd (a ++ b) = prd a * prd b
  | [], b => by simp [prd]
  | k :: t, b => by simp [prd, prd_app t b, Nat.mul_assoc]
theorem dg_eq : ∀ {ks : List Nat} (c i : Nat) (hi : i < ks.length), dg ks c i = c / prd (ks.take i) % ks[i]
  | [], _, _, hi => absurd hi (Nat.not_lt_zero _)
  | k :: t, c, 0, _ => by simp [dg, prd]
  | k :: t, c, i + 1, hi => by
    have := dg_eq (ks := t) (c / k) i (by simpa using hi)
    simp only [dg, this, List.take_succ_cons, prd, List.getElem_cons_succ]
    rw [Nat.div_div_eq_div_mul]
theorem dg_lt : ∀ {ks : List Nat} (c i : Nat) (hi : i < ks.length), (∀ k ∈ ks, 0 < k) → dg ks c i < ks[i]
  | ks, c, i, hi, h => by rw [dg_eq c i hi]; exact Nat.mod_lt _ (h _ (List.getElem_mem hi))
theorem sd_eq : ∀ {ks : List Nat} (c i s : Nat) (hi : i < ks.length), (sd ks c i s : Int) = (c : Int) + ((s : Int) - (dg ks c i : Int)) * (prd (ks.take i) : Int)
  | [], _, _, _, hi => absurd hi (Nat.not_lt_zero _)
  | k :: t, c, 0, s, _ => by
    have := Nat.div_add_mod c k
    simp only [sd, dg, List.take_zero, prd]
    have e : c / k * k = k * (c / k) := Nat.mul_comm _ _
    omega
  | k :: t, c, i + 1, s, hi => by
    have ih := sd_eq (ks := t) (c / k) i s (by simpa using hi)
    have e := Nat.div_add_mod c k
    simp only [sd, dg, List.take_succ_cons, prd]
    rw [Int.natCast_add, Int.natCast_mul, ih, Int.natCast_mul, Int.mul_add, ← Int.natCast_mul]
    have e2 : (k : Int) * (((s : Int) - (dg t (c / k) i : Int)) * (prd (t.take i) : Int)) = ((s : Int) - (dg t (c / k) i : Int)) * ((k : Int) * (prd (t.take i) : Int)) := by
      rw [← Int.mul_assoc, Int.mul_comm (k : Int), Int.mul_assoc]
    rw [e2]
    omega
theorem sd_lt : ∀ {ks : List Nat} (c i s : Nat) (hi : i < ks.length), (∀ k ∈ ks, 0 < k) → s < ks[i] → c < prd ks → sd ks c i s < prd ks
  | [], _, _, _, hi, _, _, _ => absurd hi (Nat.not_lt_zero _)
  | k :: t, c, 0, s, _, hp, hs, hc => by
    simp only [sd, prd] at *
    have hk : 0 < k := hp k List.mem_cons_self
    have h1 : c / k < prd t := Nat.div_lt_of_lt_mul hc
    have hs : s < k := by simpa using hs
    calc c / k * k + s < c / k * k + k := by omega
      _ = (c / k + 1) * k := by rw [Nat.add_mul, Nat.one_mul]
      _ ≤ prd t * k := Nat.mul_le_mul_right k h1
      _ = k * prd t := Nat.mul_comm _ _
  | k :: t, c, i + 1, s, hi, hp, hs, hc => by
    simp only [sd, prd] at *
    have hk : 0 < k := hp k List.mem_cons_self
    have h1 : c / k < prd t := Nat.div_lt_of_lt_mul hc
    have ih := sd_lt (ks := t) (c / k) i s (by simpa using hi) (fun x hx => hp x (List.mem_cons_of_mem _ hx)) (by simpa using hs) h1
    have h2 := Nat.mod_lt c hk
    calc c % k + k * sd t (c / k) i s < k + k * sd t (c / k) i s := by omega
      _ = k * (sd t (c / k) i s + 1) := by rw [Nat.mul_add, Nat.mul_one, Nat.add_comm]
      _ ≤ k * prd t := Nat.mul_le_mul_left k ih
theorem dg_sd : ∀ {ks : List Nat} (c i s j : Nat) (hi : i < ks.length), (∀ k ∈ ks, 0 < k) → s < ks[i] → dg ks (sd ks c i s) j = if j = i then s else dg ks c j
  | [], _, _, _, _, hi, _, _ => absurd hi (Nat.not_lt_zero _)
  | k :: t, c, 0, s, 0, _, hp, hs => by
    have hs : s < k := by simpa using hs
    simp only [sd, dg]
    rw [if_pos trivial, Nat.mul_comm, Nat.mul_add_mod, Nat.mod_eq_of_lt hs]
  | k :: t, c, 0, s, j + 1, _, hp, hs => by
    have hs : s < k := by simpa using hs
    have hk : 0 < k := hp k List.mem_cons_self
    simp only [sd, dg]
    rw [if_neg (by omega), Nat.mul_comm, Nat.mul_add_div hk, Nat.div_eq_of_lt hs, Nat.add_zero]
  | k :: t, c, i + 1, s, 0, hi, hp, hs => by
    have hk : 0 < k := hp k List.mem_cons_self
    simp only [sd, dg]
    rw [if_neg (by omega), Nat.add_mul_mod_self_left, Nat.mod_mod]
  | k :: t, c, i + 1, s, j + 1, hi, hp, hs => by
    have hk : 0 < k := hp k List.mem_cons_self
    have ih := dg_sd (ks := t) (c / k) i s j (by simpa using hi) (fun x hx => hp x (List.mem_cons_of_mem _ hx)) (by simpa using hs)
    simp only [sd, dg]
    rw [Nat.add_mul_div_left _ _ hk, Nat.div_eq_of_lt (Nat.mod_lt c hk), Nat.zero_add, ih]
    by_cases e : j = i
    · simp [e]
    · rw [if_neg e, if_neg (by omega)]
