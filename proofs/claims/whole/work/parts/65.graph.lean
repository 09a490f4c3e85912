/-! codes: the low part (the props' digits) and the high part (the steps' bits) -/
theorem prd_rep2 (n : Nat) : prd (List.replicate n 2) = 2 ^ n := by
  induction n with
  | zero => rfl
  | succ n ih => rw [List.replicate_succ]; show 2 * prd (List.replicate n 2) = _; rw [ih, Nat.pow_succ, Nat.mul_comm]
theorem sd_hi : ∀ {ks : List Nat} (c i s : Nat) (hi : i < ks.length), (∀ k ∈ ks, 0 < k) → s < ks[i] → sd ks c i s / prd ks = c / prd ks
  | [], _, _, _, hi, _, _ => absurd hi (Nat.not_lt_zero _)
  | k :: t, c, 0, s, _, hp, hs => by
    have hs : s < k := by simpa using hs
    have hk : 0 < k := hp k List.mem_cons_self
    simp only [sd, prd]
    rw [← Nat.div_div_eq_div_mul, ← Nat.div_div_eq_div_mul, Nat.mul_comm, Nat.mul_add_div hk, Nat.div_eq_of_lt hs, Nat.add_zero]
  | k :: t, c, i + 1, s, hi, hp, hs => by
    have hk : 0 < k := hp k List.mem_cons_self
    have ih := sd_hi (ks := t) (c / k) i s (by simpa using hi) (fun x hx => hp x (List.mem_cons_of_mem _ hx)) (by simpa using hs)
    simp only [sd, prd]
    rw [← Nat.div_div_eq_div_mul, ← Nat.div_div_eq_div_mul, Nat.add_mul_div_left _ _ hk, Nat.div_eq_of_lt (Nat.mod_lt c hk), Nat.zero_add, ih]
theorem sds_hi {ps : List PSt} (hv : VP ps) : ∀ (prs : Prs) (c : Nat), VPr ps prs → sds (pks ps) c prs / prd (pks ps) = c / prd (pks ps)
  | [], _, _ => rfl
  | q :: t, c, hr => by
    have h1 := hr q List.mem_cons_self
    simp only [sds]
    rw [sds_hi hv t _ (fun x hx => hr x (List.mem_cons_of_mem _ hx)), sd_hi c q.1 q.2 (by rw [pk_len]; exact h1.1) hv.pos (by rw [pk_at h1.1]; exact h1.2)]
theorem swt_eq {hs : HSt} {j : Nat} (h : 2 ≤ (hs.2.1.getD j sz0).1) : swt hs.1 hs.2.1 j = prd (pks hs.1) * 2 ^ ocn (hs.2.1.take j) := by
  unfold swt; rw [if_pos h, prd_app]; unfold htl; rw [prd_rep2]
theorem hall_eq (hs : HSt) : hall hs = prd (pks hs.1) * 2 ^ ocn hs.2.1 := by
  unfold hall; rw [prd_app]; unfold htl; rw [prd_rep2]
theorem ocn_lt {ss : List SSt} {j : Nat} (hj : j < ss.length) (h : 2 ≤ (ss.getD j sz0).1) : ocn (ss.take j) + 1 ≤ ocn ss := by
  have h1 := ocn_s hj
  rw [if_pos h] at h1
  have := ocn_take ss (j + 1)
  omega
theorem even_room {u m n : Nat} (h : u < 2 ^ n) (hm : 0 < n) (hu : u % 2 = 0) : u + 2 ≤ 2 ^ n := by
  obtain ⟨k, rfl⟩ : ∃ k, n = k + 1 := ⟨n - 1, by omega⟩
  rw [Nat.pow_succ] at h ⊢
  omega
theorem aft_lt {hs : HSt} (hv : VH hs) {c j : Nat} (hc : c < hall hs) (hj : j < hs.2.1.length) : aft hs c j < hall hs := by
  have hvs := hv.s hj
  have hg := hvs.2.2.2.2.2.2.2.2.2.1
  have h1 : sds (pks hs.1) c (hs.2.1.getD j sz0).2.2.2.2.2 < hall hs := sds_bd hv.vt hv.1 _ hg hc
  unfold aft
  by_cases hd : wdj hs c j = true
  · rw [if_pos hd]; exact h1
  · rw [if_neg hd]
    by_cases hk : 2 ≤ (hs.2.1.getD j sz0).1
    · have hw := swt_eq (hs := hs) hk
      have hK : 0 < prd (pks hs.1) := prd_pos hv.1.pos
      have hwp : 0 < swt hs.1 hs.2.1 j := by rw [hw]; exact Nat.mul_pos hK (Nat.two_pow_pos _)
      have hd2 : c / swt hs.1 hs.2.1 j % 2 = 0 := by
        have : ¬ (decide (0 < swt hs.1 hs.2.1 j) && decide (c / swt hs.1 hs.2.1 j % 2 = 1)) = true := hd
        rw [decide_eq_true hwp] at this
        simp at this
        omega
      have e1 : sds (pks hs.1) c (hs.2.1.getD j sz0).2.2.2.2.2 / swt hs.1 hs.2.1 j = c / swt hs.1 hs.2.1 j := by
        rw [hw, ← Nat.div_div_eq_div_mul, ← Nat.div_div_eq_div_mul, sds_hi hv.1 _ _ hg]
      have ho := ocn_lt hj hk
      have e2 : hall hs = swt hs.1 hs.2.1 j * 2 ^ (ocn hs.2.1 - ocn (hs.2.1.take j)) := by
        rw [hall_eq, hw, Nat.mul_assoc, ← Nat.pow_add]; congr 2; omega
      have h3 : sds (pks hs.1) c (hs.2.1.getD j sz0).2.2.2.2.2 / swt hs.1 hs.2.1 j < 2 ^ (ocn hs.2.1 - ocn (hs.2.1.take j)) := Nat.div_lt_of_lt_mul (by rw [← e2]; exact h1)
      have h4 := even_room (m := 0) h3 (by omega) (by rw [e1]; exact hd2)
      have h5 := Nat.lt_mul_div_succ (sds (pks hs.1) c (hs.2.1.getD j sz0).2.2.2.2.2) hwp
      rw [e2]
      calc _ < swt hs.1 hs.2.1 j * (sds (pks hs.1) c (hs.2.1.getD j sz0).2.2.2.2.2 / swt hs.1 hs.2.1 j + 1) + swt hs.1 hs.2.1 j := by omega
        _ = swt hs.1 hs.2.1 j * (sds (pks hs.1) c (hs.2.1.getD j sz0).2.2.2.2.2 / swt hs.1 hs.2.1 j + 2) := by rw [← Nat.mul_succ]
        _ ≤ _ := Nat.mul_le_mul_left _ h4
    · have : swt hs.1 hs.2.1 j = 0 := by unfold swt; rw [if_neg hk]
      rw [this]; exact h1
/-! what is reached past all that is shunned -/
def Rch (hs : HSt) (sh : Nat → Bool) (c : Nat) : Prop := ∀ P : Nat → Prop, (sh (hsta hs) = false → P (hsta hs)) → (∀ c j, P c → j < hs.2.1.length → opn hs c j = true → sh (aft hs c j) = false → P (aft hs c j)) → P c
theorem Rch.start {hs : HSt} {sh : Nat → Bool} (h : sh (hsta hs) = false) : Rch hs sh (hsta hs) := fun _ h1 _ => h1 h
theorem Rch.step {hs : HSt} {sh : Nat → Bool} {c j : Nat} (h : Rch hs sh c) (hj : j < hs.2.1.length) (ho : opn hs c j = true) (hs2 : sh (aft hs c j) = false) : Rch hs sh (aft hs c j) := fun P h1 h2 => h2 c j (h P h1 h2) hj ho hs2
theorem Rch.lt {hs : HSt} {sh : Nat → Bool} {c : Nat} (hv : VH hs) (h : Rch hs sh c) : c < hall hs := h (fun c => c < hall hs) (fun _ => hsta_lt hv) (fun _ _ hc hj _ _ => aft_lt hv hc hj)
def Bfs (hs : HSt) (sh : Nat → Bool) (L : List Nat) (i j : Nat) : Prop := L.Nodup ∧ (∀ c ∈ L, Rch hs sh c) ∧ (sh (hsta hs) = false → hsta hs ∈ L) ∧ ∀ k j', (k < i ∨ (k = i ∧ j' < j)) → k < L.length → j' < hs.2.1.length → opn hs (L.getD k 0) j' = true → sh (aft hs (L.getD k 0) j') = false → aft hs (L.getD k 0) j' ∈ L
theorem Bfs.init {hs : HSt} {sh : Nat → Bool} (h : sh (hsta hs) = false) : Bfs hs sh [hsta hs] 0 0 := ⟨by simp, fun c hc => by rw [List.mem_singleton.mp hc]; exact Rch.start h, fun _ => by simp, fun k j' hk => by omega⟩
theorem Bfs.init0 {hs : HSt} {sh : Nat → Bool} (h : sh (hsta hs) = true) : Bfs hs sh [] 0 0 := ⟨by simp, fun c hc => absurd hc List.not_mem_nil, fun q => (by rw [h] at q; cases q), fun k j' hk => by omega⟩
theorem Bfs.skip {hs : HSt} {sh : Nat → Bool} {L : List Nat} {i j : Nat} (h : Bfs hs sh L i j) (hn : opn hs (L.getD i 0) j = true → sh (aft hs (L.getD i 0) j) = false → aft hs (L.getD i 0) j ∈ L) : Bfs hs sh L i (j + 1) := by
  refine ⟨h.1, h.2.1, h.2.2.1, fun k j' hk hl hj ho hs2 => ?_⟩
  by_cases e : k = i ∧ j' = j
  · obtain ⟨rfl, rfl⟩ := e; exact hn ho hs2
  · exact h.2.2.2 k j' (by omega) hl hj ho hs2
theorem Bfs.join {hs : HSt} {sh : Nat → Bool} {L : List Nat} {i j : Nat} (h : Bfs hs sh L i j) (hi : i < L.length) (hj : j < hs.2.1.length) (ho : opn hs (L.getD i 0) j = true) (hs2 : sh (aft hs (L.getD i 0) j) = false) (hn : aft hs (L.getD i 0) j ∉ L) : Bfs hs sh (L ++ [aft hs (L.getD i 0) j]) i (j + 1) := by
  have hm : L.getD i 0 ∈ L := by rw [gDx hi]; exact List.getElem_mem hi
  refine ⟨?_, ?_, ?_, fun k j' hk hl hj' ho' hs2' => ?_⟩
  · rw [List.nodup_append]
    refine ⟨h.1, by simp, fun a ha b hb => ?_⟩
    rw [List.mem_singleton.mp hb]
    intro e; rw [e] at ha; exact hn ha
  · intro c hc
    rcases List.mem_append.mp hc with q | q
    · exact h.2.1 c q
    · rw [List.mem_singleton.mp q]; exact (h.2.1 _ hm).step hj ho hs2
  · intro q; exact List.mem_append_left _ (h.2.2.1 q)
  · have hk2 : k < L.length := by omega
    have e : (L ++ [aft hs (L.getD i 0) j]).getD k 0 = L.getD k 0 := by
      simp [List.getD_eq_getElem?_getD, List.getElem?_append_left hk2]
    rw [e] at ho' hs2' ⊢
    by_cases e : k = i ∧ j' = j
    · obtain ⟨rfl, rfl⟩ := e; simp
    · exact List.mem_append_left _ (h.2.2.2 k j' (by omega) hk2 hj' ho' hs2')
theorem Bfs.next {hs : HSt} {sh : Nat → Bool} {L : List Nat} {i j : Nat} (h : Bfs hs sh L i j) (hj : hs.2.1.length ≤ j) : Bfs hs sh L (i + 1) 0 := ⟨h.1, h.2.1, h.2.2.1, fun k j' hk hl hj' => h.2.2.2 k j' (by omega) hl hj'⟩
theorem Bfs.done {hs : HSt} {sh : Nat → Bool} {L : List Nat} {i : Nat} (h : Bfs hs sh L i 0) (hi : L.length ≤ i) (c : Nat) : c ∈ L ↔ Rch hs sh c := by
  refine ⟨h.2.1 c, fun hr => hr (fun c => c ∈ L) h.2.2.1 ?_⟩
  intro c j hc hj ho hs2
  obtain ⟨k, hk, rfl⟩ := List.getElem_of_mem hc
  have e : L[k] = L.getD k 0 := (gDx hk).symm
  rw [e] at ho hs2 ⊢
  exact h.2.2.2 k j (by omega) hk hj ho hs2
theorem nd_len {L : List Nat} {n : Nat} (hn : L.Nodup) (hl : ∀ c ∈ L, c < n) : L.length ≤ n := by
  have := List.Nodup.length_le_of_subset hn (l₂ := List.range n) (fun c hc => List.mem_range.mpr (hl c hc))
  simpa using this
theorem Bfs.len {hs : HSt} {sh : Nat → Bool} {L : List Nat} {i j : Nat} (h : Bfs hs sh L i j) (hv : VH hs) : L.length ≤ hall hs := nd_len h.1 (fun c hc => (h.2.1 c hc).lt hv)
theorem Bfs.at {hs : HSt} {sh : Nat → Bool} {L : List Nat} {i j k : Nat} (h : Bfs hs sh L i j) (hv : VH hs) (hk : k < L.length) : L.getD k 0 < hall hs := (h.2.1 _ (by rw [gDx hk]; exact List.getElem_mem hk)).lt hv
