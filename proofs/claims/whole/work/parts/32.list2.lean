set_option maxHeartbeats 4000000 in
set_option maxRecDepth 20000 in
theorem c_AL_add2A {G : aG} {nx : Nat} {h : Nat → Option aC} (te : Nat) {t a : Nat} {m : Int32} (hl : h a = some (ob t 12 [.int m, .ref 0, .int 0])) (hd : Dom nx h) {b cb : Nat} {tb : Nat} {fb : List Value} {q : vw_C} (hb : h b = some (tb, .inr (cb, fb))) (hq : cls[cb]? = some q) (hcast : Cond.castable q.1 "java/lang/Object" ∈ nws) : AMet G m_AL_add2 5 1 10 [.ref a, .ref b, .ref 0, .int 0] (nx, h) (R0 (nx + 1, hset (hset h nx (cO te 10 (va_up (fun _ => none) 0 (some b)))) a (ob t 12 [.int m, .ref nx, .int 1]))) := by
  have hne : a ≠ nx := Nat.ne_of_lt (hd a _ hl)
  have hba : b ≠ a := by
    intro e; subst e; rw [hl] at hb; cases hb; revert hcast; cases hq; decide
  refine amet_of pf_AL_add2 (Nat.le_of_ble_eq_true rfl) ?_
  show AW G m_AL_add2 5 1 10 _ 0 [(0, .ref a), (1, .ref b), (2, .ref 0), (3, .int 0)] [] (nx, h) 0 0
  refine aw_iload_n (i := 3) d_AL_add2_0 rfl rfl ?_
  refine aw_aload_n (i := 2) d_AL_add2_1 rfl rfl ?_
  refine aw_alenE d_AL_add2_2 ?_
  refine aw_icmp_ne d_AL_add2_3 (fun br3_ => absurd rfl br3_) (fun br3_ => ?_)
  refine aw_aload_n (i := 0) d_AL_add2_6 rfl rfl ?_
  apply aw_callv_r (c_AL_grow1A te hl hd) d_AL_add2_7 cl_AL_129; assumption; rfl; rfl; rfl; rfl; decide; exact (by decide); exact (by decide); exact Nat.le_of_ble_eq_true rfl
  refine aw_astore_n (i := 2) (lv2 := [(0, _), (1, _), (2, _), (3, _)]) d_AL_add2_10 rfl (by decide) rfl ?_
  refine aw_aload_n (i := 2) d_AL_add2_11 rfl rfl ?_
  refine aw_iload_n (i := 3) d_AL_add2_12 rfl rfl ?_
  refine aw_aload_n (i := 1) d_AL_add2_13 rfl rfl ?_
  refine aw_aastore (t1 := te) (N := 10) (f := fun _ => none) d_AL_add2_14 (hs_ne (Ne.symm hne) (hs_eq _ _ _)) (hs_ne hba (hs_dom hd hb)) hq hcast (vp_in_nI (n := 0) (N := 10) (by decide) (by decide)) ?_
  refine aw_aload_n (i := 0) d_AL_add2_15 rfl rfl ?_
  refine aw_iload_n (i := 3) d_AL_add2_16 rfl rfl ?_
  refine aw_iconst (v := 1) d_AL_add2_17 (by decide) ?_
  refine aw_iadd d_AL_add2_18 ?_
  apply aw_put d_AL_add2_19 pl_AL_48; exact hs_ne hne (hs_eq _ _ _); exact Nat.le_of_ble_eq_true rfl; rfl; rfl
  refine aw_vret d_AL_add2_22 rfl (by decide) (by decide) ?_
  refine ⟨rfl, ?_⟩
  congr 1
  funext j
  simp only [hset]
  by_cases j1 : j = a
  · simp [j1]
  · by_cases j2 : j = nx
    · simp [j2]
    · simp [j1, j2]

set_option maxHeartbeats 4000000 in
set_option maxRecDepth 20000 in
theorem c_AL_add2B {G : aG} {nx : Nat} {h : Nat → Option aC} {t te a e N z : Nat} {m : Int32} {f : Nat → Option Nat} (hl : h a = some (ob t 12 [.int m, .ref e, .int (nI z)])) (he : h e = some (cO te N f)) (hz : z < N) (hN : N ≤ 500) {b cb : Nat} {tb : Nat} {fb : List Value} {q : vw_C} (hb : h b = some (tb, .inr (cb, fb))) (hq : cls[cb]? = some q) (hcast : Cond.castable q.1 "java/lang/Object" ∈ nws) : AMet G m_AL_add2 5 0 0 [.ref a, .ref b, .ref e, .int (nI z)] (nx, h) (R0 (nx, hset (hset h e (cO te N (va_up f z (some b)))) a (ob t 12 [.int m, .ref e, .int (nI (z + 1))]))) := by
  have hae : a ≠ e := by
    intro e9; subst e9; rw [hl] at he; cases he
  refine amet_of pf_AL_add2 (Nat.le_of_ble_eq_true rfl) ?_
  show AW G m_AL_add2 5 0 0 _ 0 [(0, .ref a), (1, .ref b), (2, .ref e), (3, .int (nI z))] [] (nx, h) 0 0
  refine aw_iload_n (i := 3) d_AL_add2_0 rfl rfl ?_
  refine aw_aload_n (i := 2) d_AL_add2_1 rfl rfl ?_
  apply aw_alen d_AL_add2_2; assumption; decide
  refine aw_icmp_ne d_AL_add2_3 (fun br3_ => ?_) (fun br3_ => absurd ((nI_eq (a := z) (b := N) (by omega) (by omega)).mp br3_) (by omega))
  refine aw_aload_n (i := 2) d_AL_add2_11 rfl rfl ?_
  refine aw_iload_n (i := 3) d_AL_add2_12 rfl rfl ?_
  refine aw_aload_n (i := 1) d_AL_add2_13 rfl rfl ?_
  refine aw_aastore (t1 := te) d_AL_add2_14 he hb hq hcast (vp_in_nI hz (by omega)) ?_
  rw [nI_clamp (by omega : z < 2 ^ 31)]
  refine aw_aload_n (i := 0) d_AL_add2_15 rfl rfl ?_
  refine aw_iload_n (i := 3) d_AL_add2_16 rfl rfl ?_
  refine aw_iconst (v := 1) d_AL_add2_17 (by decide) ?_
  refine aw_iadd d_AL_add2_18 ?_
  rw [nI_1]
  apply aw_put d_AL_add2_19 pl_AL_48; exact hs_ne hae hl; exact Nat.le_of_ble_eq_true rfl; rfl; rfl
  refine aw_vret d_AL_add2_22 rfl (Nat.le_refl _) (Nat.le_refl _) ?_
  exact ⟨rfl, rfl⟩

set_option maxHeartbeats 4000000 in
set_option maxRecDepth 20000 in
theorem c_AL_add2C {G : aG} {nx : Nat} {h : Nat → Option aC} (te : Nat) {t t1 a e N : Nat} {m : Int32} {f : Nat → Option Nat} {b cb : Nat} {tb : Nat} {fb : List Value} {q : vw_C} (hb : h b = some (tb, .inr (cb, fb))) (hq : cls[cb]? = some q) (hcast : Cond.castable q.1 "java/lang/Object" ∈ nws) (hd : Dom nx h) (hl : h a = some (ob t 12 [.int m, .ref e, .int (nI N)])) (he : h e = some (cO t1 N f)) (hN0 : 1 ≤ N) (hN : N ≤ 500) (hel : ∀ i : Nat, i < N → ∀ y : Nat, f i = some y → ∃ tt fs, h y = some (tt, .inr (cb, fs))) : AMet G m_AL_add2 5 1 (N + max 1 (N / 2)) [.ref a, .ref b, .ref e, .int (nI N)] (nx, h) (R0 (nx + 1, hset (hset h nx (cO te (N + max 1 (N / 2)) (va_up (va_cpy f (fun _ => none) 0 0 N) N (some b)))) a (ob t 12 [.int m, .ref nx, .int (nI (N + 1))]))) := by
  have hne : a ≠ nx := Nat.ne_of_lt (hd a _ hl)
  have hba : b ≠ a := by
    intro e; subst e; rw [hl] at hb; cases hb; revert hcast; cases hq; decide
  refine amet_of pf_AL_add2 (Nat.le_of_ble_eq_true rfl) ?_
  show AW G m_AL_add2 5 1 (N + max 1 (N / 2)) _ 0 [(0, .ref a), (1, .ref b), (2, .ref e), (3, .int (nI N))] [] (nx, h) 0 0
  refine aw_iload_n (i := 3) d_AL_add2_0 rfl rfl ?_
  refine aw_aload_n (i := 2) d_AL_add2_1 rfl rfl ?_
  apply aw_alen d_AL_add2_2; assumption; decide
  refine aw_icmp_ne d_AL_add2_3 (fun br3_ => absurd rfl br3_) (fun br3_ => ?_)
  refine aw_aload_n (i := 0) d_AL_add2_6 rfl rfl ?_
  apply aw_callv_r (c_AL_grow1B te hd hl he hN0 hN hq hcast hel) d_AL_add2_7 cl_AL_129; assumption; rfl; rfl; rfl; rfl; decide; exact (by omega); exact (by omega); exact Nat.le_of_ble_eq_true rfl
  refine aw_astore_n (i := 2) (lv2 := [(0, _), (1, _), (2, _), (3, _)]) d_AL_add2_10 rfl (by decide) rfl ?_
  refine aw_aload_n (i := 2) d_AL_add2_11 rfl rfl ?_
  refine aw_iload_n (i := 3) d_AL_add2_12 rfl rfl ?_
  refine aw_aload_n (i := 1) d_AL_add2_13 rfl rfl ?_
  refine aw_aastore (t1 := te) d_AL_add2_14 (hs_ne (Ne.symm hne) (hs_eq _ _ _)) (hs_ne hba (hs_dom hd hb)) hq hcast (vp_in_nI (by omega) (by omega)) ?_
  rw [nI_clamp (by omega : N < 2 ^ 31)]
  refine aw_aload_n (i := 0) d_AL_add2_15 rfl rfl ?_
  refine aw_iload_n (i := 3) d_AL_add2_16 rfl rfl ?_
  refine aw_iconst (v := 1) d_AL_add2_17 (by decide) ?_
  refine aw_iadd d_AL_add2_18 ?_
  rw [nI_1]
  apply aw_put d_AL_add2_19 pl_AL_48; exact hs_ne hne (hs_eq _ _ _); exact Nat.le_of_ble_eq_true rfl; rfl; rfl
  refine aw_vret d_AL_add2_22 rfl (by omega) (by omega) ?_
  refine ⟨rfl, ?_⟩
  congr 1
  funext j
  simp only [hset]
  by_cases j1 : j = a
  · simp [j1]
  · by_cases j2 : j = nx
    · simp [j2]
    · simp [j1, j2]

/-- a list of objects: its cell, its row -/
def Lsx (t te : Nat) (h : Nat → Option aC) (a : Nat) (xs : List Nat) : Prop := ∃ (m : Int32) (e : Nat), h a = some (ob t 12 [.int m, .ref e, .int (nI xs.length)]) ∧ ((e = 0 ∧ xs = []) ∨ ∃ (N : Nat) (f : Nat → Option Nat), h e = some (cO te N f) ∧ xs.length ≤ N ∧ 1 ≤ N ∧ N ≤ 100 ∧ ∀ (j : Nat) (hj : j < xs.length), f j = some xs[j])
theorem Lsx.fr {t te : Nat} {h h2 : Nat → Option aC} {a : Nat} {xs : List Nat} {T : List Nat} (hl : Lsx t te h a xs) (hf : Fr T h h2) (h1 : t ∉ T) (h3 : te ∉ T) : Lsx t te h2 a xs := by
  obtain ⟨m, e, g1, g2⟩ := hl
  refine ⟨m, e, hf _ _ g1 h1, ?_⟩
  rcases g2 with g2 | ⟨N, f, k1, k2⟩
  · exact Or.inl g2
  · exact Or.inr ⟨N, f, hf _ _ k1 h3, k2⟩
theorem l_size {G : aG} {nx : Nat} {h : Nat → Option aC} {t te a : Nat} {xs : List Nat} (hl : Lsx t te h a xs) : AMet G m_AL_size 0 0 0 [.ref a] (nx, h) (RV (.int (nI xs.length)) (nx, h)) := by
  obtain ⟨m, e, g1, -⟩ := hl
  exact c_AL_size g1
theorem Lsx.ob {t te : Nat} {h : Nat → Option aC} {a : Nat} {xs : List Nat} (hl : Lsx t te h a xs) : ∃ fs, h a = some (t, .inr (12, fs)) := by
  obtain ⟨m, e, g1, -⟩ := hl
  exact ⟨_, g1⟩
theorem l_get {G : aG} {nx : Nat} {h : Nat → Option aC} {t te a : Nat} {xs : List Nat} (hl : Lsx t te h a xs) (j : Nat) (hj : j < xs.length) : AMet G m_AL_get 2 0 0 [.ref a, .int (nI j)] (nx, h) (RV (.ref xs[j]) (nx, h)) := by
  obtain ⟨m, e, g1, g2⟩ := hl
  rcases g2 with ⟨-, e0⟩ | ⟨N, f, k1, k2, k3, k4, k5⟩
  · subst e0; simp at hj
  · have := c_AL_get (G := G) (nx := nx) g1 k1 (nI j) (vp_in_nI (by omega) (by omega)) (nI_pos (by omega)) ((nI_ltI (by omega) (by omega)).mpr hj)
    rw [nI_clamp (by omega : j < 2 ^ 31), k5 j hj] at this
    exact this
set_option maxHeartbeats 4000000 in
set_option maxRecDepth 20000 in
theorem c_AL_add1 {G : aG} {nx : Nat} {h : Nat → Option aC} (te : Nat) {t a : Nat} {xs : List Nat} (hl : Lsx t te h a xs) (hlen : xs.length < 40) (hd : Dom nx h) (hte : t ≠ te) {b cb : Nat} {tb : Nat} {fb : List Value} {q : vw_C} (hb : h b = some (tb, .inr (cb, fb))) (hq : cls[cb]? = some q) (hcast : Cond.castable q.1 "java/lang/Object" ∈ nws) (hel : ∀ y ∈ xs, ∃ tt fs, h y = some (tt, .inr (cb, fs))) : AMet G m_AL_add1 6 1 60 [.ref a, .ref b] (nx, h) (fun r w => r = some (.int 1) ∧ ∃ n2 h2, w = (n2, h2) ∧ n2 ≤ nx + 1 ∧ Dom n2 h2 ∧ Lsx t te h2 a (xs ++ [b]) ∧ Fr [t, te] h h2 ∧ nx ≤ n2) := by
  obtain ⟨m, e, g1, g2⟩ := hl
  have hba : b ≠ a := by
    intro e; subst e; rw [g1] at hb; cases hb; revert hcast; cases hq; decide
  refine amet_of pf_AL_add1 (Nat.le_of_ble_eq_true rfl) ?_
  show AW G m_AL_add1 6 1 60 _ 0 [(0, .ref a), (1, .ref b)] [] (nx, h) 0 0
  refine aw_aload_n (i := 0) d_AL_add1_0 rfl rfl ?_
  refine aw_dup d_AL_add1_1 rfl ?_
  apply aw_get d_AL_add1_2 fl_AL_63; assumption; rfl
  refine aw_iconst (v := 1) d_AL_add1_5 (by decide) ?_
  refine aw_iadd d_AL_add1_6 ?_
  apply aw_put d_AL_add1_7 pl_AL_63; assumption; exact Nat.le_of_ble_eq_true rfl; rfl; rfl
  rcases g2 with ⟨rfl, rfl⟩ | ⟨N, f, k1, k2, k3, k4, k5⟩
  · refine aw_aload_n (i := 0) d_AL_add1_10 rfl rfl ?_
    refine aw_aload_n (i := 1) d_AL_add1_11 rfl rfl ?_
    refine aw_aload_n (i := 0) d_AL_add1_12 rfl rfl ?_
    refine aw_get d_AL_add1_13 fl_AL_9 (hs_eq _ _ _) rfl ?_
    refine aw_aload_n (i := 0) d_AL_add1_16 rfl rfl ?_
    refine aw_get d_AL_add1_17 fl_AL_48 (hs_eq _ _ _) rfl ?_
    refine aw_callv_m (c_AL_add2A te (m := m + 1) (hs_eq _ _ _) (hd.set g1) (hs_ne hba hb) hq hcast) d_AL_add1_20 cl_AL_131 (hs_eq _ _ _) rfl rfl rfl rfl (by decide) (by decide) (by decide) (Nat.le_of_ble_eq_true rfl) ?_
    refine aw_iconst (v := 1) d_AL_add1_23 (by decide) ?_
    refine aw_zret d_AL_add1_24 rfl rfl (by decide) (by decide) ?_
    have hne : a ≠ nx := Nat.ne_of_lt (hd a _ g1)
    refine ⟨rfl, _, _, rfl, Nat.le_refl _, (hd.set g1).new.set (hs_ne hne (hs_eq _ _ _)), ⟨m + 1, nx, hs_eq _ _ _, Or.inr ⟨10, _, hs_ne (Ne.symm hne) (hs_eq _ _ _), by simp, by decide, by decide, fun j hj => ?_⟩⟩, ?_, Nat.le_succ _⟩
    · have e0 : j = 0 := by simpa using hj
      subst e0
      simp [va_up]
    · exact ((Fr.set g1 (by simp)).tr (Fr.new (hd.set g1))).tr (Fr.set (c0 := ob t 12 [.int (m + 1), .ref 0, .int 0]) (hs_ne hne (hs_eq _ _ _)) (by simp))
  · have hae : a ≠ e := by
      intro e9; subst e9; rw [g1] at k1; cases k1
    have hek := hs_ne (h := h) (a := a) (b := e) (c := ob t 12 [.int (m + 1), .ref e, .int (nI xs.length)]) (Ne.symm hae) k1
    refine aw_aload_n (i := 0) d_AL_add1_10 rfl rfl ?_
    refine aw_aload_n (i := 1) d_AL_add1_11 rfl rfl ?_
    refine aw_aload_n (i := 0) d_AL_add1_12 rfl rfl ?_
    refine aw_get d_AL_add1_13 fl_AL_9 (hs_eq _ _ _) rfl ?_
    refine aw_aload_n (i := 0) d_AL_add1_16 rfl rfl ?_
    refine aw_get d_AL_add1_17 fl_AL_48 (hs_eq _ _ _) rfl ?_
    by_cases hz : xs.length < N
    · refine aw_callv_m (c_AL_add2B (m := m + 1) (hs_eq _ _ _) hek hz (by omega) (hs_ne hba hb) hq hcast) d_AL_add1_20 cl_AL_131 (hs_eq _ _ _) rfl rfl rfl rfl (by decide) (by decide) (by decide) (Nat.le_of_ble_eq_true rfl) ?_
      refine aw_iconst (v := 1) d_AL_add1_23 (by decide) ?_
      refine aw_zret d_AL_add1_24 rfl rfl (by decide) (by decide) ?_
      refine ⟨rfl, _, _, rfl, Nat.le_succ _, ((hd.set g1).set hek).set (hs_ne hae (hs_eq _ _ _)), ⟨m + 1, e, by rw [List.length_append]; exact hs_eq _ _ _, Or.inr ⟨N, _, hs_ne (Ne.symm hae) (hs_eq _ _ _), by simp; omega, k3, k4, fun j hj => ?_⟩⟩, ?_, Nat.le_refl _⟩
      · by_cases q1 : j < xs.length
        · rw [List.getElem_append_left q1]
          simp [va_up, Nat.ne_of_lt q1, k5 j q1]
        · have e1 : j = xs.length := by simp at hj; omega
          subst e1
          simp [va_up]
      · exact ((Fr.set g1 (by simp)).tr (Fr.set hek (by simp))).tr (Fr.set (c0 := ob t 12 [.int (m + 1), .ref e, .int (nI xs.length)]) (hs_ne hae (hs_eq _ _ _)) (by simp))
    · have eN : xs.length = N := by omega
      have hne : a ≠ nx := Nat.ne_of_lt (hd a _ g1)
      have hN2 : N + max 1 (N / 2) ≤ 60 := by omega
      refine aw_callv_m (c_AL_add2C te (m := m + 1) (hs_ne hba hb) hq hcast (hd.set g1) (by rw [← eN]; exact hs_eq _ _ _) hek k3 (by omega) (fun i hi y hy => ?_)) d_AL_add1_20 cl_AL_131 (hs_eq _ _ _) rfl rfl (by rw [eN]; rfl) rfl (by decide) (by decide) (by omega) (Nat.le_of_ble_eq_true rfl) ?_
      · have e2 := k5 i (by omega)
        rw [hy] at e2
        obtain ⟨tt, fs, g9⟩ := hel y (by rw [Option.some.inj e2]; exact List.getElem_mem _)
        refine ⟨tt, fs, hs_ne (fun e9 => ?_) g9⟩
        subst e9
        rw [g1] at g9
        cases g9
        revert hcast; cases hq; decide
      refine aw_iconst (v := 1) d_AL_add1_23 (by decide) ?_
      refine aw_zret d_AL_add1_24 rfl rfl (by decide) (by omega) ?_
      refine ⟨rfl, _, _, rfl, Nat.le_refl _, (hd.set g1).new.set (hs_ne hne (hs_eq _ _ _)), ⟨m + 1, nx, by rw [List.length_append, eN]; exact hs_eq _ _ _, Or.inr ⟨_, _, hs_ne (Ne.symm hne) (hs_eq _ _ _), by simp; omega, by omega, by omega, fun j hj => ?_⟩⟩, ?_, Nat.le_succ _⟩
      · by_cases q1 : j < xs.length
        · rw [List.getElem_append_left q1]
          have q2 : j ≠ N := by omega
          simp only [va_up, q2, if_false]
          rw [pk_cpy_in (by omega) (by omega)]
          simpa using k5 j q1
        · have e1 : j = N := by simp at hj; omega
          subst e1
          simp [va_up, eN]
      · exact ((Fr.set g1 (by simp)).tr (Fr.new (hd.set g1))).tr (Fr.set (c0 := ob t 12 [.int (m + 1), .ref e, .int (nI xs.length)]) (hs_ne hne (hs_eq _ _ _)) (by simp))
