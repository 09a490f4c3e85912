/-! the ROW -/
def RoA (h : Nat → Option aC) (a cap : Nat) (xs : List Int32) : Prop := ∃ (na : Nat) (f : Nat → Int32), h a = some (ob 11 7 [.ref na, .int (nI xs.length)]) ∧ h na = some (cI 12 cap f) ∧ xs.length ≤ cap ∧ cap ≤ 20000 ∧ ∀ (j : Nat) (hj : j < xs.length), f j = xs[j]
theorem RoA.fr {h h2 : Nat → Option aC} {a cap : Nat} {xs : List Int32} {T : List Nat} (hl : RoA h a cap xs) (hf : Fr T h h2) (h1 : 11 ∉ T) (h3 : 12 ∉ T) : RoA h2 a cap xs := by
  obtain ⟨na, f, q1, q2, q4⟩ := hl
  exact ⟨na, f, hf _ _ q1 h1, hf _ _ q2 h3, q4⟩
set_option maxHeartbeats 4000000 in
set_option maxRecDepth 20000 in
theorem c_Row_put {G : aG} {nx : Nat} {h : Nat → Option aC} {a cap : Nat} {xs : List Int32} (hl : RoA h a cap xs) (x : Int32) (hx : xs.length < cap) : AMet G m_Row_put 0 0 0 [.ref a, .int x] (nx, h) (fun r w => r = none ∧ ∃ h2, w = (nx, h2) ∧ RoA h2 a cap (xs ++ [x]) ∧ Fr [11, 12] h h2) := by
  obtain ⟨na, f, q1, q2, q3, q4, q5⟩ := hl
  refine amet_of pf_Row_put (Nat.le_of_ble_eq_true rfl) ?_
  show AW G m_Row_put 0 0 0 _ 0 [(0, .ref a), (1, .int x)] [] (nx, h) 0 0
  refine aw_aload_n (i := 0) d_Row_put_0 rfl rfl ?_
  apply aw_get d_Row_put_1 fl_Row_15; assumption; rfl
  refine aw_aload_n (i := 0) d_Row_put_4 rfl rfl ?_
  apply aw_get d_Row_put_5 fl_Row_9; assumption; rfl
  apply aw_alen d_Row_put_8; assumption; decide
  refine aw_icmp_ge d_Row_put_9 (fun br9_ => absurd br9_ (nI_ge hx (by omega))) (fun br9_ => ?_)
  refine aw_aload_n (i := 0) d_Row_put_12 rfl rfl ?_
  apply aw_get d_Row_put_13 fl_Row_9; assumption; rfl
  refine aw_aload_n (i := 0) d_Row_put_16 rfl rfl ?_
  apply aw_get d_Row_put_17 fl_Row_15; assumption; rfl
  refine aw_iload_n (i := 1) d_Row_put_20 rfl rfl ?_
  apply aw_iastore d_Row_put_21; assumption; exact vp_in_nI hx (by omega)
  refine aw_nm q2 ?_
  intro h1 e1_ f1_ o1_
  have q1_ := f1_ _ _ q1 (by simp)
  refine aw_aload_n (i := 0) d_Row_put_22 rfl rfl ?_
  refine aw_dup d_Row_put_23 rfl ?_
  apply aw_get d_Row_put_24 fl_Row_15; exact q1_; rfl
  refine aw_iconst (v := 1) d_Row_put_27 (by decide) ?_
  refine aw_iadd d_Row_put_28 ?_
  rw [nI_1]
  apply aw_put d_Row_put_29 pl_Row_15; exact q1_; exact Nat.le_of_ble_eq_true rfl; rfl; rfl
  refine aw_vret d_Row_put_32 rfl (Nat.le_refl _) (Nat.le_refl _) ?_
  refine ⟨rfl, _, rfl, ⟨na, _, by rw [List.length_append]; exact hs_eq _ _ _, hs_tag e1_ q1_ (by simp), by simp; omega, q4, fun j hj => ?_⟩, (f1_.up (by simp)).tr (Fr.set q1_ (by simp))⟩
  rw [nI_clamp (by omega : xs.length < 2 ^ 31)]
  by_cases e9 : j < xs.length
  · rw [List.getElem_append_left e9]; simp only [upd]; rw [if_neg (by omega)]; exact q5 j e9
  · have e8 : j = xs.length := by simp at hj; omega
    subst e8
    simp [upd]

set_option maxHeartbeats 4000000 in
set_option maxRecDepth 20000 in
theorem c_Row_beginA {G : aG} {nx : Nat} {h : Nat → Option aC} {a cap : Nat} {xs : List Int32} (hl : RoA h a cap xs) {m : Nat} (hm : m ≤ cap) : AMet G m_Row_begin 0 0 0 [.ref a, .int (nI m)] (nx, h) (fun r w => r = none ∧ ∃ h2, w = (nx, h2) ∧ RoA h2 a cap [] ∧ Fr [11, 12] h h2) := by
  obtain ⟨na, f, q1, q2, q3, q4, q5⟩ := hl
  refine amet_of pf_Row_begin (Nat.le_of_ble_eq_true rfl) ?_
  show AW G m_Row_begin 0 0 0 _ 0 [(0, .ref a), (1, .int (nI m))] [] (nx, h) 0 0
  refine aw_aload_n (i := 0) d_Row_begin_0 rfl rfl ?_
  refine aw_iconst (v := 0) d_Row_begin_1 (by decide) ?_
  apply aw_put d_Row_begin_2 pl_Row_15; assumption; exact Nat.le_of_ble_eq_true rfl; rfl; rfl
  refine aw_nm q1 ?_
  intro h1 e1_ f1_ o1_
  have q2_ := f1_ _ _ q2 (by simp)
  refine aw_aload_n (i := 0) d_Row_begin_5 rfl rfl ?_
  apply aw_get d_Row_begin_6 fl_Row_9; exact e1_; rfl
  apply aw_alen d_Row_begin_9; exact q2_; decide
  refine aw_iload_n (i := 1) d_Row_begin_10 rfl rfl ?_
  refine aw_icmp_ge d_Row_begin_11 (fun br11_ => ?_) (fun br11_ => absurd ((nI_leI (by omega) (by omega)).mpr hm) br11_)
  refine aw_vret d_Row_begin_23 rfl (Nat.le_refl _) (Nat.le_refl _) ?_
  exact ⟨rfl, _, rfl, ⟨na, f, e1_, q2_, Nat.zero_le _, q4, fun j hj => absurd hj (Nat.not_lt_zero _)⟩, f1_.up (by simp)⟩

set_option maxHeartbeats 4000000 in
set_option maxRecDepth 20000 in
theorem c_Row_beginB {G : aG} {nx : Nat} {h : Nat → Option aC} {a cap : Nat} {xs : List Int32} (hl : RoA h a cap xs) (hd : Dom nx h) {m : Nat} (hm : cap < m) (hm2 : m ≤ 20000) : AMet G m_Row_begin 0 1 20000 [.ref a, .int (nI m)] (nx, h) (fun r w => r = none ∧ ∃ h2, w = (nx + 1, h2) ∧ RoA h2 a 20000 [] ∧ Fr [11, 12] h h2) := by
  obtain ⟨na, f, q1, q2, q3, q4, q5⟩ := hl
  refine amet_of pf_Row_begin (Nat.le_of_ble_eq_true rfl) ?_
  show AW G m_Row_begin 0 1 20000 _ 0 [(0, .ref a), (1, .int (nI m))] [] (nx, h) 0 0
  refine aw_aload_n (i := 0) d_Row_begin_0 rfl rfl ?_
  refine aw_iconst (v := 0) d_Row_begin_1 (by decide) ?_
  apply aw_put d_Row_begin_2 pl_Row_15; assumption; exact Nat.le_of_ble_eq_true rfl; rfl; rfl
  have hd1_ := hd.set (c := ob 11 7 [.ref na, .int 0]) q1
  refine aw_nm q1 ?_
  intro h1 e1_ f1_ o1_
  have q2_ := f1_ _ _ q2 (by simp)
  have hd2_ : Dom nx h1 := fun q c hq => by
    by_cases e9 : q = a
    · rw [e9]; exact hd a _ q1
    · rw [o1_ q e9] at hq; exact hd q c hq
  refine aw_aload_n (i := 0) d_Row_begin_5 rfl rfl ?_
  apply aw_get d_Row_begin_6 fl_Row_9; exact e1_; rfl
  apply aw_alen d_Row_begin_9; exact q2_; decide
  refine aw_iload_n (i := 1) d_Row_begin_10 rfl rfl ?_
  refine aw_icmp_ge d_Row_begin_11 (fun br11_ => absurd br11_ (nI_ge hm (by omega))) (fun br11_ => ?_)
  refine aw_aload_n (i := 0) d_Row_begin_14 rfl rfl ?_
  refine aw_sipush (v := 20000) d_Row_begin_15 (by decide) ?_
  refine aw_newaI 12 (N := 20000) d_Row_begin_18 rfl (by decide) (by decide) (by decide) ?_
  apply aw_put d_Row_begin_20 pl_Row_9; exact hs_dom hd2_ e1_; exact Nat.le_of_ble_eq_true rfl; rfl; rfl
  refine aw_vret d_Row_begin_23 rfl (by decide) (by decide) ?_
  have hne_ : a ≠ nx := Nat.ne_of_lt (hd a _ q1)
  exact ⟨rfl, _, rfl, ⟨nx, _, hs_eq _ _ _, hs_ne (Ne.symm hne_) (hs_eq _ _ _), Nat.zero_le _, by decide, fun j hj => absurd hj (Nat.not_lt_zero _)⟩, ((f1_.up (by simp)).tr (Fr.new hd2_)).tr (Fr.set (hs_dom hd2_ e1_) (by simp))⟩

set_option maxHeartbeats 4000000 in
set_option maxRecDepth 20000 in
theorem c_Group_begin {G : aG} {nx : Nat} {h : Nat → Option aC} {t a : Nat} {v0 v1 v2 v3 v4 v5 : Value} (hg : h a = some (ob t 1 [v0, v1, v2, v3, v4, v5])) (by9 at9 : Int32) : AMet G m_Group_begin 0 0 0 [.ref a, .int by9, .int at9] (nx, h) (R0 (nx, hset h a (ob t 1 [.int 1, .int at9, .int by9, .int 0, .int (-1), .int 0]))) := by
  refine amet_of pf_Group_begin (Nat.le_of_ble_eq_true rfl) ?_
  show AW G m_Group_begin 0 0 0 _ 0 [(0, .ref a), (1, .int by9), (2, .int at9)] [] (nx, h) 0 0
  refine aw_aload_n (i := 0) d_Group_begin_0 rfl rfl ?_
  refine aw_iconst (v := 1) d_Group_begin_1 (by decide) ?_
  apply aw_put d_Group_begin_2 pl_Group_9; exact hg; exact Nat.le_of_ble_eq_true rfl; rfl; rfl
  refine aw_aload_n (i := 0) d_Group_begin_5 rfl rfl ?_
  refine aw_iload_n (i := 2) d_Group_begin_6 rfl rfl ?_
  apply aw_put d_Group_begin_7 pl_Group_15; exact hs_eq _ _ _; exact Nat.le_of_ble_eq_true rfl; rfl; rfl
  refine aw_aload_n (i := 0) d_Group_begin_10 rfl rfl ?_
  refine aw_iload_n (i := 1) d_Group_begin_11 rfl rfl ?_
  apply aw_put d_Group_begin_12 pl_Group_19; exact hs_eq _ _ _; exact Nat.le_of_ble_eq_true rfl; rfl; rfl
  refine aw_aload_n (i := 0) d_Group_begin_15 rfl rfl ?_
  refine aw_iconst (v := 0) d_Group_begin_16 (by decide) ?_
  apply aw_put d_Group_begin_17 pl_Group_22; exact hs_eq _ _ _; exact Nat.le_of_ble_eq_true rfl; rfl; rfl
  refine aw_aload_n (i := 0) d_Group_begin_20 rfl rfl ?_
  refine aw_iconst (v := -1) d_Group_begin_21 (by decide) ?_
  apply aw_put d_Group_begin_22 pl_Group_25; exact hs_eq _ _ _; exact Nat.le_of_ble_eq_true rfl; rfl; rfl
  refine aw_aload_n (i := 0) d_Group_begin_25 rfl rfl ?_
  refine aw_iconst (v := 0) d_Group_begin_26 (by decide) ?_
  apply aw_put d_Group_begin_27 pl_Group_28; exact hs_eq _ _ _; exact Nat.le_of_ble_eq_true rfl; rfl; rfl
  refine aw_vret d_Group_begin_30 rfl (Nat.le_refl _) (Nat.le_refl _) ?_
  exact ⟨rfl, by simp only [hs_hs]; rfl⟩

set_option maxHeartbeats 4000000 in
set_option maxRecDepth 20000 in
theorem c_Group_move {G : aG} {nx : Nat} {h : Nat → Option aC} {t a : Nat} {v0 v1 v2 v4 : Value} {tk mv : Int32} (hg : h a = some (ob t 1 [v0, v1, v2, .int tk, v4, .int mv])) (to9 took in9 : Int32) : AMet G m_Group_move 0 0 0 [.ref a, .int to9, .int took, .int in9] (nx, h) (R0 (nx, hset h a (ob t 1 [v0, .int to9, v2, .int (tk + took), .int in9, .int (mv + 1)]))) := by
  refine amet_of pf_Group_move (Nat.le_of_ble_eq_true rfl) ?_
  show AW G m_Group_move 0 0 0 _ 0 [(0, .ref a), (1, .int to9), (2, .int took), (3, .int in9)] [] (nx, h) 0 0
  refine aw_aload_n (i := 0) d_Group_move_0 rfl rfl ?_
  refine aw_iload_n (i := 1) d_Group_move_1 rfl rfl ?_
  apply aw_put d_Group_move_2 pl_Group_15; exact hg; exact Nat.le_of_ble_eq_true rfl; rfl; rfl
  refine aw_aload_n (i := 0) d_Group_move_5 rfl rfl ?_
  refine aw_dup d_Group_move_6 rfl ?_
  apply aw_get d_Group_move_7 fl_Group_22; exact hs_eq _ _ _; rfl
  refine aw_iload_n (i := 2) d_Group_move_10 rfl rfl ?_
  refine aw_iadd d_Group_move_11 ?_
  apply aw_put d_Group_move_12 pl_Group_22; exact hs_eq _ _ _; exact Nat.le_of_ble_eq_true rfl; rfl; rfl
  refine aw_aload_n (i := 0) d_Group_move_15 rfl rfl ?_
  refine aw_iload_n (i := 3) d_Group_move_16 rfl rfl ?_
  apply aw_put d_Group_move_17 pl_Group_25; exact hs_eq _ _ _; exact Nat.le_of_ble_eq_true rfl; rfl; rfl
  refine aw_aload_n (i := 0) d_Group_move_20 rfl rfl ?_
  refine aw_dup d_Group_move_21 rfl ?_
  apply aw_get d_Group_move_22 fl_Group_28; exact hs_eq _ _ _; rfl
  refine aw_iconst (v := 1) d_Group_move_25 (by decide) ?_
  refine aw_iadd d_Group_move_26 ?_
  apply aw_put d_Group_move_27 pl_Group_28; exact hs_eq _ _ _; exact Nat.le_of_ble_eq_true rfl; rfl; rfl
  refine aw_vret d_Group_move_30 rfl (Nat.le_refl _) (Nat.le_refl _) ?_
  exact ⟨rfl, by simp only [hs_hs]; rfl⟩

set_option maxHeartbeats 4000000 in
set_option maxRecDepth 20000 in
theorem c_Group_init {G : aG} {nx : Nat} {h : Nat → Option aC} {a : Nat} : AMet G m_Group_init 1 0 0 [.ref a] (nx, h) (R0 (nx, h)) := by
  refine amet_of pf_Group_init (Nat.le_of_ble_eq_true rfl) ?_
  show AW G m_Group_init 1 0 0 _ 0 [(0, .ref a)] [] (nx, h) 0 0
  refine aw_aload_n (i := 0) d_Group_init_0 rfl rfl ?_
  refine aw_objInit d_Group_init_1 oi_Group_3 (by decide) (Nat.le_of_ble_eq_true rfl) ?_
  refine aw_vret d_Group_init_4 rfl (Nat.le_refl _) (Nat.le_refl _) ?_
  exact ⟨rfl, rfl⟩

/-! the log: all moves since the beginning -/
abbrev Lg : Type := List (Nat × Nat × Nat)
def lgn (k : Nat) : Nat := if k = 0 then 0 else (k - 1) % 200 + 1
def DiA (h : Nat → Option aC) (a : Nat) (lg : Lg) : Prop := ∃ (a0 a1 a2 : Nat) (f0 f1 f2 : Nat → Int32), h a = some (ob 13 0 [.ref a0, .ref a1, .ref a2, .int (nI (lgn lg.length)), .int (nI (min lg.length 200)), .int (nI lg.length)]) ∧ h a0 = some (cI 14 200 f0) ∧ h a1 = some (cI 15 200 f1) ∧ h a2 = some (cI 16 200 f2) ∧ ∀ (j : Nat) (hj : j < lg.length), lg.length ≤ j + 200 → f0 (j % 200) = nI lg[j].1 ∧ f1 (j % 200) = nI lg[j].2.1 ∧ f2 (j % 200) = nI lg[j].2.2
theorem DiA.fr {h h2 : Nat → Option aC} {a : Nat} {lg : Lg} {T : List Nat} (hl : DiA h a lg) (hf : Fr T h h2) (ht : ∀ x, 13 ≤ x → x ≤ 16 → x ∉ T) : DiA h2 a lg := by
  obtain ⟨a0, a1, a2, f0, f1, f2, q1, q2, q3, q4, q5⟩ := hl
  exact ⟨a0, a1, a2, f0, f1, f2, hf _ _ q1 (ht 13 (by decide) (by decide)), hf _ _ q2 (ht 14 (by decide) (by decide)), hf _ _ q3 (ht 15 (by decide) (by decide)), hf _ _ q4 (ht 16 (by decide) (by decide)), q5⟩
set_option maxHeartbeats 4000000 in
set_option maxRecDepth 20000 in
theorem c_Diary_begin {G : aG} {nx : Nat} {h : Nat → Option aC} {a : Nat} {lg : Lg} (hl : DiA h a lg) : AMet G m_Diary_begin 0 0 0 [.ref a] (nx, h) (fun r w => r = none ∧ ∃ h2, w = (nx, h2) ∧ DiA h2 a [] ∧ Fr [13] h h2) := by
  obtain ⟨a0, a1, a2, f0, f1, f2, q1, q2, q3, q4, q5⟩ := hl
  refine amet_of pf_Diary_begin (Nat.le_of_ble_eq_true rfl) ?_
  show AW G m_Diary_begin 0 0 0 _ 0 [(0, .ref a)] [] (nx, h) 0 0
  refine aw_aload_n (i := 0) d_Diary_begin_0 rfl rfl ?_
  refine aw_iconst (v := 0) d_Diary_begin_1 (by decide) ?_
  apply aw_put d_Diary_begin_2 pl_Diary_21; exact q1; exact Nat.le_of_ble_eq_true rfl; rfl; rfl
  refine aw_aload_n (i := 0) d_Diary_begin_5 rfl rfl ?_
  refine aw_iconst (v := 0) d_Diary_begin_6 (by decide) ?_
  apply aw_put d_Diary_begin_7 pl_Diary_25; exact hs_eq _ _ _; exact Nat.le_of_ble_eq_true rfl; rfl; rfl
  refine aw_aload_n (i := 0) d_Diary_begin_10 rfl rfl ?_
  refine aw_iconst (v := 0) d_Diary_begin_11 (by decide) ?_
  apply aw_put d_Diary_begin_12 pl_Diary_28; exact hs_eq _ _ _; exact Nat.le_of_ble_eq_true rfl; rfl; rfl
  refine aw_vret d_Diary_begin_15 rfl (Nat.le_refl _) (Nat.le_refl _) ?_
  refine ⟨rfl, _, rfl, ?_, ?_⟩
  · simp only [hs_hs]
    exact ⟨a0, a1, a2, f0, f1, f2, hs_eq _ _ _, hs_tag q2 q1 (by simp), hs_tag q3 q1 (by simp), hs_tag q4 q1 (by simp), fun j hj => absurd hj (Nat.not_lt_zero _)⟩
  · simp only [hs_hs]
    exact Fr.set q1 (by simp)

/-- where a move of the log stands -/
def fmd (x : Int32) : Int32 := if (x ^^^ (200 : Int32)) < 0 ∧ ¬ x - x / 200 * 200 = 0 then x - x / 200 * 200 + 200 else x - x / 200 * 200
theorem di_fin : ∀ s, s < 400 → fmd (nI s - 200) = nI (s % 200) := by decide +kernel
theorem di_idx {k i : Nat} (hi : i < min k 200) (hk : k ≤ 100000) : (if (nI (lgn k) - nI (min k 200) + nI i ^^^ (200 : Int32)) < 0 ∧ ¬ nI (lgn k) - nI (min k 200) + nI i - (nI (lgn k) - nI (min k 200) + nI i) / 200 * 200 = 0 then nI (lgn k) - nI (min k 200) + nI i - (nI (lgn k) - nI (min k 200) + nI i) / 200 * 200 + 200 else nI (lgn k) - nI (min k 200) + nI i - (nI (lgn k) - nI (min k 200) + nI i) / 200 * 200) = nI ((k - min k 200 + i) % 200) := by
  have hl : lgn k = (k - 1) % 200 + 1 := if_neg (by omega)
  have es : nI (lgn k) - nI (min k 200) + nI i = nI (lgn k + i + (200 - min k 200)) - 200 := by
    rw [← nI_add, ← nI_add, ← pk_sub (by omega : min k 200 ≤ 200), show nI 200 = (200 : Int32) from rfl]
    grind
  have := di_fin (lgn k + i + (200 - min k 200)) (by omega)
  rw [← es] at this
  unfold fmd at this
  rw [this]
  congr 1
  omega
set_option maxHeartbeats 4000000 in
set_option maxRecDepth 20000 in
theorem c_Diary_read {G : aG} {nx : Nat} {h : Nat → Option aC} {a : Nat} {lg : Lg} (hl : DiA h a lg) (hb : lg.length ≤ 100000) {i : Nat} (hi : i < min lg.length 200) (w9 : Int32) : AMet G m_Diary_read 1 0 0 [.ref a, .int (nI i), .int w9] (nx, h) (RV (.int (if w9 = 0 then nI (lg.getD (lg.length - min lg.length 200 + i) (0, 0, 0)).1 else if w9 = 1 then nI (lg.getD (lg.length - min lg.length 200 + i) (0, 0, 0)).2.1 else if w9 = 2 then nI (lg.getD (lg.length - min lg.length 200 + i) (0, 0, 0)).2.2 else -1)) (nx, h)) := by
  obtain ⟨a0, a1, a2, f0, f1, f2, q1, q2, q3, q4, q5⟩ := hl
  refine amet_of pf_Diary_read (Nat.le_of_ble_eq_true rfl) ?_
  show AW G m_Diary_read 1 0 0 _ 0 [(0, .ref a), (1, .int (nI i)), (2, .int w9)] [] (nx, h) 0 0
  refine aw_iload_n (i := 1) d_Diary_read_0 rfl rfl ?_
  refine aw_if_lt d_Diary_read_1 (fun br1_ => absurd br1_ (nI_pos (by omega))) (fun br1_ => ?_)
  refine aw_iload_n (i := 1) d_Diary_read_4 rfl rfl ?_
  refine aw_aload_n (i := 0) d_Diary_read_5 rfl rfl ?_
  apply aw_get d_Diary_read_6 fl_Diary_25; assumption; rfl
  refine aw_icmp_lt d_Diary_read_9 (fun br9_ => ?_) (fun br9_ => absurd (nI_lt hi (by omega)) br9_)
  refine aw_aload_n (i := 0) d_Diary_read_14 rfl rfl ?_
  apply aw_get d_Diary_read_15 fl_Diary_21; assumption; rfl
  refine aw_aload_n (i := 0) d_Diary_read_18 rfl rfl ?_
  apply aw_get d_Diary_read_19 fl_Diary_25; assumption; rfl
  refine aw_isub d_Diary_read_22 ?_
  refine aw_iload_n (i := 1) d_Diary_read_23 rfl rfl ?_
  refine aw_iadd d_Diary_read_24 ?_
  refine aw_sipush (v := 200) d_Diary_read_25 (by decide) ?_
  apply aw_calls_p (c_Math_floorMod _ 200 (by decide)) d_Diary_read_28 cl_Diary_37; rfl; rfl; decide; exact Nat.le_of_ble_eq_true rfl; exact (Nat.le_refl _); exact (Nat.le_refl _)
  have hidx : (if (nI (lgn lg.length) - nI (min lg.length 200) + nI i ^^^ (200 : Int32)) < 0 ∧ ¬ nI (lgn lg.length) - nI (min lg.length 200) + nI i - (nI (lgn lg.length) - nI (min lg.length 200) + nI i) / 200 * 200 = 0 then nI (lgn lg.length) - nI (min lg.length 200) + nI i - (nI (lgn lg.length) - nI (min lg.length 200) + nI i) / 200 * 200 + 200 else nI (lgn lg.length) - nI (min lg.length 200) + nI i - (nI (lgn lg.length) - nI (min lg.length 200) + nI i) / 200 * 200) = nI ((lg.length - min lg.length 200 + i) % 200) := di_idx hi (by omega)
  rw [hidx]
  have hj5 := q5 (lg.length - min lg.length 200 + i) (by omega) (by omega)
  have hgd : lg.getD (lg.length - min lg.length 200 + i) (0, 0, 0) = lg[lg.length - min lg.length 200 + i]'(by omega) := by simp [List.getD_eq_getElem?_getD, List.getElem?_eq_getElem (show lg.length - min lg.length 200 + i < lg.length by omega)]
  have hm200 : (lg.length - min lg.length 200 + i) % 200 < 200 := Nat.mod_lt _ (by decide)
  rw [hgd]
  refine aw_istore_n (i := 3) (lv2 := [(0, _), (1, _), (2, _), (3, _)]) d_Diary_read_31 rfl (by decide) rfl ?_
  refine aw_iload_n (i := 2) d_Diary_read_32 rfl rfl ?_
  refine aw_tsw d_Diary_read_33 (fun j tt ej et => ?_) (fun hno => ?_)
  · match j, et with
    | 0, et =>
      cases et
      refine aw_aload_n (i := 0) d_Diary_read_60 rfl rfl ?_
      apply aw_get d_Diary_read_61 fl_Diary_9; exact q1; rfl
      refine aw_iload_n (i := 3) d_Diary_read_64 rfl rfl ?_
      apply aw_iaload d_Diary_read_65; exact q2; exact vp_in_nI hm200 (by decide)
      rw [nI_clamp (by omega), hj5.1]
      refine aw_iret d_Diary_read_66 rfl (Nat.le_refl _) (Nat.le_refl _) ?_
      exact ⟨by rw [if_pos (show w9 = 0 from ej)], rfl⟩
    | 1, et =>
      cases et
      refine aw_aload_n (i := 0) d_Diary_read_67 rfl rfl ?_
      apply aw_get d_Diary_read_68 fl_Diary_15; exact q1; rfl
      refine aw_iload_n (i := 3) d_Diary_read_71 rfl rfl ?_
      apply aw_iaload d_Diary_read_72; exact q3; exact vp_in_nI hm200 (by decide)
      rw [nI_clamp (by omega), hj5.2.1]
      refine aw_iret d_Diary_read_73 rfl (Nat.le_refl _) (Nat.le_refl _) ?_
      have e1_ : w9 = 1 := ej
      exact ⟨by rw [e1_]; rfl, rfl⟩
    | 2, et =>
      cases et
      refine aw_aload_n (i := 0) d_Diary_read_74 rfl rfl ?_
      apply aw_get d_Diary_read_75 fl_Diary_18; exact q1; rfl
      refine aw_iload_n (i := 3) d_Diary_read_78 rfl rfl ?_
      apply aw_iaload d_Diary_read_79; exact q4; exact vp_in_nI hm200 (by decide)
      rw [nI_clamp (by omega), hj5.2.2]
      refine aw_iret d_Diary_read_80 rfl (Nat.le_refl _) (Nat.le_refl _) ?_
      have e1_ : w9 = 2 := ej
      exact ⟨by rw [e1_]; rfl, rfl⟩
    | j + 3, et => simp at et
  · refine aw_iconst (v := -1) d_Diary_read_81 (by decide) ?_
    refine aw_iret d_Diary_read_82 rfl (Nat.le_refl _) (Nat.le_refl _) ?_
    exact ⟨by rw [if_neg (show ¬ w9 = 0 from hno 0 (by decide)), if_neg (show ¬ w9 = 1 from hno 1 (by decide)), if_neg (show ¬ w9 = 2 from hno 2 (by decide))], rfl⟩

set_option maxHeartbeats 4000000 in
set_option maxRecDepth 20000 in
theorem c_Diary_write {G : aG} {nx : Nat} {h : Nat → Option aC} {a : Nat} {lg : Lg} (hl : DiA h a lg) (hb : lg.length ≤ 100000) (g s c : Nat) : AMet G m_Diary_write 1 0 0 [.ref a, .int (nI g), .int (nI s), .int (nI c)] (nx, h) (fun r w => r = none ∧ ∃ h2, w = (nx, h2) ∧ DiA h2 a (lg ++ [(g, s, c)]) ∧ Fr [13, 14, 15, 16] h h2) := by
  obtain ⟨a0, a1, a2, f0, f1, f2, q1, q2, q3, q4, q5⟩ := hl
  have hln : lgn lg.length ≤ 200 := by unfold lgn; split <;> omega
  refine amet_of pf_Diary_write (Nat.le_of_ble_eq_true rfl) ?_
  show AW G m_Diary_write 1 0 0 _ 0 [(0, .ref a), (1, .int (nI g)), (2, .int (nI s)), (3, .int (nI c))] [] (nx, h) 0 0
  refine aw_aload_n (i := 0) d_Diary_write_0 rfl rfl ?_
  apply aw_get d_Diary_write_1 fl_Diary_21; assumption; rfl
  refine aw_if_lt d_Diary_write_4 (fun br4_ => absurd br4_ (nI_pos (by omega))) (fun br4_ => ?_)
  refine aw_aload_n (i := 0) d_Diary_write_7 rfl rfl ?_
  apply aw_get d_Diary_write_8 fl_Diary_21; assumption; rfl
  refine aw_sipush (v := 200) d_Diary_write_11 (by decide) ?_
  refine aw_icmp_lt d_Diary_write_14 (fun br14_ => ?_) (fun br14_ => ?_)
  · skip
    have hlt9 : lgn lg.length < 200 := (nI_ltI (b := 200) (by omega) (by decide)).mp br14_
    have he9 : lgn lg.length = lg.length % 200 := by
      unfold lgn at hlt9 ⊢; split <;> split at hlt9 <;> omega
    rw [he9] at q1
    have ff_ : Fr [13, 14, 15, 16] h h := Fr.rf
    refine aw_aload_n (i := 0) d_Diary_write_22 rfl rfl ?_
    apply aw_get d_Diary_write_23 fl_Diary_9; exact q1; rfl
    refine aw_aload_n (i := 0) d_Diary_write_26 rfl rfl ?_
    apply aw_get d_Diary_write_27 fl_Diary_21; exact q1; rfl
    refine aw_iload_n (i := 1) d_Diary_write_30 rfl rfl ?_
    apply aw_iastore d_Diary_write_31; exact q2; exact vp_in_nI (Nat.mod_lt _ (by decide)) (by decide)
    refine aw_nm q2 ?_
    intro h1 e1_ f1_ o1_
    have q1 := f1_ _ _ q1 (by simp)
    have q3 := f1_ _ _ q3 (by simp)
    have q4 := f1_ _ _ q4 (by simp)
    refine aw_aload_n (i := 0) d_Diary_write_32 rfl rfl ?_
    apply aw_get d_Diary_write_33 fl_Diary_15; exact q1; rfl
    refine aw_aload_n (i := 0) d_Diary_write_36 rfl rfl ?_
    apply aw_get d_Diary_write_37 fl_Diary_21; exact q1; rfl
    refine aw_iload_n (i := 2) d_Diary_write_40 rfl rfl ?_
    apply aw_iastore d_Diary_write_41; exact q3; exact vp_in_nI (Nat.mod_lt _ (by decide)) (by decide)
    refine aw_nm q3 ?_
    intro h3 e3_ f3_ o3_
    have q1 := f3_ _ _ q1 (by simp)
    have e1_ := f3_ _ _ e1_ (by simp)
    have q4 := f3_ _ _ q4 (by simp)
    refine aw_aload_n (i := 0) d_Diary_write_42 rfl rfl ?_
    apply aw_get d_Diary_write_43 fl_Diary_18; exact q1; rfl
    refine aw_aload_n (i := 0) d_Diary_write_46 rfl rfl ?_
    apply aw_get d_Diary_write_47 fl_Diary_21; exact q1; rfl
    refine aw_iload_n (i := 3) d_Diary_write_50 rfl rfl ?_
    apply aw_iastore d_Diary_write_51; exact q4; exact vp_in_nI (Nat.mod_lt _ (by decide)) (by decide)
    refine aw_nm q4 ?_
    intro h4 e4_ f4_ o4_
    have q1 := f4_ _ _ q1 (by simp)
    have e1_ := f4_ _ _ e1_ (by simp)
    have e3_ := f4_ _ _ e3_ (by simp)
    refine aw_aload_n (i := 0) d_Diary_write_52 rfl rfl ?_
    refine aw_dup d_Diary_write_53 rfl ?_
    apply aw_get d_Diary_write_54 fl_Diary_21; exact q1; rfl
    refine aw_iconst (v := 1) d_Diary_write_57 (by decide) ?_
    refine aw_iadd d_Diary_write_58 ?_
    apply aw_put d_Diary_write_59 pl_Diary_21; exact q1; exact Nat.le_of_ble_eq_true rfl; rfl; rfl
    refine aw_aload_n (i := 0) d_Diary_write_62 rfl rfl ?_
    refine aw_aload_n (i := 0) d_Diary_write_63 rfl rfl ?_
    apply aw_get d_Diary_write_64 fl_Diary_25; exact hs_eq _ _ _; rfl
    refine aw_iconst (v := 1) d_Diary_write_67 (by decide) ?_
    refine aw_iadd d_Diary_write_68 ?_
    refine aw_sipush (v := 200) d_Diary_write_69 (by decide) ?_
    apply aw_calls_p (c_Math_min (nI (min lg.length 200) + 1) 200) d_Diary_write_72 cl_Diary_31; rfl; rfl; decide; exact Nat.le_of_ble_eq_true rfl; exact (Nat.le_refl _); exact (Nat.le_refl _)
    apply aw_put d_Diary_write_75 pl_Diary_25; exact hs_eq _ _ _; exact Nat.le_of_ble_eq_true rfl; rfl; rfl
    refine aw_aload_n (i := 0) d_Diary_write_78 rfl rfl ?_
    refine aw_dup d_Diary_write_79 rfl ?_
    apply aw_get d_Diary_write_80 fl_Diary_28; exact hs_eq _ _ _; rfl
    refine aw_iconst (v := 1) d_Diary_write_83 (by decide) ?_
    refine aw_iadd d_Diary_write_84 ?_
    apply aw_put d_Diary_write_85 pl_Diary_28; exact hs_eq _ _ _; exact Nat.le_of_ble_eq_true rfl; rfl; rfl
    rw [hs_hs, hs_hs]
    refine aw_vret d_Diary_write_88 rfl (Nat.le_refl _) (Nat.le_refl _) ?_
    have hmin : (if (200 : Int32) < nI (min lg.length 200) + 1 then 200 else nI (min lg.length 200) + 1) = nI (min (lg.length + 1) 200) := by
      rw [nI_1, show (200 : Int32) = nI 200 from rfl]
      by_cases e9 : lg.length < 200
      · rw [if_neg (fun q => absurd ((nI_ltI (a := 200) (b := min lg.length 200 + 1) (by decide) (by omega)).mp q) (by omega))]; congr 1; omega
      · rw [if_pos ((nI_ltI (a := 200) (b := min lg.length 200 + 1) (by decide) (by omega)).mpr (by omega)), show min (lg.length + 1) 200 = 200 by omega]
    have hnx : lg.length % 200 + 1 = lgn (lg.length + 1) := by unfold lgn; rw [if_neg (by omega)]; rfl
    refine ⟨rfl, _, rfl, ⟨a0, a1, a2, _, _, _, ?_, hs_tag e1_ q1 (by simp), hs_tag e3_ q1 (by simp), hs_tag e4_ q1 (by simp), fun j hj hj2 => ?_⟩, ?_⟩
    · rw [List.length_append, List.length_singleton, ← hmin, ← hnx, ← nI_1 (lg.length % 200), ← nI_1 lg.length]; exact hs_eq _ _ _
    · rw [nI_clamp (by have := Nat.mod_lt lg.length (show 0 < 200 by decide); omega)]
      simp only [List.length_append, List.length_singleton] at hj hj2
      by_cases e9 : j < lg.length
      · have hjm : j % 200 ≠ lg.length % 200 := by omega
        simp only [upd, hjm, if_false]
        rw [List.getElem_append_left e9]
        exact q5 j e9 (by omega)
      · have e8 : j = lg.length := by omega
        subst e8
        simp [upd]
    · exact (((ff_.tr (f1_.up (by simp))).tr (f3_.up (by simp))).tr (f4_.up (by simp))).tr (Fr.set q1 (by simp))
  · skip
    have hge9 : lgn lg.length = 200 := by
      have : ¬ lgn lg.length < 200 := fun q => br14_ ((nI_ltI (b := 200) (by omega) (by decide)).mpr q)
      omega
    have h0_ : lg.length % 200 = 0 := by
      unfold lgn at hge9; split at hge9 <;> omega
    refine aw_aload_n (i := 0) d_Diary_write_17 rfl rfl ?_
    refine aw_iconst (v := 0) d_Diary_write_18 (by decide) ?_
    apply aw_put d_Diary_write_19 pl_Diary_21; assumption; exact Nat.le_of_ble_eq_true rfl; rfl; rfl
    refine aw_nm q1 ?_
    intro h0 e0_ f0_ o0_
    have q2 := f0_ _ _ q2 (by simp)
    have q3 := f0_ _ _ q3 (by simp)
    have q4 := f0_ _ _ q4 (by simp)
    have q1 : h0 a = some (ob 13 0 [.ref a0, .ref a1, .ref a2, .int (nI (lg.length % 200)), .int (nI (min lg.length 200)), .int (nI lg.length)]) := by rw [h0_]; exact e0_
    have ff_ : Fr [13, 14, 15, 16] h h0 := f0_.up (by simp)
    refine aw_aload_n (i := 0) d_Diary_write_22 rfl rfl ?_
    apply aw_get d_Diary_write_23 fl_Diary_9; exact q1; rfl
    refine aw_aload_n (i := 0) d_Diary_write_26 rfl rfl ?_
    apply aw_get d_Diary_write_27 fl_Diary_21; exact q1; rfl
    refine aw_iload_n (i := 1) d_Diary_write_30 rfl rfl ?_
    apply aw_iastore d_Diary_write_31; exact q2; exact vp_in_nI (Nat.mod_lt _ (by decide)) (by decide)
    refine aw_nm q2 ?_
    intro h1 e1_ f1_ o1_
    have q1 := f1_ _ _ q1 (by simp)
    have q3 := f1_ _ _ q3 (by simp)
    have q4 := f1_ _ _ q4 (by simp)
    refine aw_aload_n (i := 0) d_Diary_write_32 rfl rfl ?_
    apply aw_get d_Diary_write_33 fl_Diary_15; exact q1; rfl
    refine aw_aload_n (i := 0) d_Diary_write_36 rfl rfl ?_
    apply aw_get d_Diary_write_37 fl_Diary_21; exact q1; rfl
    refine aw_iload_n (i := 2) d_Diary_write_40 rfl rfl ?_
    apply aw_iastore d_Diary_write_41; exact q3; exact vp_in_nI (Nat.mod_lt _ (by decide)) (by decide)
    refine aw_nm q3 ?_
    intro h3 e3_ f3_ o3_
    have q1 := f3_ _ _ q1 (by simp)
    have e1_ := f3_ _ _ e1_ (by simp)
    have q4 := f3_ _ _ q4 (by simp)
    refine aw_aload_n (i := 0) d_Diary_write_42 rfl rfl ?_
    apply aw_get d_Diary_write_43 fl_Diary_18; exact q1; rfl
    refine aw_aload_n (i := 0) d_Diary_write_46 rfl rfl ?_
    apply aw_get d_Diary_write_47 fl_Diary_21; exact q1; rfl
    refine aw_iload_n (i := 3) d_Diary_write_50 rfl rfl ?_
    apply aw_iastore d_Diary_write_51; exact q4; exact vp_in_nI (Nat.mod_lt _ (by decide)) (by decide)
    refine aw_nm q4 ?_
    intro h4 e4_ f4_ o4_
    have q1 := f4_ _ _ q1 (by simp)
    have e1_ := f4_ _ _ e1_ (by simp)
    have e3_ := f4_ _ _ e3_ (by simp)
    refine aw_aload_n (i := 0) d_Diary_write_52 rfl rfl ?_
    refine aw_dup d_Diary_write_53 rfl ?_
    apply aw_get d_Diary_write_54 fl_Diary_21; exact q1; rfl
    refine aw_iconst (v := 1) d_Diary_write_57 (by decide) ?_
    refine aw_iadd d_Diary_write_58 ?_
    apply aw_put d_Diary_write_59 pl_Diary_21; exact q1; exact Nat.le_of_ble_eq_true rfl; rfl; rfl
    refine aw_aload_n (i := 0) d_Diary_write_62 rfl rfl ?_
    refine aw_aload_n (i := 0) d_Diary_write_63 rfl rfl ?_
    apply aw_get d_Diary_write_64 fl_Diary_25; exact hs_eq _ _ _; rfl
    refine aw_iconst (v := 1) d_Diary_write_67 (by decide) ?_
    refine aw_iadd d_Diary_write_68 ?_
    refine aw_sipush (v := 200) d_Diary_write_69 (by decide) ?_
    apply aw_calls_p (c_Math_min (nI (min lg.length 200) + 1) 200) d_Diary_write_72 cl_Diary_31; rfl; rfl; decide; exact Nat.le_of_ble_eq_true rfl; exact (Nat.le_refl _); exact (Nat.le_refl _)
    apply aw_put d_Diary_write_75 pl_Diary_25; exact hs_eq _ _ _; exact Nat.le_of_ble_eq_true rfl; rfl; rfl
    refine aw_aload_n (i := 0) d_Diary_write_78 rfl rfl ?_
    refine aw_dup d_Diary_write_79 rfl ?_
    apply aw_get d_Diary_write_80 fl_Diary_28; exact hs_eq _ _ _; rfl
    refine aw_iconst (v := 1) d_Diary_write_83 (by decide) ?_
    refine aw_iadd d_Diary_write_84 ?_
    apply aw_put d_Diary_write_85 pl_Diary_28; exact hs_eq _ _ _; exact Nat.le_of_ble_eq_true rfl; rfl; rfl
    rw [hs_hs, hs_hs]
    refine aw_vret d_Diary_write_88 rfl (Nat.le_refl _) (Nat.le_refl _) ?_
    have hmin : (if (200 : Int32) < nI (min lg.length 200) + 1 then 200 else nI (min lg.length 200) + 1) = nI (min (lg.length + 1) 200) := by
      rw [nI_1, show (200 : Int32) = nI 200 from rfl]
      by_cases e9 : lg.length < 200
      · rw [if_neg (fun q => absurd ((nI_ltI (a := 200) (b := min lg.length 200 + 1) (by decide) (by omega)).mp q) (by omega))]; congr 1; omega
      · rw [if_pos ((nI_ltI (a := 200) (b := min lg.length 200 + 1) (by decide) (by omega)).mpr (by omega)), show min (lg.length + 1) 200 = 200 by omega]
    have hnx : lg.length % 200 + 1 = lgn (lg.length + 1) := by unfold lgn; rw [if_neg (by omega)]; rfl
    refine ⟨rfl, _, rfl, ⟨a0, a1, a2, _, _, _, ?_, hs_tag e1_ q1 (by simp), hs_tag e3_ q1 (by simp), hs_tag e4_ q1 (by simp), fun j hj hj2 => ?_⟩, ?_⟩
    · rw [List.length_append, List.length_singleton, ← hmin, ← hnx, ← nI_1 (lg.length % 200), ← nI_1 lg.length]; exact hs_eq _ _ _
    · rw [nI_clamp (by have := Nat.mod_lt lg.length (show 0 < 200 by decide); omega)]
      simp only [List.length_append, List.length_singleton] at hj hj2
      by_cases e9 : j < lg.length
      · have hjm : j % 200 ≠ lg.length % 200 := by omega
        simp only [upd, hjm, if_false]
        rw [List.getElem_append_left e9]
        exact q5 j e9 (by omega)
      · have e8 : j = lg.length := by omega
        subst e8
        simp [upd]
    · exact (((ff_.tr (f1_.up (by simp))).tr (f3_.up (by simp))).tr (f4_.up (by simp))).tr (Fr.set q1 (by simp))

