def xN (x : Int32) : Nat := x.toNatClampNeg
theorem xN_nI {n : Nat} (h : n < 2 ^ 31) : xN (nI n) = n := nI_clamp h
def rng (lo hi : Nat) (x : Int32) : Bool := decide (nI lo ≤ x ∧ x ≤ nI hi)
theorem rng_ex {lo hi : Nat} {x : Int32} (h : rng lo hi x = true) (hh : hi < 2 ^ 30) : ∃ k, lo ≤ k ∧ k ≤ hi ∧ x = nI k ∨ hi < lo := by
  have h1 := of_decide_eq_true h
  by_cases hl : hi < lo
  · exact ⟨0, Or.inr hl⟩
  rcases pk_ix x (n := hi + 1) (by omega) with q | q | ⟨j, hj, rfl⟩
  · have := nI_pos' (n := lo) (by omega)
    exact absurd (Int32.lt_of_lt_of_le q (Int32.le_trans this h1.1)) (fun z => Int32.lt_irrefl z)
  · have h2 : nI hi < nI (hi + 1) := nI_lt (by omega) (by omega)
    exact absurd (Int32.lt_of_lt_of_le h2 (Int32.le_trans q h1.2)) (fun z => Int32.lt_irrefl z)
  · exact ⟨j, Or.inl ⟨(nI_leI (by omega) (by omega)).mp h1.1, by omega, rfl⟩⟩
theorem rng_of {lo hi : Nat} {x : Int32} (h : rng lo hi x = true) (hh : hi < 2 ^ 30) (hl : lo ≤ hi) : ∃ k, lo ≤ k ∧ k ≤ hi ∧ x = nI k := by
  obtain ⟨k, q | q⟩ := rng_ex h hh
  · exact ⟨k, q⟩
  · omega
theorem in_rng {lo hi : Nat} {x : Int32} : decide ((nI lo).toInt64 ≤ x.toInt64 ∧ x.toInt64 ≤ (nI hi).toInt64) = rng lo hi x := decide_eq_decide.mpr (and_congr (w_le _ _) (w_le _ _))
theorem gd_snoc {α : Type} {l : List α} {x d : α} {i : Nat} (hi : i < l.length + 1) : (l ++ [x]).getD i d = if i < l.length then l.getD i d else x := by
  by_cases e : i < l.length
  · rw [if_pos e]; simp [List.getD_eq_getElem?_getD, List.getElem?_append_left e]
  · have e2 : i = l.length := by omega
    rw [if_neg e]; subst e2; simp [List.getD_eq_getElem?_getD]
theorem gd_map {α β : Type} (g : α → β) {l : List α} {d : α} {e : β} {i : Nat} (hi : i < l.length) : (l.map g).getD i e = g (l.getD i d) := by
  simp [List.getD_eq_getElem?_getD, List.getElem?_eq_getElem hi]
theorem gd_set {α : Type} {l : List α} {x d : α} {i j : Nat} (hj : j < l.length) : (l.set j x).getD i d = if i = j then x else l.getD i d := by
  by_cases e : i = j
  · subst e; rw [if_pos rfl]; simp [List.getD_eq_getElem?_getD, List.getElem?_set_self hj]
  · rw [if_neg e]; simp [List.getD_eq_getElem?_getD, List.getElem?_set_ne (fun q => e q.symm)]
def isSx (hs : HSt) (x : Int32) : Bool := decide (0 ≤ x ∧ x < nI hs.2.1.length)
def isPx (hs : HSt) (x : Int32) : Bool := decide (0 ≤ x ∧ x < nI hs.1.length)
/-- what is built -/
def addP (hs : HSt) (k f : Nat) : HSt := (hs.1.map (fun p => (p.1, p.2.1, p.2.2.1, p.2.2.2.1, p.2.2.2.2.1, -1)) ++ [(k, f, -1, -1, -1, -1)], hs.2.1, hs.2.2.1, hs.2.2.2)
def okP (hs : HSt) (gs : List GSt) (k f : Int32) : Bool := !anyP gs && rng 2 4 k && decide (0 ≤ f ∧ f < k) && decide (hs.1.length < 12) && decide (hall hs * xN k ≤ 20000)
def addS (hs : HSt) (kd hd tk rm : Nat) : HSt := (hs.1, hs.2.1 ++ [(kd, hd, tk, rm, [], [])], hs.2.2.1, hs.2.2.2)
def okS (hs : HSt) (gs : List GSt) (kd hd tk rm : Int32) : Bool := !anyP gs && (rng 0 3 kd && rng 1 9 hd && rng 1 100 tk && rng 0 7 rm) && decide (hs.2.1.length < 24) && (!decide (2 ≤ kd) || decide (hall hs * 2 ≤ 20000))
def setS (hs : HSt) (j : Nat) (g : SSt → SSt) : HSt := (hs.1, hs.2.1.set j (g (hs.2.1.getD j sz0)), hs.2.2.1, hs.2.2.2)
def addN (hs : HSt) (j p s : Nat) : HSt := setS hs j (fun q => (q.1, q.2.1, q.2.2.1, q.2.2.2.1, q.2.2.2.2.1 ++ [(p, s)], q.2.2.2.2.2))
def addV (hs : HSt) (j p s : Nat) : HSt := setS hs j (fun q => (q.1, q.2.1, q.2.2.1, q.2.2.2.1, q.2.2.2.2.1, q.2.2.2.2.2 ++ [(p, s)]))
def okN (hs : HSt) (gs : List GSt) (j p s : Int32) : Bool := !anyP gs && isSx hs j && prOK hs p s && decide ((hs.2.1.getD (xN j) sz0).2.2.2.2.1.length < 4)
def okV (hs : HSt) (gs : List GSt) (j p s : Int32) : Bool := !anyP gs && isSx hs j && prOK hs p s && decide ((hs.2.1.getD (xN j) sz0).2.2.2.2.2.length < 4) && !(hs.2.1.getD (xN j) sz0).2.2.2.2.2.any (fun q => nI q.1 == p)
def addG (hs : HSt) (p s : Nat) : HSt := (hs.1, hs.2.1, hs.2.2.1 ++ [(p, s)], hs.2.2.2)
def okG (hs : HSt) (gs : List GSt) (p s : Int32) : Bool := !anyP gs && prOK hs p s && decide (hs.2.2.1.length < 6)
def setH (hs : HSt) (n : Nat) : HSt := (hs.1, hs.2.1, hs.2.2.1, n)
def okH (gs : List GSt) (n : Int32) : Bool := !anyP gs && rng 1 9 n
def setP (hs : HSt) (i : Nat) (g : PSt → PSt) : HSt := (hs.1.set i (g (hs.1.getD i pz)), hs.2.1, hs.2.2.1, hs.2.2.2)
def setR (hs : HSt) (i : Nat) (x y : Int32) : HSt := setP hs i (fun q => (q.1, q.2.1, x, y, q.2.2.2.2.1, q.2.2.2.2.2))
def setE (hs : HSt) (i : Nat) (x : Int32) : HSt := setP hs i (fun q => (q.1, q.2.1, q.2.2.1, q.2.2.2.1, x, q.2.2.2.2.2))
def setD (hs : HSt) (i : Nat) (x : Int32) : HSt := setP hs i (fun q => (q.1, q.2.1, q.2.2.1, q.2.2.2.1, q.2.2.2.2.1, x))
def okR (hs : HSt) (gs : List GSt) (p x y : Int32) : Bool := !anyP gs && isPx hs p && !(p == x) && prOK hs x y
def okE (hs : HSt) (gs : List GSt) (p s : Int32) : Bool := !anyP gs && prOK hs p s
def okD (hs : HSt) (p s : Int32) : Bool := isPx hs p && (s == -1 || prOK hs p s)
def hsC : HSt := ([], [], [], 2)
def gsC (gs : List GSt) : List GSt := gs.map (fun g => (false, g.2))
def PrpOK (ar : Nat → Nat → Int32) (i : Nat) (p : PSt) : Prop := ar 2 i = nI p.1 ∧ ar 3 i = nI p.2.1 ∧ ar 19 i = p.2.2.1 ∧ (¬ p.2.2.1 = -1 → ar 20 i = p.2.2.2.1) ∧ ar 21 i = p.2.2.2.2.1 ∧ ar 22 i = p.2.2.2.2.2
def StpOK (ar : Nat → Nat → Int32) (j : Nat) (s : SSt) : Prop := ar 5 j = nI s.1 ∧ ar 6 j = nI s.2.1 ∧ ar 7 j = nI s.2.2.1 ∧ ar 8 j = nI s.2.2.2.1 ∧ ar 9 j = nI s.2.2.2.2.1.length ∧ (∀ (m : Nat) (hm : m < s.2.2.2.2.1.length), ar 10 (4 * j + m) = nI s.2.2.2.2.1[m].1 ∧ ar 11 (4 * j + m) = nI s.2.2.2.2.1[m].2) ∧ ar 12 j = nI s.2.2.2.2.2.length ∧ (∀ (m : Nat) (hm : m < s.2.2.2.2.2.length), ar 13 (4 * j + m) = nI s.2.2.2.2.2[m].1 ∧ ar 14 (4 * j + m) = nI s.2.2.2.2.2[m].2)
theorem MoH.mk {sc : Nat → Int32} {ar : Nat → Nat → Int32} {hs : HSt} (h1 : sc 1 = nI hs.1.length) (h4 : sc 4 = nI hs.2.1.length) (h15 : sc 15 = nI hs.2.2.1.length) (h18 : sc 18 = nI hs.2.2.2) (hp : ∀ i, i < hs.1.length → PrpOK ar i (hs.1.getD i pz)) (hst : ∀ j, j < hs.2.1.length → StpOK ar j (hs.2.1.getD j sz0)) (hg : ∀ (m : Nat) (hm : m < hs.2.2.1.length), ar 16 m = nI hs.2.2.1[m].1 ∧ ar 17 m = nI hs.2.2.1[m].2) : MoH sc ar hs := ⟨⟨h1, h4, h15, h18⟩, hp, hst, hg⟩
theorem StpOK.eq {ar ar2 : Nat → Nat → Int32} {j : Nat} {s : SSt} (h : StpOK ar j s) (e : ∀ f, 5 ≤ f → f ≤ 14 → ar2 f = ar f) : StpOK ar2 j s := by
  unfold StpOK
  rw [e 5 (by decide) (by decide), e 6 (by decide) (by decide), e 7 (by decide) (by decide), e 8 (by decide) (by decide), e 9 (by decide) (by decide), e 10 (by decide) (by decide), e 11 (by decide) (by decide), e 12 (by decide) (by decide), e 13 (by decide) (by decide), e 14 (by decide) (by decide)]
  exact h
theorem mh_addP {sc sc2 : Nat → Int32} {ar ar2 : Nat → Nat → Int32} {hs : HSt} {k f : Nat} (hh : MoH sc ar hs) (hl : hs.1.length < 12) (h1 : sc2 1 = nI (hs.1.length + 1)) (h4 : sc2 4 = sc 4) (h15 : sc2 15 = sc 15) (h18 : sc2 18 = sc 18) (a2 : ar2 2 = upd (ar 2) hs.1.length (nI k)) (a3 : ar2 3 = upd (ar 3) hs.1.length (nI f)) (a19 : ar2 19 = upd (ar 19) hs.1.length (-1)) (a20 : ar2 20 = ar 20) (a21 : ar2 21 = upd (ar 21) hs.1.length (-1)) (a22 : ∀ q, q < 12 → ar2 22 q = -1) (e : ∀ g, 5 ≤ g → g ≤ 17 → ar2 g = ar g) : MoH sc2 ar2 (addP hs k f) := by
  refine MoH.mk ?_ (h4.trans hh.1.2.1) (h15.trans hh.1.2.2.1) (h18.trans hh.1.2.2.2) ?_ (fun j hj => StpOK.eq (hh.2.2.1 j hj) (fun g q1 q2 => e g q1 (by omega))) (fun m hm => by rw [e 16 (by decide) (by decide), e 17 (by decide) (by decide)]; exact hh.2.2.2 m hm)
  · rw [h1]; simp [addP]
  · intro i hi
    have hi2 : i < hs.1.length + 1 := by simpa [addP] using hi
    show PrpOK ar2 i ((hs.1.map _ ++ [_]).getD i pz)
    rw [gd_snoc (by simpa using hi2)]
    simp only [List.length_map]
    by_cases el : i < hs.1.length
    · rw [if_pos el, gd_map _ (d := pz) el]
      obtain ⟨b1, b2, b3, b4, b5, b6⟩ := hh.2.1 i el
      have ne : i ≠ hs.1.length := by omega
      exact ⟨by rw [a2, pk_un ne]; exact b1, by rw [a3, pk_un ne]; exact b2, by rw [a19, pk_un ne]; exact b3, fun q => by rw [a20]; exact b4 q, by rw [a21, pk_un ne]; exact b5, a22 i (by omega)⟩
    · have ei : i = hs.1.length := by omega
      subst ei
      rw [if_neg el]
      exact ⟨by rw [a2, pk_us], by rw [a3, pk_us], by rw [a19, pk_us], fun q => absurd rfl q, by rw [a21, pk_us], a22 _ (by omega)⟩
theorem PrpOK.eq {ar ar2 : Nat → Nat → Int32} {i : Nat} {p : PSt} (h : PrpOK ar i p) (e2 : ar2 2 = ar 2) (e3 : ar2 3 = ar 3) (e19 : ar2 19 = ar 19) (e20 : ar2 20 = ar 20) (e21 : ar2 21 = ar 21) (e22 : ar2 22 = ar 22) : PrpOK ar2 i p := by
  unfold PrpOK; rw [e2, e3, e19, e20, e21, e22]; exact h
theorem mh_addS {sc sc2 : Nat → Int32} {ar ar2 : Nat → Nat → Int32} {hs : HSt} {kd hd tk rm : Nat} (hh : MoH sc ar hs) (h4 : sc2 4 = nI (hs.2.1.length + 1)) (h1 : sc2 1 = sc 1) (h15 : sc2 15 = sc 15) (h18 : sc2 18 = sc 18) (e : ∀ g, g ≤ 4 ∨ 15 ≤ g → ar2 g = ar g) (a5 : ar2 5 = upd (ar 5) hs.2.1.length (nI kd)) (a6 : ar2 6 = upd (ar 6) hs.2.1.length (nI hd)) (a7 : ar2 7 = upd (ar 7) hs.2.1.length (nI tk)) (a8 : ar2 8 = upd (ar 8) hs.2.1.length (nI rm)) (a9 : ar2 9 = upd (ar 9) hs.2.1.length (nI 0)) (a12 : ar2 12 = upd (ar 12) hs.2.1.length (nI 0)) (e2 : ∀ g, g = 10 ∨ g = 11 ∨ g = 13 ∨ g = 14 → ar2 g = ar g) : MoH sc2 ar2 (addS hs kd hd tk rm) := by
  refine MoH.mk (h1.trans hh.1.1) ?_ (h15.trans hh.1.2.2.1) (h18.trans hh.1.2.2.2) (fun i hi => PrpOK.eq (hh.2.1 i hi) (e _ (by decide)) (e _ (by decide)) (e _ (by decide)) (e _ (by decide)) (e _ (by decide)) (e _ (by decide))) ?_ (fun m hm => by rw [e 16 (by decide), e 17 (by decide)]; exact hh.2.2.2 m hm)
  · rw [h4]; simp [addS]
  · intro j hj
    have hj2 : j < hs.2.1.length + 1 := by simpa [addS] using hj
    show StpOK ar2 j ((hs.2.1 ++ [_]).getD j sz0)
    rw [gd_snoc hj2]
    by_cases el : j < hs.2.1.length
    · rw [if_pos el]
      obtain ⟨b1, b2, b3, b4, b5, b6, b7, b8⟩ := hh.2.2.1 j el
      have ne : j ≠ hs.2.1.length := by omega
      refine ⟨by rw [a5, pk_un ne]; exact b1, by rw [a6, pk_un ne]; exact b2, by rw [a7, pk_un ne]; exact b3, by rw [a8, pk_un ne]; exact b4, by rw [a9, pk_un ne]; exact b5, ?_, by rw [a12, pk_un ne]; exact b7, ?_⟩
      · rw [e2 10 (by decide), e2 11 (by decide)]; exact b6
      · rw [e2 13 (by decide), e2 14 (by decide)]; exact b8
    · have ei : j = hs.2.1.length := by omega
      subst ei
      rw [if_neg el]
      exact ⟨by rw [a5, pk_us], by rw [a6, pk_us], by rw [a7, pk_us], by rw [a8, pk_us], by rw [a9, pk_us]; rfl, fun m hm => absurd hm (Nat.not_lt_zero _), by rw [a12, pk_us]; rfl, fun m hm => absurd hm (Nat.not_lt_zero _)⟩
theorem mh_setS {sc sc2 : Nat → Int32} {ar ar2 : Nat → Nat → Int32} {hs : HSt} {j : Nat} {g : SSt → SSt} (hh : MoH sc ar hs) (hj : j < hs.2.1.length) (h4 : sc2 4 = sc 4) (h1 : sc2 1 = sc 1) (h15 : sc2 15 = sc 15) (h18 : sc2 18 = sc 18) (e : ∀ g, g ≤ 4 ∨ 15 ≤ g → ar2 g = ar g) (ho : ∀ i, i ≠ j → i < hs.2.1.length → StpOK ar i (hs.2.1.getD i sz0) → StpOK ar2 i (hs.2.1.getD i sz0)) (hn : StpOK ar j (hs.2.1.getD j sz0) → StpOK ar2 j (g (hs.2.1.getD j sz0))) : MoH sc2 ar2 (setS hs j g) := by
  refine MoH.mk (h1.trans hh.1.1) ?_ (h15.trans hh.1.2.2.1) (h18.trans hh.1.2.2.2) (fun i hi => PrpOK.eq (hh.2.1 i hi) (e _ (by decide)) (e _ (by decide)) (e _ (by decide)) (e _ (by decide)) (e _ (by decide)) (e _ (by decide))) ?_ (fun m hm => by rw [e 16 (by decide), e 17 (by decide)]; exact hh.2.2.2 m hm)
  · rw [h4, hh.1.2.1]; simp [setS]
  · intro i hi
    have hi2 : i < hs.2.1.length := by simpa [setS] using hi
    show StpOK ar2 i ((hs.2.1.set j _).getD i sz0)
    rw [gd_set hj]
    by_cases ei : i = j
    · subst ei; rw [if_pos rfl]; exact hn (hh.2.2.1 _ hi2)
    · rw [if_neg ei]; exact ho i ei hi2 (hh.2.2.1 _ hi2)
/-- a pair more at its place -/
theorem pair_more {f g : Nat → Int32} {l : Prs} {b p s : Nat} (h : ∀ (m : Nat) (hm : m < l.length), f (b + m) = nI l[m].1 ∧ g (b + m) = nI l[m].2) : ∀ (m : Nat) (hm : m < (l ++ [(p, s)]).length), upd f (b + l.length) (nI p) (b + m) = nI (l ++ [(p, s)])[m].1 ∧ upd g (b + l.length) (nI s) (b + m) = nI (l ++ [(p, s)])[m].2 := by
  intro m hm
  by_cases e : m < l.length
  · rw [pk_un (by omega), pk_un (by omega), List.getElem_append_left e]; exact h m e
  · have e2 : m = l.length := by simp at hm; omega
    subst e2
    rw [pk_us, pk_us]; simp
theorem pair_else {f g : Nat → Int32} {l : Prs} {b z : Nat} {x y : Int32} (hz : ∀ m, m < l.length → b + m ≠ z) (h : ∀ (m : Nat) (hm : m < l.length), f (b + m) = nI l[m].1 ∧ g (b + m) = nI l[m].2) : ∀ (m : Nat) (hm : m < l.length), upd f z x (b + m) = nI l[m].1 ∧ upd g z y (b + m) = nI l[m].2 := by
  intro m hm
  rw [pk_un (hz m hm), pk_un (hz m hm)]; exact h m hm
theorem mh_addN {sc sc2 : Nat → Int32} {ar ar2 : Nat → Nat → Int32} {hs : HSt} {j p s : Nat} (hh : MoH sc ar hs) (hv : VH hs) (hj : j < hs.2.1.length) (hl : (hs.2.1.getD j sz0).2.2.2.2.1.length < 4) (h4 : sc2 4 = sc 4) (h1 : sc2 1 = sc 1) (h15 : sc2 15 = sc 15) (h18 : sc2 18 = sc 18) (e : ∀ g, g ≤ 8 ∨ 12 ≤ g → ar2 g = ar g) (a9 : ar2 9 = upd (ar 9) j (nI ((hs.2.1.getD j sz0).2.2.2.2.1.length + 1))) (a10 : ar2 10 = upd (ar 10) (4 * j + (hs.2.1.getD j sz0).2.2.2.2.1.length) (nI p)) (a11 : ar2 11 = upd (ar 11) (4 * j + (hs.2.1.getD j sz0).2.2.2.2.1.length) (nI s)) : MoH sc2 ar2 (addN hs j p s) := by
  refine mh_setS hh hj h4 h1 h15 h18 (fun g q => e g (by omega)) (fun i ne hi q => ?_) (fun q => ?_)
  · obtain ⟨b1, b2, b3, b4, b5, b6, b7, b8⟩ := q
    have hil := (hv.s hi).2.2.2.2.2.2.1
    unfold StpOK
    rw [e 5 (by decide), e 6 (by decide), e 7 (by decide), e 8 (by decide), e 12 (by decide), e 13 (by decide), e 14 (by decide), a9, a10, a11, pk_un ne]
    exact ⟨b1, b2, b3, b4, b5, pair_else (fun m hm => by omega) b6, b7, b8⟩
  · obtain ⟨b1, b2, b3, b4, b5, b6, b7, b8⟩ := q
    unfold StpOK
    rw [e 5 (by decide), e 6 (by decide), e 7 (by decide), e 8 (by decide), e 12 (by decide), e 13 (by decide), e 14 (by decide), a9, a10, a11, pk_us]
    exact ⟨b1, b2, b3, b4, by simp, pair_more b6, b7, b8⟩
theorem mh_addV {sc sc2 : Nat → Int32} {ar ar2 : Nat → Nat → Int32} {hs : HSt} {j p s : Nat} (hh : MoH sc ar hs) (hv : VH hs) (hj : j < hs.2.1.length) (hl : (hs.2.1.getD j sz0).2.2.2.2.2.length < 4) (h4 : sc2 4 = sc 4) (h1 : sc2 1 = sc 1) (h15 : sc2 15 = sc 15) (h18 : sc2 18 = sc 18) (e : ∀ g, g ≤ 11 ∨ 15 ≤ g → ar2 g = ar g) (a12 : ar2 12 = upd (ar 12) j (nI ((hs.2.1.getD j sz0).2.2.2.2.2.length + 1))) (a13 : ar2 13 = upd (ar 13) (4 * j + (hs.2.1.getD j sz0).2.2.2.2.2.length) (nI p)) (a14 : ar2 14 = upd (ar 14) (4 * j + (hs.2.1.getD j sz0).2.2.2.2.2.length) (nI s)) : MoH sc2 ar2 (addV hs j p s) := by
  refine mh_setS hh hj h4 h1 h15 h18 (fun g q => e g (by omega)) (fun i ne hi q => ?_) (fun q => ?_)
  · obtain ⟨b1, b2, b3, b4, b5, b6, b7, b8⟩ := q
    have hil := (hv.s hi).2.2.2.2.2.2.2.2.1
    unfold StpOK
    rw [e 5 (by decide), e 6 (by decide), e 7 (by decide), e 8 (by decide), e 9 (by decide), e 10 (by decide), e 11 (by decide), a12, a13, a14, pk_un ne]
    exact ⟨b1, b2, b3, b4, b5, b6, b7, pair_else (fun m hm => by omega) b8⟩
  · obtain ⟨b1, b2, b3, b4, b5, b6, b7, b8⟩ := q
    unfold StpOK
    rw [e 5 (by decide), e 6 (by decide), e 7 (by decide), e 8 (by decide), e 9 (by decide), e 10 (by decide), e 11 (by decide), a12, a13, a14, pk_us]
    exact ⟨b1, b2, b3, b4, b5, b6, by simp, pair_more b8⟩
theorem mh_addG {sc sc2 : Nat → Int32} {ar ar2 : Nat → Nat → Int32} {hs : HSt} {p s : Nat} (hh : MoH sc ar hs) (h4 : sc2 4 = sc 4) (h1 : sc2 1 = sc 1) (h15 : sc2 15 = nI (hs.2.2.1.length + 1)) (h18 : sc2 18 = sc 18) (e : ∀ g, g ≤ 15 ∨ 18 ≤ g → ar2 g = ar g) (a16 : ar2 16 = upd (ar 16) hs.2.2.1.length (nI p)) (a17 : ar2 17 = upd (ar 17) hs.2.2.1.length (nI s)) : MoH sc2 ar2 (addG hs p s) := by
  refine MoH.mk (h1.trans hh.1.1) (h4.trans hh.1.2.1) (by rw [h15]; simp [addG]) (h18.trans hh.1.2.2.2) (fun i hi => PrpOK.eq (hh.2.1 i hi) (e _ (by decide)) (e _ (by decide)) (e _ (by decide)) (e _ (by decide)) (e _ (by decide)) (e _ (by decide))) (fun j hj => StpOK.eq (hh.2.2.1 j hj) (fun g q1 q2 => e g (by omega))) ?_
  have := pair_more (p := p) (s := s) (b := 0) (f := ar 16) (g := ar 17) (l := hs.2.2.1) (fun m hm => by rw [Nat.zero_add]; exact hh.2.2.2 m hm)
  intro m hm
  have h9 := this m hm
  rw [Nat.zero_add, Nat.zero_add] at h9
  rw [a16, a17]; exact h9
theorem mh_setH {sc sc2 : Nat → Int32} {ar : Nat → Nat → Int32} {hs : HSt} {n : Nat} (hh : MoH sc ar hs) (h4 : sc2 4 = sc 4) (h1 : sc2 1 = sc 1) (h15 : sc2 15 = sc 15) (h18 : sc2 18 = nI n) : MoH sc2 ar (setH hs n) := ⟨⟨h1.trans hh.1.1, h4.trans hh.1.2.1, h15.trans hh.1.2.2.1, h18⟩, hh.2⟩
theorem mh_setP {sc sc2 : Nat → Int32} {ar ar2 : Nat → Nat → Int32} {hs : HSt} {j : Nat} {g : PSt → PSt} (hh : MoH sc ar hs) (hj : j < hs.1.length) (h4 : sc2 4 = sc 4) (h1 : sc2 1 = sc 1) (h15 : sc2 15 = sc 15) (h18 : sc2 18 = sc 18) (e : ∀ g, 5 ≤ g → g ≤ 17 → ar2 g = ar g) (ho : ∀ i, i ≠ j → i < hs.1.length → PrpOK ar i (hs.1.getD i pz) → PrpOK ar2 i (hs.1.getD i pz)) (hn : PrpOK ar j (hs.1.getD j pz) → PrpOK ar2 j (g (hs.1.getD j pz))) : MoH sc2 ar2 (setP hs j g) := by
  refine MoH.mk ?_ (h4.trans hh.1.2.1) (h15.trans hh.1.2.2.1) (h18.trans hh.1.2.2.2) ?_ (fun j hj => StpOK.eq (hh.2.2.1 j hj) (fun g q1 q2 => e g q1 (by omega))) (fun m hm => by rw [e 16 (by decide) (by decide), e 17 (by decide) (by decide)]; exact hh.2.2.2 m hm)
  · rw [h1, hh.1.1]; simp [setP]
  · intro i hi
    have hi2 : i < hs.1.length := by simpa [setP] using hi
    show PrpOK ar2 i ((hs.1.set j _).getD i pz)
    rw [gd_set hj]
    by_cases ei : i = j
    · subst ei; rw [if_pos rfl]; exact hn (hh.2.1 _ hi2)
    · rw [if_neg ei]; exact ho i ei hi2 (hh.2.1 _ hi2)
