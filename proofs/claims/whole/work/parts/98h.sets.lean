/-! rules, exits and readings change nothing that is charted -/
section SPX
variable {hs : HSt} {i : Nat} {g : PSt → PSt}
theorem sp_rowc (hg : ∀ q, (g q).1 = q.1 ∧ (g q).2.1 = q.2.1) (hi : i < hs.1.length) : rowc (setP hs i g) = rowc hs := by
  have hg1 : ∀ q, (g q).1 = q.1 := fun q => (hg q).1
  funext t c n
  induction n with
  | zero => rfl
  | succ n ih => simp only [rowc, ind, sp_opn hg1 hi, sp_aft hg1 hi, ih]
theorem sp_colc (hg : ∀ q, (g q).1 = q.1 ∧ (g q).2.1 = q.2.1) (hi : i < hs.1.length) : colc (setP hs i g) = colc hs := by
  funext p t n
  induction n with
  | zero => rfl
  | succ n ih => simp only [colc, sp_rowc hg hi, ih]; rfl
theorem sp_kst (hg : ∀ q, (g q).1 = q.1 ∧ (g q).2.1 = q.2.1) (hi : i < hs.1.length) : kst (setP hs i g) = kst hs := by
  have hg1 : ∀ q, (g q).1 = q.1 := fun q => (hg q).1
  funext c sum s st
  unfold kst
  rw [sp_opn hg1 hi, sp_aft hg1 hi]; rfl
theorem sp_krow (hg : ∀ q, (g q).1 = q.1 ∧ (g q).2.1 = q.2.1) (hi : i < hs.1.length) : krow (setP hs i g) = krow hs := by
  funext c sum n
  induction n with
  | zero => rfl
  | succ n ih => funext st; show kst (setP hs i g) c sum n (krow (setP hs i g) c sum n st) = kst hs c sum n (krow hs c sum n st); rw [ih, sp_kst hg hi]
theorem sp_kz (hg : ∀ q, (g q).1 = q.1 ∧ (g q).2.1 = q.2.1) (hi : i < hs.1.length) : kz (setP hs i g) = kz hs := by
  have hg1 : ∀ q, (g q).1 = q.1 := fun q => (hg q).1
  unfold kz
  rw [sp_colc hg hi, sp_rch hg hi, sp_hsta hg hi, sp_hall hg1 hi]
theorem sp_kS (hg : ∀ q, (g q).1 = q.1 ∧ (g q).2.1 = q.2.1) (hi : i < hs.1.length) : kS (setP hs i g) = kS hs := by
  funext n
  induction n with
  | zero => show (kz (setP hs i g), 0) = (kz hs, 0); rw [sp_kz hg hi]
  | succ n ih =>
    show (if n < (kS (setP hs i g) n).1.1.length then (krow (setP hs i g) ((kS (setP hs i g) n).1.1.getD n 0) ((kS (setP hs i g) n).1.2.2 ((kS (setP hs i g) n).1.1.getD n 0)) hs.2.1.length (kS (setP hs i g) n).1, max (kS (setP hs i g) n).2 ((kS (setP hs i g) n).1.2.2 ((kS (setP hs i g) n).1.1.getD n 0))) else kS (setP hs i g) n) = _
    rw [ih, sp_krow hg hi]; rfl
theorem sp_lng (hg : ∀ q, (g q).1 = q.1 ∧ (g q).2.1 = q.2.1) (hi : i < hs.1.length) : lng (setP hs i g) = lng hs := by
  have hg1 : ∀ q, (g q).1 = q.1 := fun q => (hg q).1
  unfold lng
  rw [sp_kS hg hi, sp_rch hg hi, sp_hall hg1 hi]
theorem sp_opb (hg : ∀ q, (g q).1 = q.1) (hi : i < hs.1.length) : opb (setP hs i g) = opb hs := by
  funext c
  unfold opb
  rw [sp_opn hg hi]; rfl
theorem sp_lsI (hg : ∀ q, (g q).1 = q.1) (hi : i < hs.1.length) : lsI (setP hs i g) = lsI hs := by
  funext c
  unfold lsI isO
  rw [sp_far hg hi]
theorem sp_WIv {most : Nat} {fl : WFl} {L : List Nat} {ar : Nat → Nat → Int32} (hg : ∀ q, (g q).1 = q.1 ∧ (g q).2.1 = q.2.1) (hi : i < hs.1.length) (h : WIv hs most fl L ar) : WIv (setP hs i g) most fl L ar := by
  have hg1 : ∀ q, (g q).1 = q.1 := fun q => (hg q).1
  obtain ⟨h1, h2, h3⟩ := h
  refine ⟨fun q => ?_, fun q => ?_, fun q => ?_⟩
  · obtain ⟨k1, k2, k3, k4⟩ := h1 q
    refine ⟨by rw [sp_hall hg1 hi]; exact k1, k2, fun c => ?_, by rw [sp_opb hg1 hi]; exact k4⟩
    rw [k3 c, ← rcs_iff, ← rcs_iff]
    show rch hs c = true ↔ rch (setP hs i g) c = true
    rw [sp_rch hg hi]
  · obtain ⟨k1, k2, k3⟩ := h2 q
    exact ⟨k1, by rw [sp_hall hg1 hi, sp_opb hg1 hi]; exact k2, by rw [sp_hall hg1 hi, sp_lsI hg1 hi]; exact k3⟩
  · obtain ⟨k1, k2⟩ := h3 q
    exact ⟨k1, by rw [sp_lng hg hi]; exact k2⟩
theorem ho_setP {h h2 : Nat → Option aC} {ad : AD} (ho : HoA h hs ad (hsta hs)) (hv : VH hs) (hg : ∀ q, (g q).1 = q.1 ∧ (g q).2.1 = q.2.1) (hi : i < hs.1.length) (f : Fr [200 + i] h h2) (hn : h2 (ad.2.2.2.2.1.getD i 0) = some (ob (200 + i) 6 (pfl (setP hs i g).1 i))) : HoA h2 (setP hs i g) ad (hsta (setP hs i g)) := by
  have hg1 : ∀ q, (g q).1 = q.1 := fun q => (hg q).1
  have hp12 := hv.1.1
  have hs24 := hv.2.1
  obtain ⟨g1, g2, g3, g4, g5, g6⟩ := ho
  refine ⟨?_, g2.fr f (by rw [List.mem_singleton]; omega) (by rw [List.mem_singleton]; omega), g3.fr f (by rw [List.mem_singleton]; omega) (by rw [List.mem_singleton]; omega), g4.fr f (fun x hx => by rw [List.mem_singleton]; omega), ⟨?_, fun j hj => ?_⟩, ?_⟩
  · rw [sp_hall hg1 hi, sp_hsta hg hi]; exact f _ _ g1 (by rw [List.mem_singleton]; show ¬ 2 = 200 + i; omega)
  · rw [g5.1]; exact List.length_set.symm
  · have hj2 : j < hs.1.length := by
      have : j < (hs.1.set i (g (hs.1.getD i pz))).length := hj
      rw [List.length_set] at this; exact this
    by_cases e : j = i
    · subst e; exact hn
    · have e2 : pfl (setP hs i g).1 j = pfl hs.1 j := by
        unfold pfl
        rw [gd_setP hi, if_neg e]
        show [_, _, _, Value.int (nI (prd ((pks (hs.1.set i (g (hs.1.getD i pz)))).take j))), _, _, _, _] = _
        rw [pk_setP hg1 hi]
      rw [e2]
      exact f _ _ (g5.2 j hj2) (by rw [List.mem_singleton]; show ¬ 200 + j = 200 + i; omega)
  · have g7 := g6.fr f (fun x h1 h2 => by rw [List.mem_singleton]; omega)
    refine ⟨g7.1, fun j hj => ?_⟩
    obtain ⟨na, ga, k1, k2, k3⟩ := g7.2 j hj
    refine ⟨na, ga, ?_, k2, k3⟩
    rw [sp_swt hg1 hi]; exact k1
theorem cl_setP {h h2 : Nat → Option aC} {x : Nat} {B : LB} {ad : AD} {A : Nat → Nat} {most : Nat} {fl : WFl} {L L2 : List Nat} {ar : Nat → Nat → Int32} {n : Nat} {gs : List GSt} {lg : Lg} {xs : List Int32} {cap : Nat} (hc : CL h x B hs ad A most fl L L2 ar n gs lg xs cap) (hv : VH hs) (hg : ∀ q, (g q).1 = q.1 ∧ (g q).2.1 = q.2.1) (hi : i < hs.1.length) (f : Fr [200 + i] h h2) (hn : h2 (ad.2.2.2.2.1.getD i 0) = some (ob (200 + i) 6 (pfl (setP hs i g).1 i))) : CL h2 x B (setP hs i g) ad A most fl L L2 ar n gs lg xs cap :=
  have hp12 := hv.1.1
  ⟨hc.1.fr f (fun y hy => by rw [List.mem_singleton]; omega), ho_setP hc.2.1 hv hg hi f hn, hc.2.2.1, hc.2.2.2.1.fr f (fun y hy => by rw [List.mem_singleton]; simp only [WTg, List.mem_cons, List.not_mem_nil, or_false] at hy; omega), sp_WIv hg hi hc.2.2.2.2⟩
end SPX
/-! pairs of a step, of the end -/
theorem ho_setS {h h2 : Nat → Option aC} {hs : HSt} {ad : AD} {sta j na ga : Nat} {g : SSt → SSt} {T : List Nat} (ho : HoA h hs ad sta) (hv : VH hs) (hj : j < hs.2.1.length) (hg : ∀ q, (g q).1 = q.1 ∧ (g q).2.1 = q.2.1 ∧ (g q).2.2.1 = q.2.2.1 ∧ (g q).2.2.2.1 = q.2.2.2.1) (f : Fr T h h2) (ht : ∀ y ∈ T, 301 + 20 * j ≤ y ∧ y ≤ 309 + 20 * j) (s1 : h (ad.2.2.2.2.2.getD j 0) = some (ob (300 + 20 * j) 8 [.int (nI (hs.2.1.getD j sz0).1), .int (nI (hs.2.1.getD j sz0).2.1), .int (nI (hs.2.1.getD j sz0).2.2.1), .int (nI (hs.2.1.getD j sz0).2.2.2.1), .ref na, .ref ga, .int (nI (swt hs.1 hs.2.1 j))])) (s2 : PaA (301 + 20 * j) h2 na 4 (g (hs.2.1.getD j sz0)).2.2.2.2.1 ad.2.2.2.2.1) (s3 : PaA (306 + 20 * j) h2 ga 4 (g (hs.2.1.getD j sz0)).2.2.2.2.2 ad.2.2.2.2.1) : HoA h2 (setS hs j g) ad sta := by
  have hg1 : ∀ q, (g q).1 = q.1 := fun q => (hg q).1
  have hp12 := hv.1.1
  have hs24 := hv.2.1
  obtain ⟨g1, g2, g3, g4, g5, g6⟩ := ho
  have no : ∀ y, (y < 301 + 20 * j ∨ 309 + 20 * j < y) → y ∉ T := fun y hy hm => by have := ht y hm; omega
  refine ⟨?_, g2.fr f (no _ (by omega)) (no _ (by omega)), g3.fr f (no _ (by omega)) (no _ (by omega)), g4.fr f (fun x hx => no _ (by omega)), ⟨g5.1, fun i (hi : i < hs.1.length) => f _ _ (g5.2 i hi) (no (200 + i) (by omega))⟩, ?_, fun k hk => ?_⟩
  · rw [hall_setS hg1 hj]; exact f _ _ g1 (no 2 (by omega))
  · rw [g6.1]; exact List.length_set.symm
  · have hk2 : k < hs.2.1.length := by
      have : k < (hs.2.1.set j (g (hs.2.1.getD j sz0))).length := hk
      rw [List.length_set] at this; exact this
    have es : swt hs.1 (setS hs j g).2.1 k = swt hs.1 hs.2.1 k := swt_k (kds_set hg1 hj) k
    have eg : (setS hs j g).2.1.getD k sz0 = if k = j then g (hs.2.1.getD j sz0) else hs.2.1.getD k sz0 := gd_set hj
    show ∃ na ga : Nat, h2 (ad.2.2.2.2.2.getD k 0) = some (ob (300 + 20 * k) 8 [.int (nI ((setS hs j g).2.1.getD k sz0).1), .int (nI ((setS hs j g).2.1.getD k sz0).2.1), .int (nI ((setS hs j g).2.1.getD k sz0).2.2.1), .int (nI ((setS hs j g).2.1.getD k sz0).2.2.2.1), .ref na, .ref ga, .int (nI (swt hs.1 (setS hs j g).2.1 k))]) ∧ PaA (301 + 20 * k) h2 na 4 ((setS hs j g).2.1.getD k sz0).2.2.2.2.1 ad.2.2.2.2.1 ∧ PaA (306 + 20 * k) h2 ga 4 ((setS hs j g).2.1.getD k sz0).2.2.2.2.2 ad.2.2.2.2.1
    rw [es, eg]
    by_cases e : k = j
    · subst e
      rw [if_pos rfl, (hg _).1, (hg _).2.1, (hg _).2.2.1, (hg _).2.2.2]
      exact ⟨na, ga, f _ _ s1 (no (300 + 20 * k) (by omega)), s2, s3⟩
    · rw [if_neg e]
      obtain ⟨na9, ga9, k1, k2, k3⟩ := g6.2 k hk2
      exact ⟨na9, ga9, f _ _ k1 (no (300 + 20 * k) (by omega)), k2.fr f (fun x hx => no _ (by omega)), k3.fr f (fun x hx => no _ (by omega))⟩
theorem ho_addG {h h2 : Nat → Option aC} {hs : HSt} {ad : AD} {sta p s : Nat} {T : List Nat} (ho : HoA h hs ad sta) (f : Fr T h h2) (ht : ∀ y ∈ T, 7 ≤ y ∧ y ≤ 10) (s2 : PaA 7 h2 ad.2.2.2.1 6 (hs.2.2.1 ++ [(p, s)]) ad.2.2.2.2.1) : HoA h2 (addG hs p s) ad sta := by
  obtain ⟨g1, g2, g3, g4, g5, g6⟩ := ho
  have no : ∀ y, (y < 7 ∨ 10 < y) → y ∉ T := fun y hy hm => by have := ht y hm; omega
  exact ⟨f _ _ g1 (no 2 (by omega)), g2.fr f (no _ (by omega)) (no _ (by omega)), g3.fr f (no _ (by omega)) (no _ (by omega)), s2, ⟨g5.1, fun i hi => f _ _ (g5.2 i hi) (no (200 + i) (by omega))⟩, g6.fr f (fun x h1 h2 => no x (by omega))⟩
