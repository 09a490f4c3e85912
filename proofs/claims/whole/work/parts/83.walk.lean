/-! Walk over a house -/
section HOX
variable {G : aG} {nx : Nat} {h : Nat → Option aC} {hs : HSt} {ad : AD} {sta : Nat}
theorem ho_ns (ho : HoA h hs ad sta) : AMet G m_AL_size 0 0 0 [.ref ad.2.2.1] (nx, h) (RV (.int (nI hs.2.1.length)) (nx, h)) := by
  have := l_size (G := G) (nx := nx) ho.2.2.1
  rw [ho.2.2.2.2.2.1] at this; exact this
theorem ho_np (ho : HoA h hs ad sta) : AMet G m_AL_size 0 0 0 [.ref ad.2.1] (nx, h) (RV (.int (nI hs.1.length)) (nx, h)) := by
  have := l_size (G := G) (nx := nx) ho.2.1
  rw [ho.2.2.2.2.1.1] at this; exact this
theorem ho_gs (ho : HoA h hs ad sta) {j : Nat} (hj : j < hs.2.1.length) : AMet G m_AL_get 2 0 0 [.ref ad.2.2.1, .int (nI j)] (nx, h) (RV (.ref (ad.2.2.2.2.2.getD j 0)) (nx, h)) := by
  have hl : j < ad.2.2.2.2.2.length := by rw [ho.2.2.2.2.2.1]; exact hj
  have := l_get (G := G) (nx := nx) ho.2.2.1 j hl
  rw [getD_len hl] at this; exact this
theorem ho_gp (ho : HoA h hs ad sta) {j : Nat} (hj : j < hs.1.length) : AMet G m_AL_get 2 0 0 [.ref ad.2.1, .int (nI j)] (nx, h) (RV (.ref (ad.2.2.2.2.1.getD j 0)) (nx, h)) := by
  have hl : j < ad.2.2.2.2.1.length := by rw [ho.2.2.2.2.1.1]; exact hj
  have := l_get (G := G) (nx := nx) ho.2.1 j hl
  rw [getD_len hl] at this; exact this
theorem ho_sl (ho : HoA h hs ad sta) : ∃ fs, h ad.2.2.1 = some (5, .inr (12, fs)) := Lsx.ob ho.2.2.1
theorem ho_pl (ho : HoA h hs ad sta) : ∃ fs, h ad.2.1 = some (3, .inr (12, fs)) := Lsx.ob ho.2.1
theorem ho_sc (ho : HoA h hs ad sta) {j : Nat} (hj : j < hs.2.1.length) : ∃ na ga : Nat, h (ad.2.2.2.2.2.getD j 0) = some (ob (300 + 20 * j) 8 [.int (nI (hs.2.1.getD j sz0).1), .int (nI (hs.2.1.getD j sz0).2.1), .int (nI (hs.2.1.getD j sz0).2.2.1), .int (nI (hs.2.1.getD j sz0).2.2.2.1), .ref na, .ref ga, .int (nI (swt hs.1 hs.2.1 j))]) ∧ PaA (301 + 20 * j) h na 4 (hs.2.1.getD j sz0).2.2.2.2.1 ad.2.2.2.2.1 ∧ PaA (306 + 20 * j) h ga 4 (hs.2.1.getD j sz0).2.2.2.2.2 ad.2.2.2.2.1 := ho.2.2.2.2.2.2 j hj
end HOX
abbrev WTg : List Nat := [30, 31, 32, 33, 34, 35, 36, 37, 38, 39, 40, 41, 42, 43]
theorem ht_w {T : List Nat} (h : ∀ x ∈ T, x ∈ WTg) : ∀ x, HT x → x ∉ T := by
  intro x hx hm
  have := h x hm
  simp only [WTg, List.mem_cons, List.not_mem_nil, or_false] at this
  unfold HT at hx
  omega
abbrev WFl : Type := Bool × Bool × Bool × Int32
def wfl (A : Nat → Nat) (most : Nat) (fl : WFl) : List Value := [.int (nI most), .ref (A 1), .ref (A 2), .ref (A 3), .ref (A 4), .ref (A 5), .ref (A 6), .ref (A 7), .int (bI fl.1), .int (bI fl.2.1), .int (bI fl.2.2.1), .int fl.2.2.2]
def WaS (h : Nat → Option aC) (A : Nat → Nat) (most : Nat) (fl : WFl) (L L2 : List Nat) (ar : Nat → Nat → Int32) (n : Nat) : Prop := h (A 0) = some (ob 30 9 (wfl A most fl)) ∧ LiA 31 h (A 1) most L ∧ h (A 3) = some (cI 34 most (ar 0)) ∧ LiA 35 h (A 4) most L2 ∧ h (A 5) = some (cI 38 most (ar 1)) ∧ h (A 6) = some (cI 39 most (ar 2)) ∧ HeS h (A 7) (A 8) (A 9) (A 10) most (ar 3) (ar 4) (ar 5) n ∧ most ≤ 20000
theorem WaS.fr {h h2 : Nat → Option aC} {A : Nat → Nat} {most : Nat} {fl : WFl} {L L2 : List Nat} {ar : Nat → Nat → Int32} {n : Nat} {T : List Nat} (hm : WaS h A most fl L L2 ar n) (hf : Fr T h h2) (ht : ∀ x ∈ WTg, x ∉ T) : WaS h2 A most fl L L2 ar n :=
  ⟨hf _ _ hm.1 (ht 30 (by decide)), hm.2.1.fr hf (fun x hx => ht _ (by rcases (show x = 0 ∨ x = 1 ∨ x = 2 by omega) with e | e | e <;> subst e <;> decide)), hf _ _ hm.2.2.1 (ht 34 (by decide)), hm.2.2.2.1.fr hf (fun x hx => ht _ (by rcases (show x = 0 ∨ x = 1 ∨ x = 2 by omega) with e | e | e <;> subst e <;> decide)), hf _ _ hm.2.2.2.2.1 (ht 38 (by decide)), hf _ _ hm.2.2.2.2.2.1 (ht 39 (by decide)), hm.2.2.2.2.2.2.1.fr hf (ht 40 (by decide)) (ht 41 (by decide)) (ht 42 (by decide)) (ht 43 (by decide)), hm.2.2.2.2.2.2.2⟩
def WkF (h0 h : Nat → Option aC) (hs : HSt) (ad : AD) (A : Nat → Nat) (most : Nat) (fl : WFl) (L L2 : List Nat) (ar : Nat → Nat → Int32) (n : Nat) : Prop := HoA h hs ad (hsta hs) ∧ A 2 = ad.1 ∧ WaS h A most fl L L2 ar n ∧ Fr WTg h0 h
section WKX
variable {h0 h h2 : Nat → Option aC} {hs : HSt} {ad : AD} {A : Nat → Nat} {most : Nat} {fl : WFl} {L L2 : List Nat} {ar : Nat → Nat → Int32} {n : Nat}
theorem WkF.hob (hm : WkF h0 h hs ad A most fl L L2 ar n) : h (A 2) = some (ob 2 3 [.ref ad.2.1, .ref ad.2.2.1, .ref ad.2.2.2.1, .int (nI hs.2.2.2), .int (nI (hall hs)), .int (nI (hsta hs))]) := by rw [hm.2.1]; exact hm.1.1
theorem WkF.Lr (hm : WkF h0 h hs ad A most fl L L2 ar n) : LiA 31 h (A 1) most L := hm.2.2.1.2.1
theorem WkF.Ll (hm : WkF h0 h hs ad A most fl L L2 ar n) : LiA 35 h (A 4) most L2 := hm.2.2.1.2.2.2.1
theorem WkF.a0 (hm : WkF h0 h hs ad A most fl L L2 ar n) : h (A 3) = some (cI 34 most (ar 0)) := hm.2.2.1.2.2.1
theorem WkF.a1 (hm : WkF h0 h hs ad A most fl L L2 ar n) : h (A 5) = some (cI 38 most (ar 1)) := hm.2.2.1.2.2.2.2.1
theorem WkF.a2 (hm : WkF h0 h hs ad A most fl L L2 ar n) : h (A 6) = some (cI 39 most (ar 2)) := hm.2.2.1.2.2.2.2.2.1
theorem WkF.He (hm : WkF h0 h hs ad A most fl L L2 ar n) : HeS h (A 7) (A 8) (A 9) (A 10) most (ar 3) (ar 4) (ar 5) n := hm.2.2.1.2.2.2.2.2.2.1
theorem WkF.mst (hm : WkF h0 h hs ad A most fl L L2 ar n) : most ≤ 20000 := hm.2.2.1.2.2.2.2.2.2.2
theorem WkF.reach {L9 : List Nat} (hm : WkF h0 h hs ad A most fl L L2 ar n) (hv : VH hs) (hl : LiA 31 h2 (A 1) most L9) (fr : Fr [31, 32, 33] h h2) : WkF h0 h2 hs ad A most fl L9 L2 ar n := by
  obtain ⟨a1, a2, ⟨b1, b2, b3, b4, b5, b6, b7, b8⟩, a4⟩ := hm
  exact ⟨a1.fr hv fr (ht_w (by decide)), a2, ⟨fr _ _ b1 (by simp), hl, fr _ _ b3 (by simp), b4.fr fr (fun x hx => by simp; omega), fr _ _ b5 (by simp), fr _ _ b6 (by simp), b7.fr fr (by decide) (by decide) (by decide) (by decide), b8⟩, a4.tr (fr.up (by decide))⟩
theorem WkF.line {L9 : List Nat} (hm : WkF h0 h hs ad A most fl L L2 ar n) (hv : VH hs) (hl : LiA 35 h2 (A 4) most L9) (fr : Fr [35, 36, 37] h h2) : WkF h0 h2 hs ad A most fl L L9 ar n := by
  obtain ⟨a1, a2, ⟨b1, b2, b3, b4, b5, b6, b7, b8⟩, a4⟩ := hm
  exact ⟨a1.fr hv fr (ht_w (by decide)), a2, ⟨fr _ _ b1 (by simp), b2.fr fr (fun x hx => by simp; omega), fr _ _ b3 (by simp), hl, fr _ _ b5 (by simp), fr _ _ b6 (by simp), b7.fr fr (by decide) (by decide) (by decide) (by decide), b8⟩, a4.tr (fr.up (by decide))⟩
def upH (ar : Nat → Nat → Int32) (fs fc fp : Nat → Int32) : Nat → Nat → Int32 := fun k => if k = 3 then fs else if k = 4 then fc else if k = 5 then fp else ar k
theorem WkF.heap {fs fc fp : Nat → Int32} {n2 : Nat} (hm : WkF h0 h hs ad A most fl L L2 ar n) (hv : VH hs) (hl : HeS h2 (A 7) (A 8) (A 9) (A 10) most fs fc fp n2) (fr : Fr HTg h h2) : WkF h0 h2 hs ad A most fl L L2 (upH ar fs fc fp) n2 := by
  obtain ⟨a1, a2, ⟨b1, b2, b3, b4, b5, b6, b7, b8⟩, a4⟩ := hm
  exact ⟨a1.fr hv fr (ht_w (by decide)), a2, ⟨fr _ _ b1 (by simp), b2.fr fr (fun x hx => by simp; omega), fr _ _ b3 (by simp), b4.fr fr (fun x hx => by simp; omega), fr _ _ b5 (by simp), fr _ _ b6 (by simp), hl, b8⟩, a4.tr (fr.up (by decide))⟩
theorem WkF.s0 {g : Nat → Int32} (hm : WkF h0 h hs ad A most fl L L2 ar n) (hv : VH hs) (hl : h2 (A 3) = some (cI 34 most g)) (fr : Fr [34] h h2) : WkF h0 h2 hs ad A most fl L L2 (ups ar 0 g) n := by
  obtain ⟨a1, a2, ⟨b1, b2, b3, b4, b5, b6, b7, b8⟩, a4⟩ := hm
  exact ⟨a1.fr hv fr (ht_w (by decide)), a2, ⟨fr _ _ b1 (by simp), b2.fr fr (fun x hx => by simp; omega), hl, b4.fr fr (fun x hx => by simp; omega), fr _ _ b5 (by simp), fr _ _ b6 (by simp), b7.fr fr (by decide) (by decide) (by decide) (by decide), b8⟩, a4.tr (fr.up (by decide))⟩
theorem WkF.s1 {g : Nat → Int32} (hm : WkF h0 h hs ad A most fl L L2 ar n) (hv : VH hs) (hl : h2 (A 5) = some (cI 38 most g)) (fr : Fr [38] h h2) : WkF h0 h2 hs ad A most fl L L2 (ups ar 1 g) n := by
  obtain ⟨a1, a2, ⟨b1, b2, b3, b4, b5, b6, b7, b8⟩, a4⟩ := hm
  exact ⟨a1.fr hv fr (ht_w (by decide)), a2, ⟨fr _ _ b1 (by simp), b2.fr fr (fun x hx => by simp; omega), fr _ _ b3 (by simp), b4.fr fr (fun x hx => by simp; omega), hl, fr _ _ b6 (by simp), b7.fr fr (by decide) (by decide) (by decide) (by decide), b8⟩, a4.tr (fr.up (by decide))⟩
theorem WkF.s2 {g : Nat → Int32} (hm : WkF h0 h hs ad A most fl L L2 ar n) (hv : VH hs) (hl : h2 (A 6) = some (cI 39 most g)) (fr : Fr [39] h h2) : WkF h0 h2 hs ad A most fl L L2 (ups ar 2 g) n := by
  obtain ⟨a1, a2, ⟨b1, b2, b3, b4, b5, b6, b7, b8⟩, a4⟩ := hm
  exact ⟨a1.fr hv fr (ht_w (by decide)), a2, ⟨fr _ _ b1 (by simp), b2.fr fr (fun x hx => by simp; omega), fr _ _ b3 (by simp), b4.fr fr (fun x hx => by simp; omega), fr _ _ b5 (by simp), hl, b7.fr fr (by decide) (by decide) (by decide) (by decide), b8⟩, a4.tr (fr.up (by decide))⟩
theorem WkF.flg {fl2 : WFl} (hm : WkF h0 h hs ad A most fl L L2 ar n) (hv : VH hs) (hl : h2 (A 0) = some (ob 30 9 (wfl A most fl2))) (fr : Fr [30] h h2) : WkF h0 h2 hs ad A most fl2 L L2 ar n := by
  obtain ⟨a1, a2, ⟨b1, b2, b3, b4, b5, b6, b7, b8⟩, a4⟩ := hm
  exact ⟨a1.fr hv fr (ht_w (by decide)), a2, ⟨hl, b2.fr fr (fun x hx => by simp; omega), fr _ _ b3 (by simp), b4.fr fr (fun x hx => by simp; omega), fr _ _ b5 (by simp), fr _ _ b6 (by simp), b7.fr fr (by decide) (by decide) (by decide) (by decide), b8⟩, a4.tr (fr.up (by decide))⟩
variable {G : aG} {My : MethodName} {Mc : ByteArray} {Ml : Nat} {Mr : Option FieldType} {d mc ms : Nat} {F : FT} {pc pc2 : Nat} {lv : List (Nat × Value)} {st : List Value} {k m nx : Nat}
theorem li_size {t a cap : Nat} {cs : List Nat} {idx : Nat} (hl : LiA t h a cap cs) (hd : DN Mc pc (.getfield idx) 3 pc2) (hf : FL My.cls idx 4 2) (kk : AW G (My, Mc, Ml, Mr) d mc ms F pc2 lv (.int (nI cs.length) :: st) (nx, h) k m) : AW G (My, Mc, Ml, Mr) d mc ms F pc lv (.ref a :: st) (nx, h) k m := by
  obtain ⟨ca, ma, f, g, q1, -⟩ := hl
  exact aw_get hd hf q1 rfl kk
theorem wk_st0 {i : Nat} {x : Int32} (hm : WkF h0 h hs ad A most fl L L2 ar n) (hv : VH hs) (hd : DN Mc pc .iastore 1 pc2) (hi : i < most) (kk : ∀ h2, WkF h0 h2 hs ad A most fl L L2 (ups ar 0 (upd (ar 0) i x)) n → AW G (My, Mc, Ml, Mr) d mc ms F pc2 lv st (nx, h2) k m) : AW G (My, Mc, Ml, Mr) d mc ms F pc lv (.int x :: .int (nI i) :: .ref (A 3) :: st) (nx, h) k m := by
  refine ci_st hd hm.a0 (by have := hm.mst; omega) hi ?_
  intro h1 e1 f1 _
  exact kk h1 (hm.s0 hv e1 f1)
theorem wk_st1 {i : Nat} {x : Int32} (hm : WkF h0 h hs ad A most fl L L2 ar n) (hv : VH hs) (hd : DN Mc pc .iastore 1 pc2) (hi : i < most) (kk : ∀ h2, WkF h0 h2 hs ad A most fl L L2 (ups ar 1 (upd (ar 1) i x)) n → AW G (My, Mc, Ml, Mr) d mc ms F pc2 lv st (nx, h2) k m) : AW G (My, Mc, Ml, Mr) d mc ms F pc lv (.int x :: .int (nI i) :: .ref (A 5) :: st) (nx, h) k m := by
  refine ci_st hd hm.a1 (by have := hm.mst; omega) hi ?_
  intro h1 e1 f1 _
  exact kk h1 (hm.s1 hv e1 f1)
theorem wk_st2 {i : Nat} {x : Int32} (hm : WkF h0 h hs ad A most fl L L2 ar n) (hv : VH hs) (hd : DN Mc pc .iastore 1 pc2) (hi : i < most) (kk : ∀ h2, WkF h0 h2 hs ad A most fl L L2 (ups ar 2 (upd (ar 2) i x)) n → AW G (My, Mc, Ml, Mr) d mc ms F pc2 lv st (nx, h2) k m) : AW G (My, Mc, Ml, Mr) d mc ms F pc lv (.int x :: .int (nI i) :: .ref (A 6) :: st) (nx, h) k m := by
  refine ci_st hd hm.a2 (by have := hm.mst; omega) hi ?_
  intro h1 e1 f1 _
  exact kk h1 (hm.s2 hv e1 f1)
end WKX
def opb (hs : HSt) (c : Nat) : Nat := orb (opn hs c) hs.2.1.length
theorem orb_f {p : Nat → Bool} : ∀ {n : Nat}, (∀ j, j < n → p j = false) → orb p n = 0
  | 0, _ => rfl
  | n + 1, h => by show (if _ then _ else _) = _; rw [h n (by omega)]; exact orb_f (n := n) (fun j hj => h j (by omega))
theorem orb_ext {p q : Nat → Bool} : ∀ {n : Nat}, (∀ j, j < n → p j = q j) → orb p n = orb q n
  | 0, _ => rfl
  | n + 1, h => by show (if _ then _ else _) = (if _ then _ else _); rw [h n (by omega), orb_ext (n := n) (fun j hj => h j (by omega))]
theorem ops_eq {hs : HSt} {c : Nat} : (if isE hs c then 0 else nI (orb (fun j => cdo hs c j hs.2.2.2) hs.2.1.length)) = nI (opb hs c) := by
  unfold opb
  cases e : isE hs c
  · rw [if_neg (by decide), orb_ext (q := opn hs c) (fun j _ => by unfold opn; rw [e]; rfl)]
  · rw [if_pos rfl, orb_f (fun j _ => by unfold opn; rw [e]; rfl)]; rfl
theorem orb_lt2 (p : Nat → Bool) {n : Nat} (hn : n ≤ 24) : orb p n < 2 ^ 24 := Nat.lt_pow_two_of_testBit (n := 24) _ (fun i hi => by rw [orb_bit]; simp; omega)
theorem opb_bit {hs : HSt} {c j : Nat} (hj : j < hs.2.1.length) : (opb hs c).testBit j = opn hs c j := by unfold opb; rw [orb_bit, decide_eq_true hj]; rfl
/-- what is charted; what is measured -/
def CHT (hs : HSt) (L : List Nat) (ar : Nat → Nat → Int32) : Prop := L.Nodup ∧ (∀ c, c ∈ L ↔ Rch hs (fun _ => false) c) ∧ ∀ c ∈ L, ar 0 c = nI (opb hs c)
def MSR (hs : HSt) (ar : Nat → Nat → Int32) : Prop := (∀ c, c < hall hs → ar 0 c = nI (opb hs c)) ∧ (∀ c, c < hall hs → ar 3 c = lsI hs c)
def WIv (hs : HSt) (most : Nat) (fl : WFl) (L : List Nat) (ar : Nat → Nat → Int32) : Prop := (fl.1 = true → hall hs ≤ most ∧ CHT hs L ar) ∧ (fl.2.1 = true → fl.1 = true ∧ MSR hs ar) ∧ (fl.2.2.1 = true → fl.1 = true ∧ fl.2.2.2 = lng hs)
theorem Rch.free {hs : HSt} {sh : Nat → Bool} {c : Nat} (h : Rch hs sh c) : Rch hs (fun _ => false) c := h (fun c => Rch hs (fun _ => false) c) (fun _ => Rch.start rfl) (fun c j hc hj ho _ => hc.step hj ho rfl)
set_option maxHeartbeats 4000000 in
set_option maxRecDepth 20000 in
theorem c_Walk_fits {G : aG} {nx : Nat} {h h0 : Nat → Option aC} {hs : HSt} {ad : AD} {A : Nat → Nat} {most : Nat} {fl : WFl} {L L2 : List Nat} {ar : Nat → Nat → Int32} {n : Nat} (hm : WkF h0 h hs ad A most fl L L2 ar n) (hv : VH hs) (x : Int32) : AMet G m_Walk_fits 0 0 0 [.ref (A 0), .int x] (nx, h) (RV (.int (bI (decide (0 ≤ x ∧ x < nI most)))) (nx, h)) := by
  have hp12 := hv.1.1
  have hs24 := hv.2.1
  have hall2 := hv.2.2.2.2.2.2.2
  have hmo := hm.mst
  refine amet_of pf_Walk_fits (Nat.le_of_ble_eq_true rfl) ?_
  show AW G m_Walk_fits 0 0 0 _ 0 [(0, .ref (A 0)), (1, .int x)] [] (nx, h) 0 0
  refine aw_iload_n (i := 1) d_Walk_fits_0 rfl rfl ?_
  refine aw_if_lt d_Walk_fits_1 (fun br1_ => ?_) (fun br1_ => ?_)
  · skip
    have hr_ : decide (0 ≤ x ∧ x < nI most) = false := decide_eq_false (fun q => absurd br1_ (Int32.not_lt.mpr q.1))
    refine aw_iconst (v := nI 0) d_Walk_fits_16 (by decide) ?_
    refine aw_zret d_Walk_fits_17 rfl rfl (Nat.le_refl _) (Nat.le_refl _) ?_
    exact ⟨by rw [hr_]; rfl, rfl⟩
  · skip
    refine aw_iload_n (i := 1) d_Walk_fits_4 rfl rfl ?_
    refine aw_aload_n (i := 0) d_Walk_fits_5 rfl rfl ?_
    apply aw_get d_Walk_fits_6 fl_Walk_21; exact hm.2.2.1.1; rfl
    refine aw_icmp_ge d_Walk_fits_9 (fun br9_ => ?_) (fun br9_ => ?_)
    · skip
      have hr_ : decide (0 ≤ x ∧ x < nI most) = false := decide_eq_false (fun q => absurd br9_ (Int32.not_le.mpr q.2))
      refine aw_iconst (v := nI 0) d_Walk_fits_16 (by decide) ?_
      refine aw_zret d_Walk_fits_17 rfl rfl (Nat.le_refl _) (Nat.le_refl _) ?_
      exact ⟨by rw [hr_]; rfl, rfl⟩
    · skip
      have hr_ : decide (0 ≤ x ∧ x < nI most) = true := decide_eq_true ⟨Int32.not_lt.mp br1_, Int32.not_le.mp br9_⟩
      refine aw_iconst (v := nI 1) d_Walk_fits_12 (by decide) ?_
      refine aw_goto d_Walk_fits_13 ?_
      refine aw_zret d_Walk_fits_17 rfl rfl (Nat.le_refl _) (Nat.le_refl _) ?_
      exact ⟨by rw [hr_]; rfl, rfl⟩

theorem w_fits {G : aG} {nx : Nat} {h h0 : Nat → Option aC} {hs : HSt} {ad : AD} {A : Nat → Nat} {most : Nat} {fl : WFl} {L L2 : List Nat} {ar : Nat → Nat → Int32} {n : Nat} (hm : WkF h0 h hs ad A most fl L L2 ar n) (hv : VH hs) {c : Nat} (hc : c < most) : AMet G m_Walk_fits 0 0 0 [.ref (A 0), .int (nI c)] (nx, h) (RV (.int (bI true)) (nx, h)) := by
  have := c_Walk_fits (G := G) (nx := nx) hm hv (nI c)
  rw [valid_j hc (by have := hm.mst; omega)] at this; exact this
set_option maxHeartbeats 4000000 in
set_option maxRecDepth 20000 in
theorem c_Walk_isOpen {G : aG} {nx : Nat} {h h0 : Nat → Option aC} {hs : HSt} {ad : AD} {A : Nat → Nat} {most : Nat} {fl : WFl} {L L2 : List Nat} {ar : Nat → Nat → Int32} {n : Nat} (hm : WkF h0 h hs ad A most fl L L2 ar n) (hv : VH hs) {c j : Nat} (hc : c < most) (hj : j < hs.2.1.length) (ho : ar 0 c = nI (opb hs c)) : AMet G m_Walk_isOpen 1 0 0 [.ref (A 0), .int (nI c), .int (nI j)] (nx, h) (RV (.int (bI (opn hs c j))) (nx, h)) := by
  have hp12 := hv.1.1
  have hs24 := hv.2.1
  have hall2 := hv.2.2.2.2.2.2.2
  have hmo := hm.mst
  refine amet_of pf_Walk_isOpen (Nat.le_of_ble_eq_true rfl) ?_
  show AW G m_Walk_isOpen 1 0 0 _ 0 [(0, .ref (A 0)), (1, .int (nI c)), (2, .int (nI j))] [] (nx, h) 0 0
  refine aw_aload_n (i := 0) d_Walk_isOpen_0 rfl rfl ?_
  refine aw_iload_n (i := 1) d_Walk_isOpen_1 rfl rfl ?_
  apply aw_callv_p (w_fits hm hv (c := c) hc) d_Walk_isOpen_2 cl_Walk_82; exact hm.2.2.1.1; rfl; rfl; rfl; rfl; decide; exact Nat.le_of_ble_eq_true rfl; exact (Nat.le_refl _); exact (Nat.le_refl _)
  refine aw_if_eq d_Walk_isOpen_5 (fun br5_ => absurd br5_ (by decide)) (fun br5_ => ?_)
  refine aw_aload_n (i := 0) d_Walk_isOpen_8 rfl rfl ?_
  apply aw_get d_Walk_isOpen_9 fl_Walk_34; exact hm.2.2.1.1; rfl
  refine aw_iload_n (i := 1) d_Walk_isOpen_12 rfl rfl ?_
  apply ci_ld d_Walk_isOpen_13; exact hm.a0; (have := hm.mst; omega); omega; exact ho
  refine aw_iload_n (i := 2) d_Walk_isOpen_14 rfl rfl ?_
  refine aw_ishr d_Walk_isOpen_15 ?_
  rw [shr_n (by have := orb_lt2 (opn hs c) hs24; unfold opb; omega) (by omega)]
  refine aw_iconst (v := nI 1) d_Walk_isOpen_16 (by decide) ?_
  refine aw_iand d_Walk_isOpen_17 ?_
  rw [and_1 (Nat.lt_of_le_of_lt (Nat.div_le_self _ _) (by have := orb_lt2 (opn hs c) hs24; unfold opb; omega))]
  refine aw_iconst (v := nI 1) d_Walk_isOpen_18 (by decide) ?_
  refine aw_icmpN_ne d_Walk_isOpen_19 (by omega) (by omega) (fun br19_ => ?_) (fun br19_ => ?_)
  · skip
    have hr_ : opn hs c j = false := by rw [← opb_bit hj]; exact tb_0.mp br19_
    refine aw_iconst (v := nI 0) d_Walk_isOpen_26 (by decide) ?_
    refine aw_zret d_Walk_isOpen_27 rfl rfl (Nat.le_refl _) (Nat.le_refl _) ?_
    exact ⟨by rw [hr_]; rfl, rfl⟩
  · skip
    have hr_ : opn hs c j = true := by rw [← opb_bit hj]; exact tb_1.mp br19_
    refine aw_iconst (v := nI 1) d_Walk_isOpen_22 (by decide) ?_
    refine aw_goto d_Walk_isOpen_23 ?_
    refine aw_zret d_Walk_isOpen_27 rfl rfl (Nat.le_refl _) (Nat.le_refl _) ?_
    exact ⟨by rw [hr_]; rfl, rfl⟩

set_option maxHeartbeats 4000000 in
set_option maxRecDepth 20000 in
theorem c_Walk_forget {G : aG} {nx : Nat} {h h0 : Nat → Option aC} {hs : HSt} {ad : AD} {A : Nat → Nat} {most : Nat} {fl : WFl} {L L2 : List Nat} {ar : Nat → Nat → Int32} {n : Nat} (hm : WkF h0 h hs ad A most fl L L2 ar n) (hv : VH hs)  : AMet G m_Walk_forget 0 0 0 [.ref (A 0)] (nx, h) (fun r w => r = none ∧ ∃ h2, w = (nx, h2) ∧ WkF h0 h2 hs ad A most (false, false, false, fl.2.2.2) L L2 ar n) := by
  have hp12 := hv.1.1
  have hs24 := hv.2.1
  have hall2 := hv.2.2.2.2.2.2.2
  have hmo := hm.mst
  refine amet_of pf_Walk_forget (Nat.le_of_ble_eq_true rfl) ?_
  show AW G m_Walk_forget 0 0 0 _ 0 [(0, .ref (A 0))] [] (nx, h) 0 0
  refine aw_aload_n (i := 0) d_Walk_forget_0 rfl rfl ?_
  refine aw_iconst (v := nI 0) d_Walk_forget_1 (by decide) ?_
  apply aw_put d_Walk_forget_2 pl_Walk_54; exact hm.2.2.1.1; exact Nat.le_of_ble_eq_true rfl; rfl; rfl
  refine aw_nm hm.2.2.1.1 ?_
  intro h1 e1_ f1_ o1_
  have hm := hm.flg (fl2 := (false, fl.2.1, fl.2.2.1, fl.2.2.2)) hv e1_ f1_
  refine aw_aload_n (i := 0) d_Walk_forget_5 rfl rfl ?_
  refine aw_iconst (v := nI 0) d_Walk_forget_6 (by decide) ?_
  apply aw_put d_Walk_forget_7 pl_Walk_58; exact hm.2.2.1.1; exact Nat.le_of_ble_eq_true rfl; rfl; rfl
  refine aw_nm hm.2.2.1.1 ?_
  intro h1 e1_ f1_ o1_
  have hm := hm.flg (fl2 := (false, false, fl.2.2.1, fl.2.2.2)) hv e1_ f1_
  refine aw_aload_n (i := 0) d_Walk_forget_10 rfl rfl ?_
  refine aw_iconst (v := nI 0) d_Walk_forget_11 (by decide) ?_
  apply aw_put d_Walk_forget_12 pl_Walk_61; exact hm.2.2.1.1; exact Nat.le_of_ble_eq_true rfl; rfl; rfl
  refine aw_nm hm.2.2.1.1 ?_
  intro h1 e1_ f1_ o1_
  have hm := hm.flg (fl2 := (false, false, false, fl.2.2.2)) hv e1_ f1_
  refine aw_vret d_Walk_forget_15 rfl (Nat.le_refl _) (Nat.le_refl _) ?_
  exact ⟨rfl, _, rfl, hm⟩

theorem nI_nm1 {n : Nat} (h : n < 2 ^ 31) : ¬ nI n = -1 := by
  intro e
  have := nI_pos (n := n) h
  rw [e] at this; exact this (by decide)
theorem so_eq {hs : HSt} (hv : VH hs) {c b t : Nat} (hb : b < hs.1.length) (ht : t < (hs.1.getD b pz).1) : decide (nI (dg (pks hs.1) c b) = nI t) = shn hs b t c := by
  unfold shn
  have hk := hv.1.k hb
  have hdl := dg_lt c b (by rw [pk_len]; exact hb) hv.1.pos
  rw [pk_at hb] at hdl
  rw [Bool.eq_iff_iff, decide_eq_true_eq, beq_iff_eq, nI_eq (by omega) (by omega)]
set_option maxHeartbeats 4000000 in
set_option maxRecDepth 20000 in
theorem c_Walk_joinBehindR {G : aG} {nx : Nat} {h h0 : Nat → Option aC} {hs : HSt} {ad : AD} {A : Nat → Nat} {most : Nat} {fl : WFl} {L L2 : List Nat} {ar : Nat → Nat → Int32} {n : Nat} (hm : WkF h0 h hs ad A most fl L L2 ar n) (hv : VH hs) {c i : Nat} (hc : c < hall hs) (hal2 : hall hs ≤ most) (ho : ar 0 c = nI (opb hs c)) (hB : Bfs hs (fun _ => false) L i 0) (hi : i < L.length) (hci : L.getD i 0 = c) : AMet G m_Walk_joinBehind 5 0 0 [.ref (A 0), .int (nI c), .ref (A 1), .int (-1), .int (-1)] (nx, h) (fun r w => r = none ∧ ∃ h2 L9, w = (nx, h2) ∧ WkF h0 h2 hs ad A most fl L9 L2 ar n ∧ Bfs hs (fun _ => false) L9 i hs.2.1.length ∧ ∃ e, L9 = L ++ e) := by
  have hp12 := hv.1.1
  have hs24 := hv.2.1
  have hall2 := hv.2.2.2.2.2.2.2
  have hmo := hm.mst
  refine amet_of pf_Walk_joinBehind (Nat.le_of_ble_eq_true rfl) ?_
  show AW G m_Walk_joinBehind 5 0 0 _ 0 [(0, .ref (A 0)), (1, .int (nI c)), (2, .ref (A 1)), (3, .int (-1)), (4, .int (-1))] [] (nx, h) 0 0
  refine aw_iconst (v := nI 0) d_Walk_joinBehind_0 (by decide) ?_
  refine aw_istore (lv2 := [(0, _), (1, _), (2, _), (3, _), (4, _), (5, _)]) d_Walk_joinBehind_1 (by decide) rfl ?_
  suffices k0_ : ∀ m, ∀ j (h1 : Nat → Option aC) (L9 : List Nat), m = hs.2.1.length - j → j ≤ hs.2.1.length → (WkF h0 h1 hs ad A most fl L9 L2 ar n ∧ Bfs hs (fun _ => false) L9 i j ∧ L9.getD i 0 = c ∧ i < L9.length ∧ (∃ e, L9 = L ++ e)) → AW G m_Walk_joinBehind 5 0 0 _ 3 [(0, .ref (A 0)), (1, .int (nI c)), (2, .ref (A 1)), (3, .int (-1)), (4, .int (-1)), (5, .int (nI j))] [] (nx, h1) 0 0 from k0_ _ 0 _ L rfl (Nat.zero_le _) ⟨hm, hB, hci, hi, [], by simp⟩
  clear hm hB hci hi
  intro m
  refine Nat.strongRecOn (motive := fun m => ∀ j (h1 : Nat → Option aC) (L9 : List Nat), m = hs.2.1.length - j → j ≤ hs.2.1.length → (WkF h0 h1 hs ad A most fl L9 L2 ar n ∧ Bfs hs (fun _ => false) L9 i j ∧ L9.getD i 0 = c ∧ i < L9.length ∧ (∃ e, L9 = L ++ e)) → AW G m_Walk_joinBehind 5 0 0 _ 3 [(0, .ref (A 0)), (1, .int (nI c)), (2, .ref (A 1)), (3, .int (-1)), (4, .int (-1)), (5, .int (nI j))] [] (nx, h1) 0 0) m (fun m ih => ?_)
  intro j h L9 hme hjl hI
  obtain ⟨hm, hB, hci, hi, hex⟩ := hI
  refine aw_iload d_Walk_joinBehind_3 rfl ?_
  refine aw_aload_n (i := 0) d_Walk_joinBehind_5 rfl rfl ?_
  apply aw_get d_Walk_joinBehind_6 fl_Walk_9; exact hm.2.2.1.1; rfl
  rw [hm.2.1]
  apply aw_get d_Walk_joinBehind_9 fl_Walk_93; exact hm.1.1; rfl
  apply aw_callv_p (ho_ns hm.1) d_Walk_joinBehind_12 cl_Walk_97; exact (ho_sl hm.1).choose_spec; rfl; rfl; rfl; rfl; decide; exact Nat.le_of_ble_eq_true rfl; exact (Nat.le_refl _); exact (Nat.le_refl _)
  refine aw_icmpN_ge d_Walk_joinBehind_15 (by omega) (by omega) (fun br15_ => ?_) (fun br15_ => ?_)
  · skip
    have ej : j = hs.2.1.length := by omega
    subst ej
    refine aw_vret d_Walk_joinBehind_86 rfl (Nat.le_refl _) (Nat.le_refl _) ?_
    exact ⟨rfl, h, L9, rfl, hm, hB, hex⟩
  · skip
    refine aw_aload_n (i := 0) d_Walk_joinBehind_18 rfl rfl ?_
    refine aw_iload_n (i := 1) d_Walk_joinBehind_19 rfl rfl ?_
    refine aw_iload d_Walk_joinBehind_20 rfl ?_
    apply aw_callv_p (c_Walk_isOpen hm hv (c := c) (j := j) (by omega) br15_ ho) d_Walk_joinBehind_22 cl_Walk_102; exact hm.2.2.1.1; rfl; rfl; rfl; rfl; decide; exact Nat.le_of_ble_eq_true rfl; exact (Nat.le_refl _); exact (Nat.le_refl _)
    refine aw_ifB_eq d_Walk_joinBehind_25 (fun br25_ => ?_) (fun br25_ => ?_)
    · skip
      have hB2 := hB.skip (fun q => by rw [hci, br25_] at q; cases q)
      refine aw_iconst (v := -1) d_Walk_joinBehind_50 (by decide) ?_
      refine aw_istore (lv2 := [(0, _), (1, _), (2, _), (3, _), (4, _), (5, _), (6, _)]) d_Walk_joinBehind_51 (by decide) rfl ?_
      refine aw_iload d_Walk_joinBehind_53 rfl ?_
      refine aw_iconst (v := -1) d_Walk_joinBehind_55 (by decide) ?_
      refine aw_icmp_eq d_Walk_joinBehind_56 (fun br56_ => ?_) (fun br56_ => absurd rfl br56_)
      refine aw_iincN (lv2 := [(0, _), (1, _), (2, _), (3, _), (4, _), (5, _), (6, _)]) d_Walk_joinBehind_80 (by decide) rfl rfl ?_
      refine aw_goto d_Walk_joinBehind_83 ?_
      refine aw_drop (lv2 := [(0, _), (1, _), (2, _), (3, _), (4, _), (5, _)]) [0, 1, 2, 3, 4, 5] rfl ?_
      exact ih _ (by omega) (j + 1) _ L9 rfl (by omega) ⟨hm, hB2, hci, hi, hex⟩
    · skip
      have hal := aft_lt hv hc br15_
      obtain ⟨na, ga, k1, k2, k3⟩ := ho_sc hm.1 br15_
      refine aw_aload_n (i := 0) d_Walk_joinBehind_28 rfl rfl ?_
      apply aw_get d_Walk_joinBehind_29 fl_Walk_9; exact hm.2.2.1.1; rfl
      rw [hm.2.1]
      apply aw_get d_Walk_joinBehind_32 fl_Walk_93; exact hm.1.1; rfl
      refine aw_iload d_Walk_joinBehind_35 rfl ?_
      apply aw_callv_p (ho_gs hm.1 (j := j) br15_) d_Walk_joinBehind_37 cl_Walk_106; exact (ho_sl hm.1).choose_spec; rfl; rfl; rfl; rfl; decide; exact Nat.le_of_ble_eq_true rfl; exact (Nat.le_refl _); exact (Nat.le_refl _)
      apply aw_cast d_Walk_joinBehind_40; exact k1; rfl; exact cc_Walk_110
      refine aw_iload_n (i := 1) d_Walk_joinBehind_43 rfl rfl ?_
      apply aw_callv_p (c_Step_codeAfter hm.1 hv hc br15_) d_Walk_joinBehind_44 cl_Walk_112; exact k1; rfl; rfl; rfl; rfl; decide; exact Nat.le_of_ble_eq_true rfl; exact (Nat.le_refl _); exact (Nat.le_refl _)
      refine aw_goto d_Walk_joinBehind_47 ?_
      refine aw_istore (lv2 := [(0, _), (1, _), (2, _), (3, _), (4, _), (5, _), (6, _)]) d_Walk_joinBehind_51 (by decide) rfl ?_
      refine aw_iload d_Walk_joinBehind_53 rfl ?_
      refine aw_iconst (v := -1) d_Walk_joinBehind_55 (by decide) ?_
      refine aw_icmp_eq d_Walk_joinBehind_56 (fun br56_ => absurd br56_ (nI_nm1 (Nat.lt_of_lt_of_le hal (by omega)))) (fun br56_ => ?_)
      refine aw_aload_n (i := 0) d_Walk_joinBehind_59 rfl rfl ?_
      apply aw_get d_Walk_joinBehind_60 fl_Walk_9; exact hm.2.2.1.1; rfl
      rw [hm.2.1]
      refine aw_iload d_Walk_joinBehind_63 rfl ?_
      refine aw_iload_n (i := 3) d_Walk_joinBehind_65 rfl rfl ?_
      refine aw_iload d_Walk_joinBehind_66 rfl ?_
      apply aw_callv_p (c_House_isSoN hm.1 hv (nI (aft hs c j)) (-1) (-1) (by decide)) d_Walk_joinBehind_68 cl_Walk_115; exact hm.1.1; rfl; rfl; rfl; rfl; decide; exact Nat.le_of_ble_eq_true rfl; exact (Nat.le_refl _); exact (Nat.le_refl _)
      refine aw_if_ne d_Walk_joinBehind_71 (fun br71_ => absurd rfl br71_) (fun br71_ => ?_)
      refine aw_aload_n (i := 2) d_Walk_joinBehind_74 rfl rfl ?_
      refine aw_iload d_Walk_joinBehind_75 rfl ?_
      apply aw_callv d_Walk_joinBehind_77 cl_Walk_72 (c_Line_join hm.Lr (c := aft hs c j) (by omega)); exact hm.Lr.ob.choose_spec; rfl; rfl; rfl; rfl; decide; exact (Nat.le_refl _); exact (Nat.le_refl _); exact Nat.le_of_ble_eq_true rfl
      rintro _ _ ⟨rfl, h3, rfl, hl3, fr3⟩
      have hm3 := hm.reach hv hl3 fr3
      have hLb := hB.len hv
      refine aw_iincN (lv2 := [(0, _), (1, _), (2, _), (3, _), (4, _), (5, _), (6, _)]) d_Walk_joinBehind_80 (by decide) rfl rfl ?_
      refine aw_goto d_Walk_joinBehind_83 ?_
      refine aw_drop (lv2 := [(0, _), (1, _), (2, _), (3, _), (4, _), (5, _)]) [0, 1, 2, 3, 4, 5] rfl ?_
      by_cases hin : aft hs c j ∈ L9
      · rw [if_pos (Or.inl hin)] at hm3
        exact ih _ (by omega) (j + 1) _ L9 rfl (by omega) ⟨hm3, hB.skip (fun _ _ => by rw [hci]; exact hin), hci, hi, hex⟩
      · have hBj := hB.join hi br15_ (by rw [hci]; exact br25_) rfl (by rw [hci]; exact hin)
        rw [hci] at hBj
        have hln := hBj.len hv
        simp only [List.length_append, List.length_singleton] at hln
        rw [if_neg (fun q => q.elim hin (fun q => by omega))] at hm3
        obtain ⟨ex, rfl⟩ := hex
        exact ih _ (by omega) (j + 1) _ _ rfl (by omega) ⟨hm3, hBj, by rw [gd_app hi]; exact hci, by simp at hi ⊢; omega, ⟨ex ++ [aft hs c j], by simp⟩⟩

set_option maxHeartbeats 4000000 in
set_option maxRecDepth 20000 in
theorem c_Walk_joinBehindL {G : aG} {nx : Nat} {h h0 : Nat → Option aC} {hs : HSt} {ad : AD} {A : Nat → Nat} {most : Nat} {fl : WFl} {L L2 : List Nat} {ar : Nat → Nat → Int32} {n : Nat} (hm : WkF h0 h hs ad A most fl L L2 ar n) (hv : VH hs) {b t : Nat} (hb : b < hs.1.length) (htl : t < (hs.1.getD b pz).1) {c i : Nat} (hc : c < hall hs) (hal2 : hall hs ≤ most) (ho : ar 0 c = nI (opb hs c)) (hB : Bfs hs (shn hs b t) L2 i 0) (hi : i < L2.length) (hci : L2.getD i 0 = c) : AMet G m_Walk_joinBehind 5 0 0 [.ref (A 0), .int (nI c), .ref (A 4), .int (nI b), .int (nI t)] (nx, h) (fun r w => r = none ∧ ∃ h2 L9, w = (nx, h2) ∧ WkF h0 h2 hs ad A most fl L L9 ar n ∧ Bfs hs (shn hs b t) L9 i hs.2.1.length ∧ ∃ e, L9 = L2 ++ e) := by
  have hp12 := hv.1.1
  have hs24 := hv.2.1
  have hall2 := hv.2.2.2.2.2.2.2
  have hmo := hm.mst
  refine amet_of pf_Walk_joinBehind (Nat.le_of_ble_eq_true rfl) ?_
  show AW G m_Walk_joinBehind 5 0 0 _ 0 [(0, .ref (A 0)), (1, .int (nI c)), (2, .ref (A 4)), (3, .int (nI b)), (4, .int (nI t))] [] (nx, h) 0 0
  refine aw_iconst (v := nI 0) d_Walk_joinBehind_0 (by decide) ?_
  refine aw_istore (lv2 := [(0, _), (1, _), (2, _), (3, _), (4, _), (5, _)]) d_Walk_joinBehind_1 (by decide) rfl ?_
  suffices k0_ : ∀ m, ∀ j (h1 : Nat → Option aC) (L9 : List Nat), m = hs.2.1.length - j → j ≤ hs.2.1.length → (WkF h0 h1 hs ad A most fl L L9 ar n ∧ Bfs hs (shn hs b t) L9 i j ∧ L9.getD i 0 = c ∧ i < L9.length ∧ (∃ e, L9 = L2 ++ e)) → AW G m_Walk_joinBehind 5 0 0 _ 3 [(0, .ref (A 0)), (1, .int (nI c)), (2, .ref (A 4)), (3, .int (nI b)), (4, .int (nI t)), (5, .int (nI j))] [] (nx, h1) 0 0 from k0_ _ 0 _ L2 rfl (Nat.zero_le _) ⟨hm, hB, hci, hi, [], by simp⟩
  clear hm hB hci hi
  intro m
  refine Nat.strongRecOn (motive := fun m => ∀ j (h1 : Nat → Option aC) (L9 : List Nat), m = hs.2.1.length - j → j ≤ hs.2.1.length → (WkF h0 h1 hs ad A most fl L L9 ar n ∧ Bfs hs (shn hs b t) L9 i j ∧ L9.getD i 0 = c ∧ i < L9.length ∧ (∃ e, L9 = L2 ++ e)) → AW G m_Walk_joinBehind 5 0 0 _ 3 [(0, .ref (A 0)), (1, .int (nI c)), (2, .ref (A 4)), (3, .int (nI b)), (4, .int (nI t)), (5, .int (nI j))] [] (nx, h1) 0 0) m (fun m ih => ?_)
  intro j h L9 hme hjl hI
  obtain ⟨hm, hB, hci, hi, hex⟩ := hI
  refine aw_iload d_Walk_joinBehind_3 rfl ?_
  refine aw_aload_n (i := 0) d_Walk_joinBehind_5 rfl rfl ?_
  apply aw_get d_Walk_joinBehind_6 fl_Walk_9; exact hm.2.2.1.1; rfl
  rw [hm.2.1]
  apply aw_get d_Walk_joinBehind_9 fl_Walk_93; exact hm.1.1; rfl
  apply aw_callv_p (ho_ns hm.1) d_Walk_joinBehind_12 cl_Walk_97; exact (ho_sl hm.1).choose_spec; rfl; rfl; rfl; rfl; decide; exact Nat.le_of_ble_eq_true rfl; exact (Nat.le_refl _); exact (Nat.le_refl _)
  refine aw_icmpN_ge d_Walk_joinBehind_15 (by omega) (by omega) (fun br15_ => ?_) (fun br15_ => ?_)
  · skip
    have ej : j = hs.2.1.length := by omega
    subst ej
    refine aw_vret d_Walk_joinBehind_86 rfl (Nat.le_refl _) (Nat.le_refl _) ?_
    exact ⟨rfl, h, L9, rfl, hm, hB, hex⟩
  · skip
    refine aw_aload_n (i := 0) d_Walk_joinBehind_18 rfl rfl ?_
    refine aw_iload_n (i := 1) d_Walk_joinBehind_19 rfl rfl ?_
    refine aw_iload d_Walk_joinBehind_20 rfl ?_
    apply aw_callv_p (c_Walk_isOpen hm hv (c := c) (j := j) (by omega) br15_ ho) d_Walk_joinBehind_22 cl_Walk_102; exact hm.2.2.1.1; rfl; rfl; rfl; rfl; decide; exact Nat.le_of_ble_eq_true rfl; exact (Nat.le_refl _); exact (Nat.le_refl _)
    refine aw_ifB_eq d_Walk_joinBehind_25 (fun br25_ => ?_) (fun br25_ => ?_)
    · skip
      have hB2 := hB.skip (fun q => by rw [hci, br25_] at q; cases q)
      refine aw_iconst (v := -1) d_Walk_joinBehind_50 (by decide) ?_
      refine aw_istore (lv2 := [(0, _), (1, _), (2, _), (3, _), (4, _), (5, _), (6, _)]) d_Walk_joinBehind_51 (by decide) rfl ?_
      refine aw_iload d_Walk_joinBehind_53 rfl ?_
      refine aw_iconst (v := -1) d_Walk_joinBehind_55 (by decide) ?_
      refine aw_icmp_eq d_Walk_joinBehind_56 (fun br56_ => ?_) (fun br56_ => absurd rfl br56_)
      refine aw_iincN (lv2 := [(0, _), (1, _), (2, _), (3, _), (4, _), (5, _), (6, _)]) d_Walk_joinBehind_80 (by decide) rfl rfl ?_
      refine aw_goto d_Walk_joinBehind_83 ?_
      refine aw_drop (lv2 := [(0, _), (1, _), (2, _), (3, _), (4, _), (5, _)]) [0, 1, 2, 3, 4, 5] rfl ?_
      exact ih _ (by omega) (j + 1) _ L9 rfl (by omega) ⟨hm, hB2, hci, hi, hex⟩
    · skip
      have hal := aft_lt hv hc br15_
      obtain ⟨na, ga, k1, k2, k3⟩ := ho_sc hm.1 br15_
      refine aw_aload_n (i := 0) d_Walk_joinBehind_28 rfl rfl ?_
      apply aw_get d_Walk_joinBehind_29 fl_Walk_9; exact hm.2.2.1.1; rfl
      rw [hm.2.1]
      apply aw_get d_Walk_joinBehind_32 fl_Walk_93; exact hm.1.1; rfl
      refine aw_iload d_Walk_joinBehind_35 rfl ?_
      apply aw_callv_p (ho_gs hm.1 (j := j) br15_) d_Walk_joinBehind_37 cl_Walk_106; exact (ho_sl hm.1).choose_spec; rfl; rfl; rfl; rfl; decide; exact Nat.le_of_ble_eq_true rfl; exact (Nat.le_refl _); exact (Nat.le_refl _)
      apply aw_cast d_Walk_joinBehind_40; exact k1; rfl; exact cc_Walk_110
      refine aw_iload_n (i := 1) d_Walk_joinBehind_43 rfl rfl ?_
      apply aw_callv_p (c_Step_codeAfter hm.1 hv hc br15_) d_Walk_joinBehind_44 cl_Walk_112; exact k1; rfl; rfl; rfl; rfl; decide; exact Nat.le_of_ble_eq_true rfl; exact (Nat.le_refl _); exact (Nat.le_refl _)
      refine aw_goto d_Walk_joinBehind_47 ?_
      refine aw_istore (lv2 := [(0, _), (1, _), (2, _), (3, _), (4, _), (5, _), (6, _)]) d_Walk_joinBehind_51 (by decide) rfl ?_
      refine aw_iload d_Walk_joinBehind_53 rfl ?_
      refine aw_iconst (v := -1) d_Walk_joinBehind_55 (by decide) ?_
      refine aw_icmp_eq d_Walk_joinBehind_56 (fun br56_ => absurd br56_ (nI_nm1 (Nat.lt_of_lt_of_le hal (by omega)))) (fun br56_ => ?_)
      refine aw_aload_n (i := 0) d_Walk_joinBehind_59 rfl rfl ?_
      apply aw_get d_Walk_joinBehind_60 fl_Walk_9; exact hm.2.2.1.1; rfl
      rw [hm.2.1]
      refine aw_iload d_Walk_joinBehind_63 rfl ?_
      refine aw_iload_n (i := 3) d_Walk_joinBehind_65 rfl rfl ?_
      refine aw_iload d_Walk_joinBehind_66 rfl ?_
      apply aw_callv_p (c_House_isSo hm.1 hv (c := aft hs c j) (i := b) (by omega) hb (nI t)) d_Walk_joinBehind_68 cl_Walk_115; exact hm.1.1; rfl; rfl; rfl; rfl; decide; exact Nat.le_of_ble_eq_true rfl; exact (Nat.le_refl _); exact (Nat.le_refl _)
      rw [show decide (nI (dg (pks hs.1) (aft hs c j) b) = nI t) = shn hs b t (aft hs c j) from so_eq hv hb htl]
      refine aw_ifB_ne d_Walk_joinBehind_71 (fun br71_ => ?_) (fun br71_ => ?_)
      · skip
        have hB2 := hB.skip (fun _ q => by rw [hci, br71_] at q; cases q)
        refine aw_iincN (lv2 := [(0, _), (1, _), (2, _), (3, _), (4, _), (5, _), (6, _)]) d_Walk_joinBehind_80 (by decide) rfl rfl ?_
        refine aw_goto d_Walk_joinBehind_83 ?_
        refine aw_drop (lv2 := [(0, _), (1, _), (2, _), (3, _), (4, _), (5, _)]) [0, 1, 2, 3, 4, 5] rfl ?_
        exact ih _ (by omega) (j + 1) _ L9 rfl (by omega) ⟨hm, hB2, hci, hi, hex⟩
      · skip
        refine aw_aload_n (i := 2) d_Walk_joinBehind_74 rfl rfl ?_
        refine aw_iload d_Walk_joinBehind_75 rfl ?_
        apply aw_callv d_Walk_joinBehind_77 cl_Walk_72 (c_Line_join hm.Ll (c := aft hs c j) (by omega)); exact hm.Ll.ob.choose_spec; rfl; rfl; rfl; rfl; decide; exact (Nat.le_refl _); exact (Nat.le_refl _); exact Nat.le_of_ble_eq_true rfl
        rintro _ _ ⟨rfl, h3, rfl, hl3, fr3⟩
        have hm3 := hm.line hv hl3 fr3
        have hLb := hB.len hv
        refine aw_iincN (lv2 := [(0, _), (1, _), (2, _), (3, _), (4, _), (5, _), (6, _)]) d_Walk_joinBehind_80 (by decide) rfl rfl ?_
        refine aw_goto d_Walk_joinBehind_83 ?_
        refine aw_drop (lv2 := [(0, _), (1, _), (2, _), (3, _), (4, _), (5, _)]) [0, 1, 2, 3, 4, 5] rfl ?_
        by_cases hin : aft hs c j ∈ L9
        · rw [if_pos (Or.inl hin)] at hm3
          exact ih _ (by omega) (j + 1) _ L9 rfl (by omega) ⟨hm3, hB.skip (fun _ _ => by rw [hci]; exact hin), hci, hi, hex⟩
        · have hBj := hB.join hi br15_ (by rw [hci]; exact br25_) (by rw [hci]; exact br71_) (by rw [hci]; exact hin)
          rw [hci] at hBj
          have hln := hBj.len hv
          simp only [List.length_append, List.length_singleton] at hln
          rw [if_neg (fun q => q.elim hin (fun q => by omega))] at hm3
          obtain ⟨ex, rfl⟩ := hex
          exact ih _ (by omega) (j + 1) _ _ rfl (by omega) ⟨hm3, hBj, by rw [gd_app hi]; exact hci, by simp at hi ⊢; omega, ⟨ex ++ [aft hs c j], by simp⟩⟩

