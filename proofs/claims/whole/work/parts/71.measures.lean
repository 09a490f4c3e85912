def key0 (hs : HSt) (c : Nat) : Nat := if isE hs c then 0 else FAR
theorem k0t {hs : HSt} {c : Nat} (h : isE hs c = true) : key0 hs c = 0 := if_pos h
theorem k0f {hs : HSt} {c : Nat} (h : isE hs c = false) : key0 hs c = FAR := if_neg (by rw [h]; decide)
theorem key0_le (hs : HSt) (c : Nat) : key0 hs c ≤ 268435456 := by
  cases e : isE hs c
  · rw [k0f e]; exact Nat.le_refl _
  · rw [k0t e]; exact Nat.zero_le _
theorem Hp.iff {n : Nat} {hp pl key : Nat → Nat} {C C2 : Nat → Prop} (h : Hp n hp pl key C) (e : ∀ c, C2 c ↔ C c) : Hp n hp pl key C2 := ⟨h.1, h.2.1, fun c => (e c).trans (h.2.2 c)⟩
theorem Hu.iff {n : Nat} {hp pl key : Nat → Nat} {C C2 : Nat → Prop} {x q : Nat} (h : Hu n hp pl key C x q) (e : ∀ c, C2 c ↔ C c) : Hu n hp pl key C2 x q := ⟨h.1, h.2.1, h.2.2.1, h.2.2.2.1, h.2.2.2.2.1, fun c => (e c).trans (h.2.2.2.2.2 c)⟩
theorem Hu.pl {n : Nat} {hp pl key : Nat → Nat} {C : Nat → Prop} {x q : Nat} (h : Hu n hp pl key C x q) (p : Nat) : Hu n hp (updn pl x p) key C x q := ⟨h.1, fun i hi hq => ⟨by rw [un_n (h.2.1 i hi hq).2]; exact (h.2.1 i hi hq).1, (h.2.1 i hi hq).2⟩, h.2.2⟩
theorem Hp.end0 {hs : HSt} {n : Nat} {hp pl : Nat → Nat} {i : Nat} (h : Hp n hp pl (key0 hs) (fun c => c < i ∧ isE hs c = true)) (he : isE hs i = true) : Hp (n + 1) (updn hp n i) (updn pl i n) (key0 hs) (fun c => c < i + 1 ∧ isE hs c = true) := by
  have h1 := h.more (x := i) (key2 := key0 hs) (fun q => by omega) (fun _ _ => rfl)
  have h2 := h1.fin (fun hq => by
    have := (h.2.2 (hp ((n - 1) / 2))).mpr ⟨_, by omega, rfl⟩
    rw [k0t this.2]; exact Nat.zero_le _)
  refine h2.iff (fun c => ?_)
  constructor
  · rintro ⟨q1, q2⟩
    by_cases e : c = i
    · exact Or.inl e
    · exact Or.inr ⟨by omega, q2⟩
  · rintro (rfl | ⟨q1, q2⟩)
    · exact ⟨by omega, he⟩
    · exact ⟨by omega, q2⟩
theorem Hp.end1 {hs : HSt} {n : Nat} {hp pl : Nat → Nat} {i : Nat} (h : Hp n hp pl (key0 hs) (fun c => c < i ∧ isE hs c = true)) (he : isE hs i = false) : Hp n hp pl (key0 hs) (fun c => c < i + 1 ∧ isE hs c = true) := by
  refine h.iff (fun c => ?_)
  constructor
  · rintro ⟨q1, q2⟩
    by_cases e : c = i
    · subst e; rw [he] at q2; cases q2
    · exact ⟨by omega, q2⟩
  · rintro ⟨q1, q2⟩; exact ⟨by omega, q2⟩
theorem Hp.len {n N : Nat} {hp pl key : Nat → Nat} {C : Nat → Prop} (h : Hp n hp pl key C) (hN : ∀ c, C c → c < N) {b : Nat} (hb : b < N) (hnb : ¬ C b) : n + 1 ≤ N := by
  have hnd : ((List.range n).map hp).Nodup := by
    refine List.pairwise_map.mpr (List.Pairwise.imp_of_mem ?_ (List.nodup_range (n := n)))
    intro i j hi hj hne he
    exact hne (h.inj (List.mem_range.mp hi) (List.mem_range.mp hj) he)
  have := nd_len (L := b :: (List.range n).map hp) (n := N) (List.nodup_cons.mpr ⟨fun hm => ?_, hnd⟩) (fun c hc => ?_)
  · simpa using this
  · obtain ⟨i, hi, e⟩ := List.mem_map.mp hm
    exact hnb ((h.2.2 b).mpr ⟨i, List.mem_range.mp hi, e⟩)
  · rcases List.mem_cons.mp hc with rfl | hm
    · exact hb
    · obtain ⟨i, hi, e⟩ := List.mem_map.mp hm
      exact hN c ((h.2.2 c).mpr ⟨i, List.mem_range.mp hi, e⟩)
theorem Dij.init (hs : HSt) : Dij hs (key0 hs) (fun c => c < hall hs ∧ isE hs c = true) [] (hall hs) (fun _ _ => True) := by
  refine ⟨fun c hc => ⟨fun hk => ?_, fun he => k0t he, ?_, ?_, fun hk => ?_⟩, fun c hq => ⟨hq.1, List.not_mem_nil⟩, ⟨by simp, fun c hc => absurd hc List.not_mem_nil⟩, fun s hs2 => absurd hs2 List.not_mem_nil, fun y hy => absurd hy List.not_mem_nil⟩
  · cases he : isE hs c
    · rw [k0f he] at hk; exact absurd hk (Nat.lt_irrefl _)
    · rw [k0t he]; exact Way.fin hc he
  · cases he : isE hs c
    · rw [k0f he]; simp [he]
    · rw [k0t he]; simp [hc, he]
  · cases he : isE hs c
    · rw [k0f he]; exact Nat.le_refl _
    · rw [k0t he]; exact Nat.zero_le _
  · cases he : isE hs c
    · rw [k0f he] at hk; exact absurd hk (Nat.lt_irrefl _)
    · rw [k0t he]; exact Nat.zero_le _
theorem Dij.mono {hs : HSt} {key : Nat → Nat} {Q : Nat → Prop} {SL : List Nat} {x : Nat} {dn dn2 : Nat → Nat → Prop} (h : Dij hs key Q SL x dn) (hd : ∀ b j, b < hall hs → j < hs.2.1.length → dn2 b j → dn b j) : Dij hs key Q SL x dn2 := ⟨h.1, h.2.1, h.2.2.1, h.2.2.2.1, fun y hy b j hb hj ho ha hyx => h.2.2.2.2 y hy b j hb hj ho ha (fun e => hd b j hb hj (hyx e))⟩
/-- the moves to x that stand in the rows from bgn x to k -/
def dnk (hs : HSt) (f33 f34 : Nat → Int32) (x k : Nat) (b j : Nat) : Prop := ∃ k', bgn hs x ≤ k' ∧ k' < k ∧ f33 k' = nI b ∧ f34 k' = nI j
theorem dnk_0 {hs : HSt} {f33 f34 : Nat → Int32} {x b j : Nat} (h : dnk hs f33 f34 x (bgn hs x) b j) : False := by obtain ⟨k, h1, h2, -⟩ := h; omega
theorem dnk_s {hs : HSt} (hv : VH hs) {f33 f34 : Nat → Int32} {x k b0 j0 b j : Nat} (hb : b < hall hs) (hj : j < hs.2.1.length) (hb0 : b0 < hall hs) (hj0 : j0 < hs.2.1.length) (e1 : f33 k = nI b0) (e2 : f34 k = nI j0) (h : dnk hs f33 f34 x (k + 1) b j) : dnk hs f33 f34 x k b j ∨ (b = b0 ∧ j = j0) := by
  obtain ⟨k', h1, h2, h3, h4⟩ := h
  have hall2 := hv.2.2.2.2.2.2.2
  have hs24 := hv.2.1
  by_cases e : k' = k
  · subst e
    refine Or.inr ⟨?_, ?_⟩
    · exact (nI_eq (by omega) (by omega)).mp (h3.symm.trans e1)
    · exact (nI_eq (by omega) (by omega)).mp (h4.symm.trans e2)
  · exact Or.inl ⟨k', h1, by omega, h3, h4⟩
theorem MHm.key {N : Nat} {ar : Nat → Nat → Int32} {n : Nat} {hp pl key : Nat → Nat} {seen : Nat → Bool} {q c v : Nat} (h : MHm N ar n hp pl key seen q) (hv : v ≤ 268435456) : MHm N (ups ar 30 (upd (ar 30) c (nI v))) n hp pl (updn key c v) seen q := by
  refine ⟨h.1, fun d hd => ?_, h.2.2⟩
  show upd (ar 30) c (nI v) d = _ ∧ _
  by_cases e : d = c
  · subst e; rw [pk_us, un_s]; exact ⟨rfl, hv⟩
  · rw [pk_un e, un_n e]; exact h.2.1 d hd
theorem MHm.new {N : Nat} {ar : Nat → Nat → Int32} {n : Nat} {hp pl key : Nat → Nat} {seen : Nat → Bool} {c : Nat} (h : MHm N ar n hp pl key seen n) : MHm N (ups (ups ar 35 (upd (ar 35) n (nI c))) 36 (upd (ar 36) c (nI n))) (n + 1) hp (updn pl c n) key (fun d => d == c || seen d) n := by
  refine ⟨fun i hi hq => ?_, fun d hd => h.2.1 d hd, fun d hd => ?_⟩
  · show upd (ar 35) n (nI c) i = _ ∧ _
    rw [pk_un hq]; exact h.1 i (by omega) hq
  · show upd (ar 36) c (nI n) d = _
    by_cases e : d = c
    · subst e; rw [pk_us, un_s]; simp
    · rw [pk_un e, un_n e, h.2.2 d hd]; simp [e]
noncomputable def far (hs : HSt) (c : Nat) : Nat := (lst hs c).getD FAR
theorem far_eq {hs : HSt} {c k : Nat} (h : LstR hs c (if k < FAR then some k else none)) (hk : k ≤ FAR) : far hs c = k := by
  unfold far; rw [lst_eq h]
  by_cases e : k < FAR
  · rw [if_pos e]; rfl
  · rw [if_neg e]; show FAR = k; omega
theorem MoE.kp {sc sc2 : Nat → Int32} {ar ar2 : Nat → Nat → Int32} {hs : HSt} {Ls La : List Nat} (hg : MoE ar hs) (hk : Kp Ls La sc ar sc2 ar2) (h1 : La.contains 32 = false) (h2 : La.contains 33 = false) (h3 : La.contains 34 = false) : MoE ar2 hs := by
  unfold MoE; rw [hk.2 _ h1, hk.2 _ h2, hk.2 _ h3]; exact hg
theorem snd_p {ar36 : Int32} {s : Bool} {p : Nat} (h : ar36 = if s then nI p else -1) (hn : 0 ≤ ar36) : s = true := by
  cases s
  · rw [if_neg (by decide)] at h; rw [h] at hn; exact absurd hn (by decide)
  · rfl
set_option maxHeartbeats 4000000 in
set_option maxRecDepth 20000 in
theorem c_Mod_measures {G : aG} {nx : Nat} {h h0 : Nat → Option aC} {a : Nat} {A : Nat → Nat} {sc : Nat → Int32} {ar : Nat → Nat → Int32} (hm : MoF h0 h a A sc ar) {hs : HSt} (hh : MoH sc ar hs) (hv : VH hs) (hw : MoW sc ar hs) (hb : MoB ar hs) : AMet G m_Mod_measures 2 0 0 [.ref a] (nx, h) (MR nx a h0 A (fun r sc2 ar2 => r = none ∧ Kp [37] [30, 31, 32, 33, 34, 35, 36] sc ar sc2 ar2 ∧ ∀ c, c < hall hs → ar2 30 c = nI (far hs c))) := by
  have hp12 := hv.1.1
  have hs24 := hv.2.1
  have hall2 := hv.2.2.2.2.2.2.2
  have hh0 := hh
  have hw0 := hw
  have hb0 := hb
  refine amet_of pf_Mod_measures (Nat.le_of_ble_eq_true rfl) ?_
  show AW G m_Mod_measures 2 0 0 _ 0 [(0, .ref a)] [] (nx, h) 0 0
  refine aw_aload_n (i := 0) d_Mod_measures_0 rfl rfl ?_
  apply aw_callv_M0 (c_Mod_turnsRound hm hh hv hw hb) d_Mod_measures_1 cl_Mod_248; exact hm.1.1; rfl; rfl; rfl; rfl; decide; exact Nat.le_of_ble_eq_true rfl; exact Nat.le_refl _; exact Nat.le_refl _
  rintro h sc1 ar1 hm ⟨hK, hE⟩
  have hh := hh0.kp hK rfl rfl
  have hw := hw0.kp hK rfl rfl rfl
  refine aw_aload_n (i := 0) d_Mod_measures_4 rfl rfl ?_
  refine aw_iconst (v := nI 0) d_Mod_measures_5 (by decide) ?_
  apply mo_put (f := 37) hm d_Mod_measures_6 pl_Mod_245 (ms_37 _ _ _) (by decide) rfl rfl; intro h hm
  refine aw_iconst (v := nI 0) d_Mod_measures_9 (by decide) ?_
  refine aw_istore_n (i := 1) (lv2 := [(0, _), (1, _)]) d_Mod_measures_10 rfl (by decide) rfl ?_
  refine mloop (h0 := h0) (a := a) (A := A) (hall hs) (fun i h sc1 ar1 => ∀ (hp pl : Nat → Nat) (n : Nat), Kp [37] [30, 31, 32, 33, 34, 35, 36] sc ar sc1 ar1 ∧ MoE ar1 hs ∧ sc1 37 = nI n ∧ n ≤ i ∧ Hp n hp pl (key0 hs) (fun c => c < i ∧ isE hs c = true) ∧ (∀ j, j < n → ar1 35 j = nI (hp j) ∧ hp j < hall hs) ∧ (∀ c, c < i → ar1 30 c = nI (key0 hs c)) ∧ (∀ c, c < i → ar1 36 c = if isE hs c then nI (pl c) else -1) → AW G m_Mod_measures 2 0 0 _ 11 [(0, .ref a), (1, .int (nI i))] [] (nx, h) 0 0) (fun _ _ _ => True) ?_ 0 _ _ _ (Nat.zero_le _) hm trivial (fun c => c) (fun c => c) 0 ⟨(hK.up (fun x hx => absurd hx List.not_mem_nil) (by decide)).tr (Kp.put rfl), hE, rfl, Nat.le_refl _, ⟨fun i hi => absurd hi (Nat.not_lt_zero _), fun i _ hi => absurd hi (Nat.not_lt_zero _), fun c => ⟨fun q => by omega, fun ⟨i, hi, _⟩ => by omega⟩⟩, fun j hj => absurd hj (Nat.not_lt_zero _), fun c hc => absurd hc (Nat.not_lt_zero _), fun c hc => absurd hc (Nat.not_lt_zero _)⟩
  intro i h sc1 ar1 hi_i hm _ ih hp pl n hI
  obtain ⟨hK, hE, h37, hni, hHp, h35, h30, h36⟩ := hI
  have hh := hh0.kp hK rfl rfl
  have hw := hw0.kp hK rfl rfl rfl
  refine aw_iload_n (i := 1) d_Mod_measures_11 rfl rfl ?_
  refine aw_aload_n (i := 0) d_Mod_measures_12 rfl rfl ?_
  apply mo_gets (f := 26) hm d_Mod_measures_13 fl_Mod_206 rfl; exact hw.1
  refine aw_icmpN_ge d_Mod_measures_16 (by omega) (by omega) (fun br16_ => ?_) (fun br16_ => ?_)
  · skip
    have ei : i = hall hs := by omega
    subst ei
    refine aw_drop (lv2 := [(0, _)]) [0] rfl ?_
    refine mdown (h0 := h0) (a := a) (A := A) (fun m h sc1 ar1 => ∀ (hp pl key : Nat → Nat) (n : Nat) (seen : Nat → Bool) (Q : Nat → Prop) (SL : List Nat) (x0 : Nat) (dn : Nat → Nat → Prop), Kp [37] [30, 31, 32, 33, 34, 35, 36] sc ar sc1 ar1 ∧ MoE ar1 hs ∧ sc1 37 = nI n ∧ n ≤ hall hs ∧ Hp n hp pl key Q ∧ MHm (hall hs) ar1 n hp pl key seen n ∧ Dij hs key Q SL x0 dn ∧ (∀ b j, b < hall hs → j < hs.2.1.length → opn hs b j = true → aft hs b j = x0 → dn b j) ∧ (∀ c, c < hall hs → (seen c = true ↔ c ∈ SL ∨ Q c)) ∧ m = hall hs - SL.length → AW G m_Mod_measures 2 0 0 _ 80 [(0, .ref a)] [] (nx, h) 0 0) (fun _ _ _ => True) ?_ (hall hs) _ _ _ hm trivial hp pl (key0 hs) n (fun c => isE hs c) _ [] (hall hs) (fun _ _ => True) ⟨hK, hE, h37, hni, hHp, ⟨fun j hj _ => h35 j hj, fun c hc => ⟨h30 c hc, key0_le hs c⟩, h36⟩, Dij.init hs, fun _ _ _ _ _ _ => trivial, fun c hc => by simp [hc], by simp⟩
    intro m h sc1 ar1 hm _ ih2 hp pl key n seen Q SL x0 dn hI
    obtain ⟨hK, hE, h37, hnn, hHp, hM, hD, hdn, hseen, hme⟩ := hI
    have hh := hh0.kp hK rfl rfl
    have hw := hw0.kp hK rfl rfl rfl
    have hsl := hD.sl
    refine aw_aload_n (i := 0) d_Mod_measures_80 rfl rfl ?_
    apply mo_gets (f := 37) hm d_Mod_measures_81 fl_Mod_245 rfl; exact h37
    refine aw_ifN_le d_Mod_measures_84 (by omega) (fun br84_ => ?_) (fun br84_ => ?_)
    · skip
      have en : n = 0 := by omega
      subst en
      refine aw_vret d_Mod_measures_199 rfl (Nat.le_refl _) (Nat.le_refl _) ?_
      exact ⟨_, _, _, rfl, hm, rfl, hK, fun c hc => by rw [(hM.2.1 c hc).1, far_eq (hD.done hv hdn (fun c q => by obtain ⟨i, hi, _⟩ := (hHp.2.2 c).mp q; omega) c hc) (hM.2.1 c hc).2]⟩
    · skip
      obtain ⟨n, rfl⟩ : ∃ k, n = k + 1 := ⟨n - 1, by omega⟩
      have hq0 := (hHp.2.2 (hp 0)).mpr ⟨0, by omega, rfl⟩
      have hmin : ∀ q, Q q → key (hp 0) ≤ key q := fun q hq => by
        obtain ⟨i, hi, rfl⟩ := (hHp.2.2 q).mp hq
        exact hHp.min i hi
      have hxl := (hD.2.1 _ hq0).1
      have hkk := (hD.1 _ hxl).2.2.2.2 (((hD.1 _ hxl).2.2.1).mpr (Or.inr hq0))
      have hD2 := hD.take hdn hq0 hmin
      have hord := hD.2.2.2.1
      have hsl2 := hD2.sl
      simp only [List.length_append, List.length_singleton] at hsl2
      have hCs : ∀ c, Q c → seen c = true := fun c hc => (hseen c (hD.2.1 c hc).1).mpr (Or.inr hc)
      refine aw_aload_n (i := 0) d_Mod_measures_87 rfl rfl ?_
      apply aw_callv_MI (c_Mod_takes hm hall2 hCs hHp hM h37 hnn) d_Mod_measures_88 cl_Mod_252; exact hm.1.1; rfl; rfl; rfl; rfl; decide; exact Nat.le_of_ble_eq_true rfl; exact Nat.le_refl _; exact Nat.le_refl _
      rintro h sc2 ar2 hm ⟨hp2, pl2, hHp2, hM2, h37b, hK2⟩
      have hE2 := hE.kp hK2 rfl rfl rfl
      generalize hp 0 = x at *
      refine aw_istore_n (i := 1) (lv2 := [(0, _), (1, _)]) d_Mod_measures_91 rfl (by decide) rfl ?_
      refine aw_aload_n (i := 0) d_Mod_measures_92 rfl rfl ?_
      refine mo_get (f := 32) hm d_Mod_measures_93 fl_Mod_92 rfl ?_
      refine aw_iload_n (i := 1) d_Mod_measures_96 rfl rfl ?_
      apply mo_ld (f := 32) (N := 20001) hm d_Mod_measures_97 rfl rfl (by decide); omega; exact hE2.1 _ (Nat.le_of_lt hxl)
      refine aw_istore_n (i := 2) (lv2 := [(0, _), (1, _), (2, _)]) d_Mod_measures_98 rfl (by decide) rfl ?_
      refine mloop (h0 := h0) (a := a) (A := A) (bgn hs (x + 1)) (fun i h sc2 ar2 => ∀ (hp pl key : Nat → Nat) (n : Nat) (seen : Nat → Bool) (Q : Nat → Prop) (SL : List Nat), Kp [37] [30, 31, 32, 33, 34, 35, 36] sc ar sc2 ar2 ∧ MoE ar2 hs ∧ sc2 37 = nI n ∧ n ≤ hall hs ∧ Hp n hp pl key Q ∧ MHm (hall hs) ar2 n hp pl key seen n ∧ Dij hs key Q SL x (dnk hs (ar2 33) (ar2 34) x i) ∧ (∀ c, c < hall hs → (seen c = true ↔ c ∈ SL ∨ Q c)) ∧ x ∈ SL ∧ (∀ s ∈ SL, key s ≤ key x) ∧ key x ≤ 100 * (SL.length - 1) ∧ m = hall hs - (SL.length - 1) ∧ x < hall hs ∧ bgn hs x ≤ i → AW G m_Mod_measures 2 0 0 _ 99 [(0, .ref a), (1, .int (nI x)), (2, .int (nI i))] [] (nx, h) 0 0) (fun _ _ _ => True) ?_ (bgn hs x) _ _ _ (bgn_mono hs (Nat.le_succ x)) hm trivial hp2 pl2 key n seen _ (SL ++ [x]) ⟨hK.tr (hK2.up (by decide) (by decide)), hE2, h37b, by omega, hHp2, hM2, hD2.mono (fun b j _ _ q => dnk_0 q), fun c hc => ?_, by simp, fun s hs2 => ?_, by simpa using hkk, by simpa using hme, hxl, Nat.le_refl _⟩
      rotate_left
      · rw [hseen c hc, List.mem_append, List.mem_singleton]
        by_cases e : c = x
        · subst e; simp [hq0]
        · simp [e]
      · rcases List.mem_append.mp hs2 with q | q
        · exact hord s q x hq0
        · rw [List.mem_singleton.mp q]; exact Nat.le_refl _
      intro i h sc2 ar2 hi_i hm _ ih3 hp pl key n seen Q SL hI
      obtain ⟨hK, hE, h37, hnn, hHp, hM, hD, hseen, hxm, hxs, hxk, hme, hxl, hbi⟩ := hI
      have hh := hh0.kp hK rfl rfl
      have hbl := bgn_le hv (x + 1)
      have hsl := hD.sl
      have hsp : 0 < SL.length := List.length_pos_of_mem hxm
      refine aw_iload_n (i := 2) d_Mod_measures_99 rfl rfl ?_
      refine aw_aload_n (i := 0) d_Mod_measures_100 rfl rfl ?_
      refine mo_get (f := 32) hm d_Mod_measures_101 fl_Mod_92 rfl ?_
      refine aw_iload_n (i := 1) d_Mod_measures_104 rfl rfl ?_
      refine aw_iconst (v := nI 1) d_Mod_measures_105 (by decide) ?_
      refine aw_iaddN d_Mod_measures_106 ?_
      apply mo_ld (f := 32) (N := 20001) hm d_Mod_measures_107 rfl rfl (by decide); omega; exact hE.1 _ hxl
      refine aw_icmpN_ge d_Mod_measures_108 (by omega) (by omega) (fun br108_ => ?_) (fun br108_ => ?_)
      · skip
        have ei : i = bgn hs (x + 1) := by omega
        subst ei
        refine aw_drop (lv2 := [(0, _)]) [0] rfl ?_
        refine aw_goto d_Mod_measures_196 ?_
        refine ih2 (m - 1) _ _ _ (by omega) hm trivial hp pl key n seen Q SL x _ ⟨hK, hE, h37, hnn, hHp, hM, hD, fun b j hb hj ho ha => ?_, hseen, by omega⟩
        obtain ⟨k9, q1, q2, q3, q4⟩ := hE.2.2 b j hb hj ho
        rw [ha] at q1 q2
        exact ⟨k9, q1, q2, q3, q4⟩
      · skip
        obtain ⟨b, j, hb, hj, ho, ha, e33, e34⟩ := hE.2.1 x hxl i (by omega) br108_
        have hkx := hM.2.1 x hxl
        have hkb := hM.2.1 b hb
        have htk : tks hs j ≤ 100 := (hv.s hj).2.2.2.2.1
        have hmono : ∀ {key : Nat → Nat} {Q : Nat → Prop}, Dij hs key Q SL x (fun b2 j2 => dnk hs (ar2 33) (ar2 34) x i b2 j2 ∨ (b2 = b ∧ j2 = j)) → Dij hs key Q SL x (dnk hs (ar2 33) (ar2 34) x (i + 1)) := fun d => d.mono (fun b2 j2 h1 h2 h3 => dnk_s hv h1 h2 hb hj e33 e34 h3)
        have hkl : key x ≤ 2000000 := by omega
        refine aw_aload_n (i := 0) d_Mod_measures_111 rfl rfl ?_
        refine mo_get (f := 33) hm d_Mod_measures_112 fl_Mod_95 rfl ?_
        refine aw_iload_n (i := 2) d_Mod_measures_115 rfl rfl ?_
        apply mo_ld (f := 33) (N := 480000) hm d_Mod_measures_116 rfl rfl (by decide); omega; exact e33
        refine aw_istore_n (i := 3) (lv2 := [(0, _), (1, _), (2, _), (3, _)]) d_Mod_measures_117 rfl (by decide) rfl ?_
        refine aw_aload_n (i := 0) d_Mod_measures_118 rfl rfl ?_
        refine mo_get (f := 30) hm d_Mod_measures_119 fl_Mod_86 rfl ?_
        refine aw_iload_n (i := 1) d_Mod_measures_122 rfl rfl ?_
        apply mo_ld (f := 30) (N := 20000) hm d_Mod_measures_123 rfl rfl (by decide); omega; exact hkx.1
        refine aw_aload_n (i := 0) d_Mod_measures_124 rfl rfl ?_
        refine mo_get (f := 7) hm d_Mod_measures_125 fl_Mod_22 rfl ?_
        refine aw_aload_n (i := 0) d_Mod_measures_128 rfl rfl ?_
        refine mo_get (f := 34) hm d_Mod_measures_129 fl_Mod_98 rfl ?_
        refine aw_iload_n (i := 2) d_Mod_measures_132 rfl rfl ?_
        apply mo_bld hm d_Mod_measures_133; omega; exact e34
        apply mo_ld (f := 7) (N := 24) hm d_Mod_measures_134 rfl rfl (by decide); omega; exact (show _ = nI (tks hs j) from (hh.2.2.1 _ hj).2.2.1)
        refine aw_iaddN d_Mod_measures_135 ?_
        refine aw_istore (lv2 := [(0, _), (1, _), (2, _), (3, _), (4, _)]) d_Mod_measures_136 (by decide) rfl ?_
        refine aw_iload d_Mod_measures_138 rfl ?_
        refine aw_aload_n (i := 0) d_Mod_measures_140 rfl rfl ?_
        refine mo_get (f := 30) hm d_Mod_measures_141 fl_Mod_86 rfl ?_
        refine aw_iload_n (i := 3) d_Mod_measures_144 rfl rfl ?_
        apply mo_ld (f := 30) (N := 20000) hm d_Mod_measures_145 rfl rfl (by decide); omega; exact hkb.1
        refine aw_icmpN_ge d_Mod_measures_146 (by omega) (by omega) (fun br146_ => ?_) (fun br146_ => ?_)
        · skip
          refine aw_iincN (lv2 := [(0, _), (1, _), (2, _), (3, _), (4, _)]) d_Mod_measures_190 (by decide) rfl rfl ?_
          refine aw_goto d_Mod_measures_193 ?_
          refine aw_drop (lv2 := [(0, _), (1, _), (2, _)]) [0, 1, 2] rfl ?_
          exact ih3 br108_ _ _ _ hm trivial hp pl key n seen Q SL ⟨hK, hE, h37, hnn, hHp, hM, hmono (hD.keep br146_), hseen, hxm, hxs, hxk, hme, hxl, by omega⟩
        · skip
          obtain ⟨hbs, hvF, hDl⟩ := hD.less hv hxm hxs hxk hb hj ho ha br146_
          have hDl := hmono hDl
          refine aw_aload_n (i := 0) d_Mod_measures_149 rfl rfl ?_
          refine mo_get (f := 30) hm d_Mod_measures_150 fl_Mod_86 rfl ?_
          refine aw_iload_n (i := 3) d_Mod_measures_153 rfl rfl ?_
          refine aw_iload d_Mod_measures_154 rfl ?_
          apply mo_st (f := 30) (N := 20000) hm d_Mod_measures_156 rfl rfl (by decide); omega; intro h hm
          refine aw_aload_n (i := 0) d_Mod_measures_157 rfl rfl ?_
          refine mo_get (f := 36) hm d_Mod_measures_158 fl_Mod_105 rfl ?_
          refine aw_iload_n (i := 3) d_Mod_measures_161 rfl rfl ?_
          apply mo_ld (f := 36) (N := 20000) hm d_Mod_measures_162 rfl rfl (by decide); omega; exact (hM.2.2 _ hb)
          refine aw_if_ge d_Mod_measures_163 (fun br163_ => ?_) (fun br163_ => ?_)
          · skip
            have hsb := snd_p rfl br163_
            have hQb : Q b := ((hseen b hb).mp hsb).resolve_left hbs
            have hM2 := hM.key (c := b) (v := key x + tks hs j) (Nat.le_of_lt hvF)
            have hU := hHp.hole (key2 := updn key b (key x + tks hs j)) hQb (by rw [un_s]; omega) (fun c hc => un_n hc)
            refine aw_aload_n (i := 0) d_Mod_measures_185 rfl rfl ?_
            refine aw_iload_n (i := 3) d_Mod_measures_186 rfl rfl ?_
            apply aw_callv_M0 (c_Mod_rises hm hall2 (fun c hc => (hseen c (hD.2.1 c hc).1).mpr (Or.inr hc)) hU (hM2.any _) hb hsb (by have := hM.2.2 b hb; rw [hsb, if_pos rfl] at this; exact this) hnn) d_Mod_measures_187 cl_Mod_255; exact hm.1.1; rfl; rfl; rfl; rfl; decide; exact Nat.le_of_ble_eq_true rfl; exact Nat.le_refl _; exact Nat.le_refl _
            rintro h sc3 ar3 hm ⟨hp3, pl3, hHp3, hM3, hK3⟩
            refine aw_iincN (lv2 := [(0, _), (1, _), (2, _), (3, _), (4, _)]) d_Mod_measures_190 (by decide) rfl rfl ?_
            refine aw_goto d_Mod_measures_193 ?_
            refine aw_drop (lv2 := [(0, _), (1, _), (2, _)]) [0, 1, 2] rfl ?_
            have hK4 := (hK.tr (Kp.st (f := 30) (g := upd (ar2 30) b (nI (key x + tks hs j))) rfl)).tr (hK3.up (by decide) (by decide))
            have hxb : x ≠ b := fun e => hbs (by rw [← e]; exact hxm)
            refine ih3 br108_ _ _ _ hm trivial hp3 pl3 _ n seen (fun c => c = b ∨ Q c) SL ⟨hK4, hE.kp ((Kp.st (Ls := []) (La := [30, 35, 36]) rfl).tr (hK3.up (by decide) (by decide))) rfl rfl rfl, (hK3.1 37 rfl).trans h37, hnn, hHp3.iff (fun c => ⟨fun q => q.elim (fun e => by rw [e]; exact hQb) id, Or.inr⟩), hM3, ?_, fun c hc => ?_, hxm, fun s hs2 => ?_, ?_, hme, hxl, by omega⟩
            · rw [hK3.2 33 rfl, hK3.2 34 rfl]; exact hDl
            · rw [hseen c hc]
              constructor
              · exact fun q => q.elim Or.inl (fun q => Or.inr (Or.inr q))
              · rintro (q | rfl | q)
                · exact Or.inl q
                · exact Or.inr hQb
                · exact Or.inr q
            · rw [un_n hxb, un_n (fun e => hbs (by rw [← e]; exact hs2))]; exact hxs s hs2
            · rw [un_n hxb]; exact hxk
          · skip
            have hsb : seen b = false := by
              cases e : seen b
              · rfl
              · exfalso
                have hQb : Q b := ((hseen b hb).mp e).resolve_left hbs
                obtain ⟨i9, hi9, e9⟩ := (hHp.2.2 b).mp hQb
                have e8 := hHp.1 i9 hi9
                rw [e9] at e8
                rw [e, if_pos rfl, e8] at br163_
                exact br163_ (nI_pos' (by omega))
            have hQb : ¬ Q b := fun q => by rw [(hseen b hb).mpr (Or.inr q)] at hsb; cases hsb
            have hlen := hHp.len (fun c hc => (hD.2.1 c hc).1) hb hQb
            have hM2 := (hM.key (c := b) (v := key x + tks hs j) (Nat.le_of_lt hvF)).new (c := b)
            have hU := (hHp.more (key2 := updn key b (key x + tks hs j)) hQb (fun c hc => un_n hc)).pl n
            have hCs2 : ∀ c, (c = b ∨ Q c) → (c == b || seen c) = true := by
              rintro c (rfl | hc)
              · simp
              · simp [(hseen c (hD.2.1 c hc).1).mpr (Or.inr hc)]
            refine aw_aload_n (i := 0) d_Mod_measures_166 rfl rfl ?_
            refine aw_aload_n (i := 0) d_Mod_measures_167 rfl rfl ?_
            apply mo_gets (f := 37) hm d_Mod_measures_168 fl_Mod_245 rfl; exact h37
            refine aw_iload_n (i := 3) d_Mod_measures_171 rfl rfl ?_
            apply aw_callv_M0 (c_Mod_puts hm n b (by omega) (by omega)) d_Mod_measures_172 cl_Mod_241; exact hm.1.1; rfl; rfl; rfl; rfl; decide; exact Nat.le_of_ble_eq_true rfl; exact Nat.le_refl _; exact Nat.le_refl _
            rintro h _ _ hm ⟨rfl, rfl⟩
            refine aw_aload_n (i := 0) d_Mod_measures_175 rfl rfl ?_
            refine aw_dup d_Mod_measures_176 rfl ?_
            apply mo_gets (f := 37) hm d_Mod_measures_177 fl_Mod_245 rfl; exact h37
            refine aw_iconst (v := nI 1) d_Mod_measures_180 (by decide) ?_
            refine aw_iaddN d_Mod_measures_181 ?_
            apply mo_put (f := 37) hm d_Mod_measures_182 pl_Mod_245 (ms_37 _ _ _) (by decide) rfl rfl; intro h hm
            refine aw_aload_n (i := 0) d_Mod_measures_185 rfl rfl ?_
            refine aw_iload_n (i := 3) d_Mod_measures_186 rfl rfl ?_
            apply aw_callv_M0 (c_Mod_rises hm hall2 hCs2 hU hM2 hb (by simp) (by show upd _ b (nI n) b = _; rw [pk_us]) hlen) d_Mod_measures_187 cl_Mod_255; exact hm.1.1; rfl; rfl; rfl; rfl; decide; exact Nat.le_of_ble_eq_true rfl; exact Nat.le_refl _; exact Nat.le_refl _
            rintro h sc3 ar3 hm ⟨hp3, pl3, hHp3, hM3, hK3⟩
            refine aw_iincN (lv2 := [(0, _), (1, _), (2, _), (3, _), (4, _)]) d_Mod_measures_190 (by decide) rfl rfl ?_
            refine aw_goto d_Mod_measures_193 ?_
            refine aw_drop (lv2 := [(0, _), (1, _), (2, _)]) [0, 1, 2] rfl ?_
            have hK4 := ((((hK.tr (Kp.st (f := 30) (g := upd (ar2 30) b (nI (key x + tks hs j))) rfl)).tr (Kp.st rfl)).tr (Kp.st rfl)).tr (Kp.put (f := 37) (x := nI (n + 1)) rfl)).tr (hK3.up (by decide) (by decide))
            have hxb : x ≠ b := fun e => hbs (by rw [← e]; exact hxm)
            refine ih3 br108_ _ _ _ hm trivial hp3 pl3 _ (n + 1) (fun d => d == b || seen d) (fun c => c = b ∨ Q c) SL ⟨hK4, hE.kp ((((Kp.st (Ls := [37]) (La := [30, 35, 36]) (f := 30) (g := upd (ar2 30) b (nI (key x + tks hs j))) rfl).tr (Kp.st rfl)).tr (Kp.st rfl)).tr ((Kp.put (f := 37) (x := nI (n + 1)) rfl).tr (hK3.up (by decide) (by decide)))) rfl rfl rfl, (hK3.1 37 rfl).trans rfl, hlen, hHp3, hM3, ?_, fun c hc => ?_, hxm, fun s hs2 => ?_, ?_, hme, hxl, by omega⟩
            · rw [hK3.2 33 rfl, hK3.2 34 rfl]; exact hDl
            · have h9 := hseen c hc
              by_cases e : c = b
              · subst e; simp
              · simp only [Bool.or_eq_true, beq_iff_eq, e, false_or]; exact h9
            · rw [un_n hxb, un_n (fun e => hbs (by rw [← e]; exact hs2))]; exact hxs s hs2
            · rw [un_n hxb]; exact hxk
  · skip
    refine aw_aload_n (i := 0) d_Mod_measures_19 rfl rfl ?_
    refine mo_get (f := 30) hm d_Mod_measures_20 fl_Mod_86 rfl ?_
    refine aw_iload_n (i := 1) d_Mod_measures_23 rfl rfl ?_
    refine aw_aload_n (i := 0) d_Mod_measures_24 rfl rfl ?_
    refine aw_iload_n (i := 1) d_Mod_measures_25 rfl rfl ?_
    apply aw_callv_p (c_Mod_isEnd hm.1 hh hw hv (c := i) (by omega)) d_Mod_measures_26 cl_Mod_219; exact hm.1.1; rfl; rfl; rfl; rfl; decide; exact Nat.le_of_ble_eq_true rfl; exact (Nat.le_refl _); exact (Nat.le_refl _)
    refine aw_ifB_eq d_Mod_measures_29 (fun br29_ => ?_) (fun br29_ => ?_)
    · skip
      refine aw_ldc (v := nI 268435456) d_Mod_measures_36 kc_Mod_251 ?_
      apply mo_st (f := 30) (N := 20000) hm d_Mod_measures_38 rfl rfl (by decide); omega; intro h hm
      refine aw_aload_n (i := 0) d_Mod_measures_39 rfl rfl ?_
      refine mo_get (f := 36) hm d_Mod_measures_40 fl_Mod_105 rfl ?_
      refine aw_iload_n (i := 1) d_Mod_measures_43 rfl rfl ?_
      refine aw_iconst (v := -1) d_Mod_measures_44 (by decide) ?_
      apply mo_st (f := 36) (N := 20000) hm d_Mod_measures_45 rfl rfl (by decide); omega; intro h hm
      refine aw_aload_n (i := 0) d_Mod_measures_46 rfl rfl ?_
      refine mo_get (f := 30) hm d_Mod_measures_47 fl_Mod_86 rfl ?_
      refine aw_iload_n (i := 1) d_Mod_measures_50 rfl rfl ?_
      apply mo_ld (f := 30) (N := 20000) hm d_Mod_measures_51 rfl rfl (by decide); omega; exact (show upd (ar1 30) i (nI 268435456) i = nI 268435456 from pk_us)
      refine aw_if_ne d_Mod_measures_52 (fun br52_ => ?_) (fun br52_ => absurd br52_ (by decide))
      refine aw_iincN (lv2 := [(0, _), (1, _)]) d_Mod_measures_74 (by decide) rfl rfl ?_
      refine aw_goto d_Mod_measures_77 ?_
      have hx := hHp.end1 br29_
      refine ih br16_ _ _ _ hm trivial hp pl n ⟨(hK.tr (Kp.st rfl)).tr (Kp.st rfl), hE, h37, by omega, hx, h35, fun c hc => ?_, fun c hc => ?_⟩
      · show upd (ar1 30) i _ c = _
        by_cases e : c = i
        · subst e; rw [pk_us, k0f br29_]
        · rw [pk_un e]; exact h30 c (by omega)
      · show upd (ar1 36) i _ c = _
        by_cases e : c = i
        · subst e; rw [pk_us, br29_]; rfl
        · rw [pk_un e]; exact h36 c (by omega)
    · skip
      refine aw_iconst (v := nI 0) d_Mod_measures_32 (by decide) ?_
      refine aw_goto d_Mod_measures_33 ?_
      apply mo_st (f := 30) (N := 20000) hm d_Mod_measures_38 rfl rfl (by decide); omega; intro h hm
      refine aw_aload_n (i := 0) d_Mod_measures_39 rfl rfl ?_
      refine mo_get (f := 36) hm d_Mod_measures_40 fl_Mod_105 rfl ?_
      refine aw_iload_n (i := 1) d_Mod_measures_43 rfl rfl ?_
      refine aw_iconst (v := -1) d_Mod_measures_44 (by decide) ?_
      apply mo_st (f := 36) (N := 20000) hm d_Mod_measures_45 rfl rfl (by decide); omega; intro h hm
      refine aw_aload_n (i := 0) d_Mod_measures_46 rfl rfl ?_
      refine mo_get (f := 30) hm d_Mod_measures_47 fl_Mod_86 rfl ?_
      refine aw_iload_n (i := 1) d_Mod_measures_50 rfl rfl ?_
      apply mo_ld (f := 30) (N := 20000) hm d_Mod_measures_51 rfl rfl (by decide); omega; exact (show upd (ar1 30) i (nI 0) i = nI 0 from pk_us)
      refine aw_if_ne d_Mod_measures_52 (fun br52_ => absurd rfl br52_) (fun br52_ => ?_)
      refine aw_aload_n (i := 0) d_Mod_measures_55 rfl rfl ?_
      refine aw_aload_n (i := 0) d_Mod_measures_56 rfl rfl ?_
      apply mo_gets (f := 37) hm d_Mod_measures_57 fl_Mod_245 rfl; exact h37
      refine aw_iload_n (i := 1) d_Mod_measures_60 rfl rfl ?_
      apply aw_callv_M0 (c_Mod_puts hm n i (by omega) (by omega)) d_Mod_measures_61 cl_Mod_241; exact hm.1.1; rfl; rfl; rfl; rfl; decide; exact Nat.le_of_ble_eq_true rfl; exact Nat.le_refl _; exact Nat.le_refl _
      rintro h _ _ hm ⟨rfl, rfl⟩
      refine aw_aload_n (i := 0) d_Mod_measures_64 rfl rfl ?_
      refine aw_dup d_Mod_measures_65 rfl ?_
      apply mo_gets (f := 37) hm d_Mod_measures_66 fl_Mod_245 rfl; exact h37
      refine aw_iconst (v := nI 1) d_Mod_measures_69 (by decide) ?_
      refine aw_iaddN d_Mod_measures_70 ?_
      apply mo_put (f := 37) hm d_Mod_measures_71 pl_Mod_245 (ms_37 _ _ _) (by decide) rfl rfl; intro h hm
      refine aw_iincN (lv2 := [(0, _), (1, _)]) d_Mod_measures_74 (by decide) rfl rfl ?_
      refine aw_goto d_Mod_measures_77 ?_
      have hx := hHp.end0 br29_
      refine ih br16_ _ _ _ hm trivial (updn hp n i) (updn pl i n) (n + 1) ⟨((((hK.tr (Kp.st rfl)).tr (Kp.st rfl)).tr (Kp.st rfl)).tr (Kp.st rfl)).tr (Kp.put rfl), hE, rfl, by omega, hx, fun j hj => ?_, fun c hc => ?_, fun c hc => ?_⟩
      · show upd (ar1 35) n _ j = _ ∧ _
        by_cases e : j = n
        · subst e; rw [pk_us, un_s]; exact ⟨rfl, br16_⟩
        · rw [pk_un e, un_n e]; exact h35 j (by omega)
      · show upd (ar1 30) i _ c = _
        by_cases e : c = i
        · subst e; rw [pk_us, k0t br29_]
        · rw [pk_un e]; exact h30 c (by omega)
      · show upd (upd (ar1 36) i _) i _ c = _
        by_cases e : c = i
        · subst e; rw [pk_us, un_s, br29_]; rfl
        · rw [pk_un e, pk_un e, un_n e]; exact h36 c (by omega)

