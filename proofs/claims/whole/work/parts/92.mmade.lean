def aM (nx : Nat) : Nat → Nat
  | 2 => nx
  | 3 => nx + 1
  | 5 => nx + 2
  | 6 => nx + 3
  | 7 => nx + 4
  | 8 => nx + 5
  | 9 => nx + 6
  | 10 => nx + 7
  | 11 => nx + 8
  | 12 => nx + 9
  | 13 => nx + 10
  | 14 => nx + 11
  | 16 => nx + 12
  | 17 => nx + 13
  | 19 => nx + 14
  | 20 => nx + 15
  | 21 => nx + 16
  | 22 => nx + 17
  | 24 => nx + 18
  | 25 => nx + 19
  | 28 => nx + 20
  | 29 => nx + 21
  | 30 => nx + 22
  | 31 => nx + 23
  | 32 => nx + 24
  | 33 => nx + 25
  | 34 => nx + 26
  | 35 => nx + 27
  | 36 => nx + 28
  | 38 => nx + 29
  | 40 => nx + 30
  | 41 => nx + 31
  | 42 => nx + 32
  | 43 => nx + 33
  | 44 => nx + 34
  | 45 => nx + 35
  | 46 => nx + 36
  | 47 => nx + 37
  | 48 => nx + 38
  | 49 => nx + 39
  | 51 => nx + 40
  | 52 => nx + 41
  | 53 => nx + 42
  | _ => 0
def sM : Nat → Int32 := fun f => if f = 18 then 2 else if f = 23 then 1 else 0
def mcel : Nat → aC
  | 0 => cI 62 12 (fun _ => 0)
  | 1 => cI 63 12 (fun _ => 0)
  | 2 => cI 65 24 (fun _ => 0)
  | 3 => cI 66 24 (fun _ => 0)
  | 4 => cI 67 24 (fun _ => 0)
  | 5 => cI 68 24 (fun _ => 0)
  | 6 => cI 69 24 (fun _ => 0)
  | 7 => cI 70 96 (fun _ => 0)
  | 8 => cI 71 96 (fun _ => 0)
  | 9 => cI 72 24 (fun _ => 0)
  | 10 => cI 73 96 (fun _ => 0)
  | 11 => cI 74 96 (fun _ => 0)
  | 12 => cI 76 6 (fun _ => 0)
  | 13 => cI 77 6 (fun _ => 0)
  | 14 => cI 79 12 (fun _ => 0)
  | 15 => cI 80 12 (fun _ => 0)
  | 16 => cI 81 12 (fun _ => 0)
  | 17 => cI 82 12 (fun _ => 0)
  | 18 => cI 84 12 (fun _ => 0)
  | 19 => cI 85 24 (fun _ => 0)
  | 20 => cI 88 480000 (fun _ => 0)
  | 21 => cZ 89 20000 (fun _ => 0)
  | 22 => cI 90 20000 (fun _ => 0)
  | 23 => cI 91 20000 (fun _ => 0)
  | 24 => cI 92 20001 (fun _ => 0)
  | 25 => cI 93 480000 (fun _ => 0)
  | 26 => cB 94 480000 (fun _ => 0)
  | 27 => cI 95 20000 (fun _ => 0)
  | 28 => cI 96 20000 (fun _ => 0)
  | 29 => cI 98 20004 (fun _ => 0)
  | 30 => cI 100 20000 (fun _ => 0)
  | 31 => cI 101 20000 (fun _ => 0)
  | 32 => cZ 102 20000 (fun _ => 0)
  | 33 => cI 103 4096 (fun _ => 0)
  | 34 => cZ 104 4 (fun _ => 0)
  | 35 => cI 105 4 (fun _ => 0)
  | 36 => cI 106 4 (fun _ => 0)
  | 37 => cI 107 4 (fun _ => 0)
  | 38 => cI 108 4 (fun _ => 0)
  | 39 => cI 109 4 (fun _ => 0)
  | 40 => cI 111 200 (fun _ => 0)
  | 41 => cI 112 200 (fun _ => 0)
  | 42 => cI 113 200 (fun _ => 0)
  | _ => cI 60 0 (fun _ => 0)
def MIv (nx : Nat) (h0 : Nat → Option aC) (a i : Nat) (fs : List Value) (h : Nat → Option aC) : Prop := h a = some (ob 50 11 fs) ∧ Dom (nx + i) h ∧ (∀ j, j < i → h (nx + j) = some (mcel j)) ∧ Fr [50] h0 h
theorem mcel_t (j : Nat) : (mcel j).1 ∉ [50] := by
  by_cases hj : j < 43
  · have k0 : ∀ j, j < 43 → (mcel j).1 ∉ [50] := by decide
    exact k0 j hj
  · have e : mcel j = cI 60 0 (fun _ => 0) := by
      unfold mcel; split <;> first | rfl | omega
    rw [e]; decide
theorem MIv.nw {nx : Nat} {h0 h h1 : Nat → Option aC} {a i : Nat} {fs : List Value} (hi : MIv nx h0 a i fs h) (m : h1 (nx + i) = some (mcel i)) (f : Fr [] h h1) (hd : Dom (nx + i + 1) h1) : MIv nx h0 a (i + 1) fs h1 :=
  ⟨f _ _ hi.1 List.not_mem_nil, hd, fun j hj => by
    rcases Nat.lt_succ_iff_lt_or_eq.mp hj with h | h
    · exact f _ _ (hi.2.2.1 j h) List.not_mem_nil
    · rw [h]; exact m, hi.2.2.2.tr (f.up (fun _ z => absurd z List.not_mem_nil))⟩
theorem MIv.pt {nx : Nat} {h0 h h1 : Nat → Option aC} {a i : Nat} {fs fs1 : List Value} (hi : MIv nx h0 a i fs h) (m : h1 a = some (ob 50 11 fs1)) (f : Fr [50] h h1) (ho : ∀ q, q ≠ a → h1 q = h q) : MIv nx h0 a i fs1 h1 :=
  ⟨m, dom_o hi.2.1 hi.1 ho, fun j hj => f _ _ (hi.2.2.1 j hj) (mcel_t j), hi.2.2.2.tr f⟩
set_option maxHeartbeats 4000000 in
set_option maxRecDepth 20000 in
theorem mi_0 {G : aG} {F : FT} {nx a : Nat} {h0 : Nat → Option aC} (kk : ∀ h, MIv nx h0 a 1 [.int 0, .int 0, .ref (nx + 0), .null, .int 0, .null, .null, .null, .null, .null, .null, .null, .null, .null, .null, .int 0, .null, .null, .int 0, .null, .null, .null, .null, .int 0, .null, .null, .int 0, .int 0, .null, .null, .null, .null, .null, .null, .null, .null, .null, .int 0, .null, .int 0, .null, .null, .null, .null, .null, .null, .null, .null, .null, .null, .int 0, .null, .null, .null] h → AW G m_Mod_init 1 43 1645373 F 12 [(0, .ref a)] [] (nx + 1, h) 1 12) : ∀ h, MIv nx h0 a 0 [.int 0, .int 0, .null, .null, .int 0, .null, .null, .null, .null, .null, .null, .null, .null, .null, .null, .int 0, .null, .null, .int 0, .null, .null, .null, .null, .int 0, .null, .null, .int 0, .int 0, .null, .null, .null, .null, .null, .null, .null, .null, .null, .int 0, .null, .int 0, .null, .null, .null, .null, .null, .null, .null, .null, .null, .null, .int 0, .null, .null, .null] h → AW G m_Mod_init 1 43 1645373 F 4 [(0, .ref a)] [] (nx + 0, h) 0 0 := by
  intro h hi
  refine aw_aload_n (i := 0) d_Mod_init_4 rfl rfl ?_
  refine aw_bipush (v := nI 12) d_Mod_init_5 (by decide) ?_
  refine aw_newaI (62) (N := 12) d_Mod_init_7 rfl (Nat.le_of_ble_eq_true rfl) (Nat.le_of_ble_eq_true rfl) (Nat.le_of_ble_eq_true rfl) ?_
  refine aw_nn hi.2.1 ?_
  intro h m_ f_ o_ hd_
  have hi := hi.nw m_ f_ hd_
  apply aw_putF d_Mod_init_9 pl_Mod_9 rfl; exact hi.1; exact Nat.le_of_ble_eq_true rfl; exact rfl; exact rfl
  refine aw_nm hi.1 ?_
  intro h m_ f_ o_
  exact kk h (hi.pt m_ f_ o_)
set_option maxHeartbeats 4000000 in
set_option maxRecDepth 20000 in
theorem mi_1 {G : aG} {F : FT} {nx a : Nat} {h0 : Nat → Option aC} (kk : ∀ h, MIv nx h0 a 2 [.int 0, .int 0, .ref (nx + 0), .ref (nx + 1), .int 0, .null, .null, .null, .null, .null, .null, .null, .null, .null, .null, .int 0, .null, .null, .int 0, .null, .null, .null, .null, .int 0, .null, .null, .int 0, .int 0, .null, .null, .null, .null, .null, .null, .null, .null, .null, .int 0, .null, .int 0, .null, .null, .null, .null, .null, .null, .null, .null, .null, .null, .int 0, .null, .null, .null] h → AW G m_Mod_init 1 43 1645373 F 20 [(0, .ref a)] [] (nx + 2, h) 2 24) : ∀ h, MIv nx h0 a 1 [.int 0, .int 0, .ref (nx + 0), .null, .int 0, .null, .null, .null, .null, .null, .null, .null, .null, .null, .null, .int 0, .null, .null, .int 0, .null, .null, .null, .null, .int 0, .null, .null, .int 0, .int 0, .null, .null, .null, .null, .null, .null, .null, .null, .null, .int 0, .null, .int 0, .null, .null, .null, .null, .null, .null, .null, .null, .null, .null, .int 0, .null, .null, .null] h → AW G m_Mod_init 1 43 1645373 F 12 [(0, .ref a)] [] (nx + 1, h) 1 12 := by
  intro h hi
  refine aw_aload_n (i := 0) d_Mod_init_12 rfl rfl ?_
  refine aw_bipush (v := nI 12) d_Mod_init_13 (by decide) ?_
  refine aw_newaI (63) (N := 12) d_Mod_init_15 rfl (Nat.le_of_ble_eq_true rfl) (Nat.le_of_ble_eq_true rfl) (Nat.le_of_ble_eq_true rfl) ?_
  refine aw_nn hi.2.1 ?_
  intro h m_ f_ o_ hd_
  have hi := hi.nw m_ f_ hd_
  apply aw_putF d_Mod_init_17 pl_Mod_13 rfl; exact hi.1; exact Nat.le_of_ble_eq_true rfl; exact rfl; exact rfl
  refine aw_nm hi.1 ?_
  intro h m_ f_ o_
  exact kk h (hi.pt m_ f_ o_)
set_option maxHeartbeats 4000000 in
set_option maxRecDepth 20000 in
theorem mi_2 {G : aG} {F : FT} {nx a : Nat} {h0 : Nat → Option aC} (kk : ∀ h, MIv nx h0 a 3 [.int 0, .int 0, .ref (nx + 0), .ref (nx + 1), .int 0, .ref (nx + 2), .null, .null, .null, .null, .null, .null, .null, .null, .null, .int 0, .null, .null, .int 0, .null, .null, .null, .null, .int 0, .null, .null, .int 0, .int 0, .null, .null, .null, .null, .null, .null, .null, .null, .null, .int 0, .null, .int 0, .null, .null, .null, .null, .null, .null, .null, .null, .null, .null, .int 0, .null, .null, .null] h → AW G m_Mod_init 1 43 1645373 F 28 [(0, .ref a)] [] (nx + 3, h) 3 48) : ∀ h, MIv nx h0 a 2 [.int 0, .int 0, .ref (nx + 0), .ref (nx + 1), .int 0, .null, .null, .null, .null, .null, .null, .null, .null, .null, .null, .int 0, .null, .null, .int 0, .null, .null, .null, .null, .int 0, .null, .null, .int 0, .int 0, .null, .null, .null, .null, .null, .null, .null, .null, .null, .int 0, .null, .int 0, .null, .null, .null, .null, .null, .null, .null, .null, .null, .null, .int 0, .null, .null, .null] h → AW G m_Mod_init 1 43 1645373 F 20 [(0, .ref a)] [] (nx + 2, h) 2 24 := by
  intro h hi
  refine aw_aload_n (i := 0) d_Mod_init_20 rfl rfl ?_
  refine aw_bipush (v := nI 24) d_Mod_init_21 (by decide) ?_
  refine aw_newaI (65) (N := 24) d_Mod_init_23 rfl (Nat.le_of_ble_eq_true rfl) (Nat.le_of_ble_eq_true rfl) (Nat.le_of_ble_eq_true rfl) ?_
  refine aw_nn hi.2.1 ?_
  intro h m_ f_ o_ hd_
  have hi := hi.nw m_ f_ hd_
  apply aw_putF d_Mod_init_25 pl_Mod_16 rfl; exact hi.1; exact Nat.le_of_ble_eq_true rfl; exact rfl; exact rfl
  refine aw_nm hi.1 ?_
  intro h m_ f_ o_
  exact kk h (hi.pt m_ f_ o_)
set_option maxHeartbeats 4000000 in
set_option maxRecDepth 20000 in
theorem mi_3 {G : aG} {F : FT} {nx a : Nat} {h0 : Nat → Option aC} (kk : ∀ h, MIv nx h0 a 4 [.int 0, .int 0, .ref (nx + 0), .ref (nx + 1), .int 0, .ref (nx + 2), .ref (nx + 3), .null, .null, .null, .null, .null, .null, .null, .null, .int 0, .null, .null, .int 0, .null, .null, .null, .null, .int 0, .null, .null, .int 0, .int 0, .null, .null, .null, .null, .null, .null, .null, .null, .null, .int 0, .null, .int 0, .null, .null, .null, .null, .null, .null, .null, .null, .null, .null, .int 0, .null, .null, .null] h → AW G m_Mod_init 1 43 1645373 F 36 [(0, .ref a)] [] (nx + 4, h) 4 72) : ∀ h, MIv nx h0 a 3 [.int 0, .int 0, .ref (nx + 0), .ref (nx + 1), .int 0, .ref (nx + 2), .null, .null, .null, .null, .null, .null, .null, .null, .null, .int 0, .null, .null, .int 0, .null, .null, .null, .null, .int 0, .null, .null, .int 0, .int 0, .null, .null, .null, .null, .null, .null, .null, .null, .null, .int 0, .null, .int 0, .null, .null, .null, .null, .null, .null, .null, .null, .null, .null, .int 0, .null, .null, .null] h → AW G m_Mod_init 1 43 1645373 F 28 [(0, .ref a)] [] (nx + 3, h) 3 48 := by
  intro h hi
  refine aw_aload_n (i := 0) d_Mod_init_28 rfl rfl ?_
  refine aw_bipush (v := nI 24) d_Mod_init_29 (by decide) ?_
  refine aw_newaI (66) (N := 24) d_Mod_init_31 rfl (Nat.le_of_ble_eq_true rfl) (Nat.le_of_ble_eq_true rfl) (Nat.le_of_ble_eq_true rfl) ?_
  refine aw_nn hi.2.1 ?_
  intro h m_ f_ o_ hd_
  have hi := hi.nw m_ f_ hd_
  apply aw_putF d_Mod_init_33 pl_Mod_19 rfl; exact hi.1; exact Nat.le_of_ble_eq_true rfl; exact rfl; exact rfl
  refine aw_nm hi.1 ?_
  intro h m_ f_ o_
  exact kk h (hi.pt m_ f_ o_)
set_option maxHeartbeats 4000000 in
set_option maxRecDepth 20000 in
theorem mi_4 {G : aG} {F : FT} {nx a : Nat} {h0 : Nat → Option aC} (kk : ∀ h, MIv nx h0 a 5 [.int 0, .int 0, .ref (nx + 0), .ref (nx + 1), .int 0, .ref (nx + 2), .ref (nx + 3), .ref (nx + 4), .null, .null, .null, .null, .null, .null, .null, .int 0, .null, .null, .int 0, .null, .null, .null, .null, .int 0, .null, .null, .int 0, .int 0, .null, .null, .null, .null, .null, .null, .null, .null, .null, .int 0, .null, .int 0, .null, .null, .null, .null, .null, .null, .null, .null, .null, .null, .int 0, .null, .null, .null] h → AW G m_Mod_init 1 43 1645373 F 44 [(0, .ref a)] [] (nx + 5, h) 5 96) : ∀ h, MIv nx h0 a 4 [.int 0, .int 0, .ref (nx + 0), .ref (nx + 1), .int 0, .ref (nx + 2), .ref (nx + 3), .null, .null, .null, .null, .null, .null, .null, .null, .int 0, .null, .null, .int 0, .null, .null, .null, .null, .int 0, .null, .null, .int 0, .int 0, .null, .null, .null, .null, .null, .null, .null, .null, .null, .int 0, .null, .int 0, .null, .null, .null, .null, .null, .null, .null, .null, .null, .null, .int 0, .null, .null, .null] h → AW G m_Mod_init 1 43 1645373 F 36 [(0, .ref a)] [] (nx + 4, h) 4 72 := by
  intro h hi
  refine aw_aload_n (i := 0) d_Mod_init_36 rfl rfl ?_
  refine aw_bipush (v := nI 24) d_Mod_init_37 (by decide) ?_
  refine aw_newaI (67) (N := 24) d_Mod_init_39 rfl (Nat.le_of_ble_eq_true rfl) (Nat.le_of_ble_eq_true rfl) (Nat.le_of_ble_eq_true rfl) ?_
  refine aw_nn hi.2.1 ?_
  intro h m_ f_ o_ hd_
  have hi := hi.nw m_ f_ hd_
  apply aw_putF d_Mod_init_41 pl_Mod_22 rfl; exact hi.1; exact Nat.le_of_ble_eq_true rfl; exact rfl; exact rfl
  refine aw_nm hi.1 ?_
  intro h m_ f_ o_
  exact kk h (hi.pt m_ f_ o_)
set_option maxHeartbeats 4000000 in
set_option maxRecDepth 20000 in
theorem mi_5 {G : aG} {F : FT} {nx a : Nat} {h0 : Nat → Option aC} (kk : ∀ h, MIv nx h0 a 6 [.int 0, .int 0, .ref (nx + 0), .ref (nx + 1), .int 0, .ref (nx + 2), .ref (nx + 3), .ref (nx + 4), .ref (nx + 5), .null, .null, .null, .null, .null, .null, .int 0, .null, .null, .int 0, .null, .null, .null, .null, .int 0, .null, .null, .int 0, .int 0, .null, .null, .null, .null, .null, .null, .null, .null, .null, .int 0, .null, .int 0, .null, .null, .null, .null, .null, .null, .null, .null, .null, .null, .int 0, .null, .null, .null] h → AW G m_Mod_init 1 43 1645373 F 52 [(0, .ref a)] [] (nx + 6, h) 6 120) : ∀ h, MIv nx h0 a 5 [.int 0, .int 0, .ref (nx + 0), .ref (nx + 1), .int 0, .ref (nx + 2), .ref (nx + 3), .ref (nx + 4), .null, .null, .null, .null, .null, .null, .null, .int 0, .null, .null, .int 0, .null, .null, .null, .null, .int 0, .null, .null, .int 0, .int 0, .null, .null, .null, .null, .null, .null, .null, .null, .null, .int 0, .null, .int 0, .null, .null, .null, .null, .null, .null, .null, .null, .null, .null, .int 0, .null, .null, .null] h → AW G m_Mod_init 1 43 1645373 F 44 [(0, .ref a)] [] (nx + 5, h) 5 96 := by
  intro h hi
  refine aw_aload_n (i := 0) d_Mod_init_44 rfl rfl ?_
  refine aw_bipush (v := nI 24) d_Mod_init_45 (by decide) ?_
  refine aw_newaI (68) (N := 24) d_Mod_init_47 rfl (Nat.le_of_ble_eq_true rfl) (Nat.le_of_ble_eq_true rfl) (Nat.le_of_ble_eq_true rfl) ?_
  refine aw_nn hi.2.1 ?_
  intro h m_ f_ o_ hd_
  have hi := hi.nw m_ f_ hd_
  apply aw_putF d_Mod_init_49 pl_Mod_25 rfl; exact hi.1; exact Nat.le_of_ble_eq_true rfl; exact rfl; exact rfl
  refine aw_nm hi.1 ?_
  intro h m_ f_ o_
  exact kk h (hi.pt m_ f_ o_)
set_option maxHeartbeats 4000000 in
set_option maxRecDepth 20000 in
theorem mi_6 {G : aG} {F : FT} {nx a : Nat} {h0 : Nat → Option aC} (kk : ∀ h, MIv nx h0 a 7 [.int 0, .int 0, .ref (nx + 0), .ref (nx + 1), .int 0, .ref (nx + 2), .ref (nx + 3), .ref (nx + 4), .ref (nx + 5), .ref (nx + 6), .null, .null, .null, .null, .null, .int 0, .null, .null, .int 0, .null, .null, .null, .null, .int 0, .null, .null, .int 0, .int 0, .null, .null, .null, .null, .null, .null, .null, .null, .null, .int 0, .null, .int 0, .null, .null, .null, .null, .null, .null, .null, .null, .null, .null, .int 0, .null, .null, .null] h → AW G m_Mod_init 1 43 1645373 F 60 [(0, .ref a)] [] (nx + 7, h) 7 144) : ∀ h, MIv nx h0 a 6 [.int 0, .int 0, .ref (nx + 0), .ref (nx + 1), .int 0, .ref (nx + 2), .ref (nx + 3), .ref (nx + 4), .ref (nx + 5), .null, .null, .null, .null, .null, .null, .int 0, .null, .null, .int 0, .null, .null, .null, .null, .int 0, .null, .null, .int 0, .int 0, .null, .null, .null, .null, .null, .null, .null, .null, .null, .int 0, .null, .int 0, .null, .null, .null, .null, .null, .null, .null, .null, .null, .null, .int 0, .null, .null, .null] h → AW G m_Mod_init 1 43 1645373 F 52 [(0, .ref a)] [] (nx + 6, h) 6 120 := by
  intro h hi
  refine aw_aload_n (i := 0) d_Mod_init_52 rfl rfl ?_
  refine aw_bipush (v := nI 24) d_Mod_init_53 (by decide) ?_
  refine aw_newaI (69) (N := 24) d_Mod_init_55 rfl (Nat.le_of_ble_eq_true rfl) (Nat.le_of_ble_eq_true rfl) (Nat.le_of_ble_eq_true rfl) ?_
  refine aw_nn hi.2.1 ?_
  intro h m_ f_ o_ hd_
  have hi := hi.nw m_ f_ hd_
  apply aw_putF d_Mod_init_57 pl_Mod_28 rfl; exact hi.1; exact Nat.le_of_ble_eq_true rfl; exact rfl; exact rfl
  refine aw_nm hi.1 ?_
  intro h m_ f_ o_
  exact kk h (hi.pt m_ f_ o_)
set_option maxHeartbeats 4000000 in
set_option maxRecDepth 20000 in
theorem mi_7 {G : aG} {F : FT} {nx a : Nat} {h0 : Nat → Option aC} (kk : ∀ h, MIv nx h0 a 8 [.int 0, .int 0, .ref (nx + 0), .ref (nx + 1), .int 0, .ref (nx + 2), .ref (nx + 3), .ref (nx + 4), .ref (nx + 5), .ref (nx + 6), .ref (nx + 7), .null, .null, .null, .null, .int 0, .null, .null, .int 0, .null, .null, .null, .null, .int 0, .null, .null, .int 0, .int 0, .null, .null, .null, .null, .null, .null, .null, .null, .null, .int 0, .null, .int 0, .null, .null, .null, .null, .null, .null, .null, .null, .null, .null, .int 0, .null, .null, .null] h → AW G m_Mod_init 1 43 1645373 F 68 [(0, .ref a)] [] (nx + 8, h) 8 240) : ∀ h, MIv nx h0 a 7 [.int 0, .int 0, .ref (nx + 0), .ref (nx + 1), .int 0, .ref (nx + 2), .ref (nx + 3), .ref (nx + 4), .ref (nx + 5), .ref (nx + 6), .null, .null, .null, .null, .null, .int 0, .null, .null, .int 0, .null, .null, .null, .null, .int 0, .null, .null, .int 0, .int 0, .null, .null, .null, .null, .null, .null, .null, .null, .null, .int 0, .null, .int 0, .null, .null, .null, .null, .null, .null, .null, .null, .null, .null, .int 0, .null, .null, .null] h → AW G m_Mod_init 1 43 1645373 F 60 [(0, .ref a)] [] (nx + 7, h) 7 144 := by
  intro h hi
  refine aw_aload_n (i := 0) d_Mod_init_60 rfl rfl ?_
  refine aw_bipush (v := nI 96) d_Mod_init_61 (by decide) ?_
  refine aw_newaI (70) (N := 96) d_Mod_init_63 rfl (Nat.le_of_ble_eq_true rfl) (Nat.le_of_ble_eq_true rfl) (Nat.le_of_ble_eq_true rfl) ?_
  refine aw_nn hi.2.1 ?_
  intro h m_ f_ o_ hd_
  have hi := hi.nw m_ f_ hd_
  apply aw_putF d_Mod_init_65 pl_Mod_31 rfl; exact hi.1; exact Nat.le_of_ble_eq_true rfl; exact rfl; exact rfl
  refine aw_nm hi.1 ?_
  intro h m_ f_ o_
  exact kk h (hi.pt m_ f_ o_)
set_option maxHeartbeats 4000000 in
set_option maxRecDepth 20000 in
theorem mi_8 {G : aG} {F : FT} {nx a : Nat} {h0 : Nat → Option aC} (kk : ∀ h, MIv nx h0 a 9 [.int 0, .int 0, .ref (nx + 0), .ref (nx + 1), .int 0, .ref (nx + 2), .ref (nx + 3), .ref (nx + 4), .ref (nx + 5), .ref (nx + 6), .ref (nx + 7), .ref (nx + 8), .null, .null, .null, .int 0, .null, .null, .int 0, .null, .null, .null, .null, .int 0, .null, .null, .int 0, .int 0, .null, .null, .null, .null, .null, .null, .null, .null, .null, .int 0, .null, .int 0, .null, .null, .null, .null, .null, .null, .null, .null, .null, .null, .int 0, .null, .null, .null] h → AW G m_Mod_init 1 43 1645373 F 76 [(0, .ref a)] [] (nx + 9, h) 9 336) : ∀ h, MIv nx h0 a 8 [.int 0, .int 0, .ref (nx + 0), .ref (nx + 1), .int 0, .ref (nx + 2), .ref (nx + 3), .ref (nx + 4), .ref (nx + 5), .ref (nx + 6), .ref (nx + 7), .null, .null, .null, .null, .int 0, .null, .null, .int 0, .null, .null, .null, .null, .int 0, .null, .null, .int 0, .int 0, .null, .null, .null, .null, .null, .null, .null, .null, .null, .int 0, .null, .int 0, .null, .null, .null, .null, .null, .null, .null, .null, .null, .null, .int 0, .null, .null, .null] h → AW G m_Mod_init 1 43 1645373 F 68 [(0, .ref a)] [] (nx + 8, h) 8 240 := by
  intro h hi
  refine aw_aload_n (i := 0) d_Mod_init_68 rfl rfl ?_
  refine aw_bipush (v := nI 96) d_Mod_init_69 (by decide) ?_
  refine aw_newaI (71) (N := 96) d_Mod_init_71 rfl (Nat.le_of_ble_eq_true rfl) (Nat.le_of_ble_eq_true rfl) (Nat.le_of_ble_eq_true rfl) ?_
  refine aw_nn hi.2.1 ?_
  intro h m_ f_ o_ hd_
  have hi := hi.nw m_ f_ hd_
  apply aw_putF d_Mod_init_73 pl_Mod_34 rfl; exact hi.1; exact Nat.le_of_ble_eq_true rfl; exact rfl; exact rfl
  refine aw_nm hi.1 ?_
  intro h m_ f_ o_
  exact kk h (hi.pt m_ f_ o_)
set_option maxHeartbeats 4000000 in
set_option maxRecDepth 20000 in
theorem mi_9 {G : aG} {F : FT} {nx a : Nat} {h0 : Nat → Option aC} (kk : ∀ h, MIv nx h0 a 10 [.int 0, .int 0, .ref (nx + 0), .ref (nx + 1), .int 0, .ref (nx + 2), .ref (nx + 3), .ref (nx + 4), .ref (nx + 5), .ref (nx + 6), .ref (nx + 7), .ref (nx + 8), .ref (nx + 9), .null, .null, .int 0, .null, .null, .int 0, .null, .null, .null, .null, .int 0, .null, .null, .int 0, .int 0, .null, .null, .null, .null, .null, .null, .null, .null, .null, .int 0, .null, .int 0, .null, .null, .null, .null, .null, .null, .null, .null, .null, .null, .int 0, .null, .null, .null] h → AW G m_Mod_init 1 43 1645373 F 84 [(0, .ref a)] [] (nx + 10, h) 10 360) : ∀ h, MIv nx h0 a 9 [.int 0, .int 0, .ref (nx + 0), .ref (nx + 1), .int 0, .ref (nx + 2), .ref (nx + 3), .ref (nx + 4), .ref (nx + 5), .ref (nx + 6), .ref (nx + 7), .ref (nx + 8), .null, .null, .null, .int 0, .null, .null, .int 0, .null, .null, .null, .null, .int 0, .null, .null, .int 0, .int 0, .null, .null, .null, .null, .null, .null, .null, .null, .null, .int 0, .null, .int 0, .null, .null, .null, .null, .null, .null, .null, .null, .null, .null, .int 0, .null, .null, .null] h → AW G m_Mod_init 1 43 1645373 F 76 [(0, .ref a)] [] (nx + 9, h) 9 336 := by
  intro h hi
  refine aw_aload_n (i := 0) d_Mod_init_76 rfl rfl ?_
  refine aw_bipush (v := nI 24) d_Mod_init_77 (by decide) ?_
  refine aw_newaI (72) (N := 24) d_Mod_init_79 rfl (Nat.le_of_ble_eq_true rfl) (Nat.le_of_ble_eq_true rfl) (Nat.le_of_ble_eq_true rfl) ?_
  refine aw_nn hi.2.1 ?_
  intro h m_ f_ o_ hd_
  have hi := hi.nw m_ f_ hd_
  apply aw_putF d_Mod_init_81 pl_Mod_37 rfl; exact hi.1; exact Nat.le_of_ble_eq_true rfl; exact rfl; exact rfl
  refine aw_nm hi.1 ?_
  intro h m_ f_ o_
  exact kk h (hi.pt m_ f_ o_)
set_option maxHeartbeats 4000000 in
set_option maxRecDepth 20000 in
theorem mi_10 {G : aG} {F : FT} {nx a : Nat} {h0 : Nat → Option aC} (kk : ∀ h, MIv nx h0 a 11 [.int 0, .int 0, .ref (nx + 0), .ref (nx + 1), .int 0, .ref (nx + 2), .ref (nx + 3), .ref (nx + 4), .ref (nx + 5), .ref (nx + 6), .ref (nx + 7), .ref (nx + 8), .ref (nx + 9), .ref (nx + 10), .null, .int 0, .null, .null, .int 0, .null, .null, .null, .null, .int 0, .null, .null, .int 0, .int 0, .null, .null, .null, .null, .null, .null, .null, .null, .null, .int 0, .null, .int 0, .null, .null, .null, .null, .null, .null, .null, .null, .null, .null, .int 0, .null, .null, .null] h → AW G m_Mod_init 1 43 1645373 F 92 [(0, .ref a)] [] (nx + 11, h) 11 456) : ∀ h, MIv nx h0 a 10 [.int 0, .int 0, .ref (nx + 0), .ref (nx + 1), .int 0, .ref (nx + 2), .ref (nx + 3), .ref (nx + 4), .ref (nx + 5), .ref (nx + 6), .ref (nx + 7), .ref (nx + 8), .ref (nx + 9), .null, .null, .int 0, .null, .null, .int 0, .null, .null, .null, .null, .int 0, .null, .null, .int 0, .int 0, .null, .null, .null, .null, .null, .null, .null, .null, .null, .int 0, .null, .int 0, .null, .null, .null, .null, .null, .null, .null, .null, .null, .null, .int 0, .null, .null, .null] h → AW G m_Mod_init 1 43 1645373 F 84 [(0, .ref a)] [] (nx + 10, h) 10 360 := by
  intro h hi
  refine aw_aload_n (i := 0) d_Mod_init_84 rfl rfl ?_
  refine aw_bipush (v := nI 96) d_Mod_init_85 (by decide) ?_
  refine aw_newaI (73) (N := 96) d_Mod_init_87 rfl (Nat.le_of_ble_eq_true rfl) (Nat.le_of_ble_eq_true rfl) (Nat.le_of_ble_eq_true rfl) ?_
  refine aw_nn hi.2.1 ?_
  intro h m_ f_ o_ hd_
  have hi := hi.nw m_ f_ hd_
  apply aw_putF d_Mod_init_89 pl_Mod_40 rfl; exact hi.1; exact Nat.le_of_ble_eq_true rfl; exact rfl; exact rfl
  refine aw_nm hi.1 ?_
  intro h m_ f_ o_
  exact kk h (hi.pt m_ f_ o_)
set_option maxHeartbeats 4000000 in
set_option maxRecDepth 20000 in
theorem mi_11 {G : aG} {F : FT} {nx a : Nat} {h0 : Nat → Option aC} (kk : ∀ h, MIv nx h0 a 12 [.int 0, .int 0, .ref (nx + 0), .ref (nx + 1), .int 0, .ref (nx + 2), .ref (nx + 3), .ref (nx + 4), .ref (nx + 5), .ref (nx + 6), .ref (nx + 7), .ref (nx + 8), .ref (nx + 9), .ref (nx + 10), .ref (nx + 11), .int 0, .null, .null, .int 0, .null, .null, .null, .null, .int 0, .null, .null, .int 0, .int 0, .null, .null, .null, .null, .null, .null, .null, .null, .null, .int 0, .null, .int 0, .null, .null, .null, .null, .null, .null, .null, .null, .null, .null, .int 0, .null, .null, .null] h → AW G m_Mod_init 1 43 1645373 F 100 [(0, .ref a)] [] (nx + 12, h) 12 552) : ∀ h, MIv nx h0 a 11 [.int 0, .int 0, .ref (nx + 0), .ref (nx + 1), .int 0, .ref (nx + 2), .ref (nx + 3), .ref (nx + 4), .ref (nx + 5), .ref (nx + 6), .ref (nx + 7), .ref (nx + 8), .ref (nx + 9), .ref (nx + 10), .null, .int 0, .null, .null, .int 0, .null, .null, .null, .null, .int 0, .null, .null, .int 0, .int 0, .null, .null, .null, .null, .null, .null, .null, .null, .null, .int 0, .null, .int 0, .null, .null, .null, .null, .null, .null, .null, .null, .null, .null, .int 0, .null, .null, .null] h → AW G m_Mod_init 1 43 1645373 F 92 [(0, .ref a)] [] (nx + 11, h) 11 456 := by
  intro h hi
  refine aw_aload_n (i := 0) d_Mod_init_92 rfl rfl ?_
  refine aw_bipush (v := nI 96) d_Mod_init_93 (by decide) ?_
  refine aw_newaI (74) (N := 96) d_Mod_init_95 rfl (Nat.le_of_ble_eq_true rfl) (Nat.le_of_ble_eq_true rfl) (Nat.le_of_ble_eq_true rfl) ?_
  refine aw_nn hi.2.1 ?_
  intro h m_ f_ o_ hd_
  have hi := hi.nw m_ f_ hd_
  apply aw_putF d_Mod_init_97 pl_Mod_43 rfl; exact hi.1; exact Nat.le_of_ble_eq_true rfl; exact rfl; exact rfl
  refine aw_nm hi.1 ?_
  intro h m_ f_ o_
  exact kk h (hi.pt m_ f_ o_)
set_option maxHeartbeats 4000000 in
set_option maxRecDepth 20000 in
theorem mi_12 {G : aG} {F : FT} {nx a : Nat} {h0 : Nat → Option aC} (kk : ∀ h, MIv nx h0 a 13 [.int 0, .int 0, .ref (nx + 0), .ref (nx + 1), .int 0, .ref (nx + 2), .ref (nx + 3), .ref (nx + 4), .ref (nx + 5), .ref (nx + 6), .ref (nx + 7), .ref (nx + 8), .ref (nx + 9), .ref (nx + 10), .ref (nx + 11), .int 0, .ref (nx + 12), .null, .int 0, .null, .null, .null, .null, .int 0, .null, .null, .int 0, .int 0, .null, .null, .null, .null, .null, .null, .null, .null, .null, .int 0, .null, .int 0, .null, .null, .null, .null, .null, .null, .null, .null, .null, .null, .int 0, .null, .null, .null] h → AW G m_Mod_init 1 43 1645373 F 108 [(0, .ref a)] [] (nx + 13, h) 13 558) : ∀ h, MIv nx h0 a 12 [.int 0, .int 0, .ref (nx + 0), .ref (nx + 1), .int 0, .ref (nx + 2), .ref (nx + 3), .ref (nx + 4), .ref (nx + 5), .ref (nx + 6), .ref (nx + 7), .ref (nx + 8), .ref (nx + 9), .ref (nx + 10), .ref (nx + 11), .int 0, .null, .null, .int 0, .null, .null, .null, .null, .int 0, .null, .null, .int 0, .int 0, .null, .null, .null, .null, .null, .null, .null, .null, .null, .int 0, .null, .int 0, .null, .null, .null, .null, .null, .null, .null, .null, .null, .null, .int 0, .null, .null, .null] h → AW G m_Mod_init 1 43 1645373 F 100 [(0, .ref a)] [] (nx + 12, h) 12 552 := by
  intro h hi
  refine aw_aload_n (i := 0) d_Mod_init_100 rfl rfl ?_
  refine aw_bipush (v := nI 6) d_Mod_init_101 (by decide) ?_
  refine aw_newaI (76) (N := 6) d_Mod_init_103 rfl (Nat.le_of_ble_eq_true rfl) (Nat.le_of_ble_eq_true rfl) (Nat.le_of_ble_eq_true rfl) ?_
  refine aw_nn hi.2.1 ?_
  intro h m_ f_ o_ hd_
  have hi := hi.nw m_ f_ hd_
  apply aw_putF d_Mod_init_105 pl_Mod_46 rfl; exact hi.1; exact Nat.le_of_ble_eq_true rfl; exact rfl; exact rfl
  refine aw_nm hi.1 ?_
  intro h m_ f_ o_
  exact kk h (hi.pt m_ f_ o_)
set_option maxHeartbeats 4000000 in
set_option maxRecDepth 20000 in
theorem mi_13 {G : aG} {F : FT} {nx a : Nat} {h0 : Nat → Option aC} (kk : ∀ h, MIv nx h0 a 14 [.int 0, .int 0, .ref (nx + 0), .ref (nx + 1), .int 0, .ref (nx + 2), .ref (nx + 3), .ref (nx + 4), .ref (nx + 5), .ref (nx + 6), .ref (nx + 7), .ref (nx + 8), .ref (nx + 9), .ref (nx + 10), .ref (nx + 11), .int 0, .ref (nx + 12), .ref (nx + 13), .int 0, .null, .null, .null, .null, .int 0, .null, .null, .int 0, .int 0, .null, .null, .null, .null, .null, .null, .null, .null, .null, .int 0, .null, .int 0, .null, .null, .null, .null, .null, .null, .null, .null, .null, .null, .int 0, .null, .null, .null] h → AW G m_Mod_init 1 43 1645373 F 116 [(0, .ref a)] [] (nx + 14, h) 14 564) : ∀ h, MIv nx h0 a 13 [.int 0, .int 0, .ref (nx + 0), .ref (nx + 1), .int 0, .ref (nx + 2), .ref (nx + 3), .ref (nx + 4), .ref (nx + 5), .ref (nx + 6), .ref (nx + 7), .ref (nx + 8), .ref (nx + 9), .ref (nx + 10), .ref (nx + 11), .int 0, .ref (nx + 12), .null, .int 0, .null, .null, .null, .null, .int 0, .null, .null, .int 0, .int 0, .null, .null, .null, .null, .null, .null, .null, .null, .null, .int 0, .null, .int 0, .null, .null, .null, .null, .null, .null, .null, .null, .null, .null, .int 0, .null, .null, .null] h → AW G m_Mod_init 1 43 1645373 F 108 [(0, .ref a)] [] (nx + 13, h) 13 558 := by
  intro h hi
  refine aw_aload_n (i := 0) d_Mod_init_108 rfl rfl ?_
  refine aw_bipush (v := nI 6) d_Mod_init_109 (by decide) ?_
  refine aw_newaI (77) (N := 6) d_Mod_init_111 rfl (Nat.le_of_ble_eq_true rfl) (Nat.le_of_ble_eq_true rfl) (Nat.le_of_ble_eq_true rfl) ?_
  refine aw_nn hi.2.1 ?_
  intro h m_ f_ o_ hd_
  have hi := hi.nw m_ f_ hd_
  apply aw_putF d_Mod_init_113 pl_Mod_49 rfl; exact hi.1; exact Nat.le_of_ble_eq_true rfl; exact rfl; exact rfl
  refine aw_nm hi.1 ?_
  intro h m_ f_ o_
  exact kk h (hi.pt m_ f_ o_)
set_option maxHeartbeats 4000000 in
set_option maxRecDepth 20000 in
theorem mi_14 {G : aG} {F : FT} {nx a : Nat} {h0 : Nat → Option aC} (kk : ∀ h, MIv nx h0 a 14 [.int 0, .int 0, .ref (nx + 0), .ref (nx + 1), .int 0, .ref (nx + 2), .ref (nx + 3), .ref (nx + 4), .ref (nx + 5), .ref (nx + 6), .ref (nx + 7), .ref (nx + 8), .ref (nx + 9), .ref (nx + 10), .ref (nx + 11), .int 0, .ref (nx + 12), .ref (nx + 13), .int (nI 2), .null, .null, .null, .null, .int 0, .null, .null, .int 0, .int 0, .null, .null, .null, .null, .null, .null, .null, .null, .null, .int 0, .null, .int 0, .null, .null, .null, .null, .null, .null, .null, .null, .null, .null, .int 0, .null, .null, .null] h → AW G m_Mod_init 1 43 1645373 F 121 [(0, .ref a)] [] (nx + 14, h) 14 564) : ∀ h, MIv nx h0 a 14 [.int 0, .int 0, .ref (nx + 0), .ref (nx + 1), .int 0, .ref (nx + 2), .ref (nx + 3), .ref (nx + 4), .ref (nx + 5), .ref (nx + 6), .ref (nx + 7), .ref (nx + 8), .ref (nx + 9), .ref (nx + 10), .ref (nx + 11), .int 0, .ref (nx + 12), .ref (nx + 13), .int 0, .null, .null, .null, .null, .int 0, .null, .null, .int 0, .int 0, .null, .null, .null, .null, .null, .null, .null, .null, .null, .int 0, .null, .int 0, .null, .null, .null, .null, .null, .null, .null, .null, .null, .null, .int 0, .null, .null, .null] h → AW G m_Mod_init 1 43 1645373 F 116 [(0, .ref a)] [] (nx + 14, h) 14 564 := by
  intro h hi
  refine aw_aload_n (i := 0) d_Mod_init_116 rfl rfl ?_
  refine aw_iconst (v := nI 2) d_Mod_init_117 (by decide) ?_
  apply aw_put d_Mod_init_118 pl_Mod_52; exact hi.1; exact Nat.le_of_ble_eq_true rfl; exact rfl; exact rfl
  refine aw_nm hi.1 ?_
  intro h m_ f_ o_
  exact kk h (hi.pt m_ f_ o_)
set_option maxHeartbeats 4000000 in
set_option maxRecDepth 20000 in
theorem mi_15 {G : aG} {F : FT} {nx a : Nat} {h0 : Nat → Option aC} (kk : ∀ h, MIv nx h0 a 15 [.int 0, .int 0, .ref (nx + 0), .ref (nx + 1), .int 0, .ref (nx + 2), .ref (nx + 3), .ref (nx + 4), .ref (nx + 5), .ref (nx + 6), .ref (nx + 7), .ref (nx + 8), .ref (nx + 9), .ref (nx + 10), .ref (nx + 11), .int 0, .ref (nx + 12), .ref (nx + 13), .int (nI 2), .ref (nx + 14), .null, .null, .null, .int 0, .null, .null, .int 0, .int 0, .null, .null, .null, .null, .null, .null, .null, .null, .null, .int 0, .null, .int 0, .null, .null, .null, .null, .null, .null, .null, .null, .null, .null, .int 0, .null, .null, .null] h → AW G m_Mod_init 1 43 1645373 F 129 [(0, .ref a)] [] (nx + 15, h) 15 576) : ∀ h, MIv nx h0 a 14 [.int 0, .int 0, .ref (nx + 0), .ref (nx + 1), .int 0, .ref (nx + 2), .ref (nx + 3), .ref (nx + 4), .ref (nx + 5), .ref (nx + 6), .ref (nx + 7), .ref (nx + 8), .ref (nx + 9), .ref (nx + 10), .ref (nx + 11), .int 0, .ref (nx + 12), .ref (nx + 13), .int (nI 2), .null, .null, .null, .null, .int 0, .null, .null, .int 0, .int 0, .null, .null, .null, .null, .null, .null, .null, .null, .null, .int 0, .null, .int 0, .null, .null, .null, .null, .null, .null, .null, .null, .null, .null, .int 0, .null, .null, .null] h → AW G m_Mod_init 1 43 1645373 F 121 [(0, .ref a)] [] (nx + 14, h) 14 564 := by
  intro h hi
  refine aw_aload_n (i := 0) d_Mod_init_121 rfl rfl ?_
  refine aw_bipush (v := nI 12) d_Mod_init_122 (by decide) ?_
  refine aw_newaI (79) (N := 12) d_Mod_init_124 rfl (Nat.le_of_ble_eq_true rfl) (Nat.le_of_ble_eq_true rfl) (Nat.le_of_ble_eq_true rfl) ?_
  refine aw_nn hi.2.1 ?_
  intro h m_ f_ o_ hd_
  have hi := hi.nw m_ f_ hd_
  apply aw_putF d_Mod_init_126 pl_Mod_56 rfl; exact hi.1; exact Nat.le_of_ble_eq_true rfl; exact rfl; exact rfl
  refine aw_nm hi.1 ?_
  intro h m_ f_ o_
  exact kk h (hi.pt m_ f_ o_)
set_option maxHeartbeats 4000000 in
set_option maxRecDepth 20000 in
theorem mi_16 {G : aG} {F : FT} {nx a : Nat} {h0 : Nat → Option aC} (kk : ∀ h, MIv nx h0 a 16 [.int 0, .int 0, .ref (nx + 0), .ref (nx + 1), .int 0, .ref (nx + 2), .ref (nx + 3), .ref (nx + 4), .ref (nx + 5), .ref (nx + 6), .ref (nx + 7), .ref (nx + 8), .ref (nx + 9), .ref (nx + 10), .ref (nx + 11), .int 0, .ref (nx + 12), .ref (nx + 13), .int (nI 2), .ref (nx + 14), .ref (nx + 15), .null, .null, .int 0, .null, .null, .int 0, .int 0, .null, .null, .null, .null, .null, .null, .null, .null, .null, .int 0, .null, .int 0, .null, .null, .null, .null, .null, .null, .null, .null, .null, .null, .int 0, .null, .null, .null] h → AW G m_Mod_init 1 43 1645373 F 137 [(0, .ref a)] [] (nx + 16, h) 16 588) : ∀ h, MIv nx h0 a 15 [.int 0, .int 0, .ref (nx + 0), .ref (nx + 1), .int 0, .ref (nx + 2), .ref (nx + 3), .ref (nx + 4), .ref (nx + 5), .ref (nx + 6), .ref (nx + 7), .ref (nx + 8), .ref (nx + 9), .ref (nx + 10), .ref (nx + 11), .int 0, .ref (nx + 12), .ref (nx + 13), .int (nI 2), .ref (nx + 14), .null, .null, .null, .int 0, .null, .null, .int 0, .int 0, .null, .null, .null, .null, .null, .null, .null, .null, .null, .int 0, .null, .int 0, .null, .null, .null, .null, .null, .null, .null, .null, .null, .null, .int 0, .null, .null, .null] h → AW G m_Mod_init 1 43 1645373 F 129 [(0, .ref a)] [] (nx + 15, h) 15 576 := by
  intro h hi
  refine aw_aload_n (i := 0) d_Mod_init_129 rfl rfl ?_
  refine aw_bipush (v := nI 12) d_Mod_init_130 (by decide) ?_
  refine aw_newaI (80) (N := 12) d_Mod_init_132 rfl (Nat.le_of_ble_eq_true rfl) (Nat.le_of_ble_eq_true rfl) (Nat.le_of_ble_eq_true rfl) ?_
  refine aw_nn hi.2.1 ?_
  intro h m_ f_ o_ hd_
  have hi := hi.nw m_ f_ hd_
  apply aw_putF d_Mod_init_134 pl_Mod_59 rfl; exact hi.1; exact Nat.le_of_ble_eq_true rfl; exact rfl; exact rfl
  refine aw_nm hi.1 ?_
  intro h m_ f_ o_
  exact kk h (hi.pt m_ f_ o_)
set_option maxHeartbeats 4000000 in
set_option maxRecDepth 20000 in
theorem mi_17 {G : aG} {F : FT} {nx a : Nat} {h0 : Nat → Option aC} (kk : ∀ h, MIv nx h0 a 17 [.int 0, .int 0, .ref (nx + 0), .ref (nx + 1), .int 0, .ref (nx + 2), .ref (nx + 3), .ref (nx + 4), .ref (nx + 5), .ref (nx + 6), .ref (nx + 7), .ref (nx + 8), .ref (nx + 9), .ref (nx + 10), .ref (nx + 11), .int 0, .ref (nx + 12), .ref (nx + 13), .int (nI 2), .ref (nx + 14), .ref (nx + 15), .ref (nx + 16), .null, .int 0, .null, .null, .int 0, .int 0, .null, .null, .null, .null, .null, .null, .null, .null, .null, .int 0, .null, .int 0, .null, .null, .null, .null, .null, .null, .null, .null, .null, .null, .int 0, .null, .null, .null] h → AW G m_Mod_init 1 43 1645373 F 145 [(0, .ref a)] [] (nx + 17, h) 17 600) : ∀ h, MIv nx h0 a 16 [.int 0, .int 0, .ref (nx + 0), .ref (nx + 1), .int 0, .ref (nx + 2), .ref (nx + 3), .ref (nx + 4), .ref (nx + 5), .ref (nx + 6), .ref (nx + 7), .ref (nx + 8), .ref (nx + 9), .ref (nx + 10), .ref (nx + 11), .int 0, .ref (nx + 12), .ref (nx + 13), .int (nI 2), .ref (nx + 14), .ref (nx + 15), .null, .null, .int 0, .null, .null, .int 0, .int 0, .null, .null, .null, .null, .null, .null, .null, .null, .null, .int 0, .null, .int 0, .null, .null, .null, .null, .null, .null, .null, .null, .null, .null, .int 0, .null, .null, .null] h → AW G m_Mod_init 1 43 1645373 F 137 [(0, .ref a)] [] (nx + 16, h) 16 588 := by
  intro h hi
  refine aw_aload_n (i := 0) d_Mod_init_137 rfl rfl ?_
  refine aw_bipush (v := nI 12) d_Mod_init_138 (by decide) ?_
  refine aw_newaI (81) (N := 12) d_Mod_init_140 rfl (Nat.le_of_ble_eq_true rfl) (Nat.le_of_ble_eq_true rfl) (Nat.le_of_ble_eq_true rfl) ?_
  refine aw_nn hi.2.1 ?_
  intro h m_ f_ o_ hd_
  have hi := hi.nw m_ f_ hd_
  apply aw_putF d_Mod_init_142 pl_Mod_62 rfl; exact hi.1; exact Nat.le_of_ble_eq_true rfl; exact rfl; exact rfl
  refine aw_nm hi.1 ?_
  intro h m_ f_ o_
  exact kk h (hi.pt m_ f_ o_)
set_option maxHeartbeats 4000000 in
set_option maxRecDepth 20000 in
theorem mi_18 {G : aG} {F : FT} {nx a : Nat} {h0 : Nat → Option aC} (kk : ∀ h, MIv nx h0 a 18 [.int 0, .int 0, .ref (nx + 0), .ref (nx + 1), .int 0, .ref (nx + 2), .ref (nx + 3), .ref (nx + 4), .ref (nx + 5), .ref (nx + 6), .ref (nx + 7), .ref (nx + 8), .ref (nx + 9), .ref (nx + 10), .ref (nx + 11), .int 0, .ref (nx + 12), .ref (nx + 13), .int (nI 2), .ref (nx + 14), .ref (nx + 15), .ref (nx + 16), .ref (nx + 17), .int 0, .null, .null, .int 0, .int 0, .null, .null, .null, .null, .null, .null, .null, .null, .null, .int 0, .null, .int 0, .null, .null, .null, .null, .null, .null, .null, .null, .null, .null, .int 0, .null, .null, .null] h → AW G m_Mod_init 1 43 1645373 F 153 [(0, .ref a)] [] (nx + 18, h) 18 612) : ∀ h, MIv nx h0 a 17 [.int 0, .int 0, .ref (nx + 0), .ref (nx + 1), .int 0, .ref (nx + 2), .ref (nx + 3), .ref (nx + 4), .ref (nx + 5), .ref (nx + 6), .ref (nx + 7), .ref (nx + 8), .ref (nx + 9), .ref (nx + 10), .ref (nx + 11), .int 0, .ref (nx + 12), .ref (nx + 13), .int (nI 2), .ref (nx + 14), .ref (nx + 15), .ref (nx + 16), .null, .int 0, .null, .null, .int 0, .int 0, .null, .null, .null, .null, .null, .null, .null, .null, .null, .int 0, .null, .int 0, .null, .null, .null, .null, .null, .null, .null, .null, .null, .null, .int 0, .null, .null, .null] h → AW G m_Mod_init 1 43 1645373 F 145 [(0, .ref a)] [] (nx + 17, h) 17 600 := by
  intro h hi
  refine aw_aload_n (i := 0) d_Mod_init_145 rfl rfl ?_
  refine aw_bipush (v := nI 12) d_Mod_init_146 (by decide) ?_
  refine aw_newaI (82) (N := 12) d_Mod_init_148 rfl (Nat.le_of_ble_eq_true rfl) (Nat.le_of_ble_eq_true rfl) (Nat.le_of_ble_eq_true rfl) ?_
  refine aw_nn hi.2.1 ?_
  intro h m_ f_ o_ hd_
  have hi := hi.nw m_ f_ hd_
  apply aw_putF d_Mod_init_150 pl_Mod_65 rfl; exact hi.1; exact Nat.le_of_ble_eq_true rfl; exact rfl; exact rfl
  refine aw_nm hi.1 ?_
  intro h m_ f_ o_
  exact kk h (hi.pt m_ f_ o_)
set_option maxHeartbeats 4000000 in
set_option maxRecDepth 20000 in
theorem mi_19 {G : aG} {F : FT} {nx a : Nat} {h0 : Nat → Option aC} (kk : ∀ h, MIv nx h0 a 18 [.int 0, .int 0, .ref (nx + 0), .ref (nx + 1), .int 0, .ref (nx + 2), .ref (nx + 3), .ref (nx + 4), .ref (nx + 5), .ref (nx + 6), .ref (nx + 7), .ref (nx + 8), .ref (nx + 9), .ref (nx + 10), .ref (nx + 11), .int 0, .ref (nx + 12), .ref (nx + 13), .int (nI 2), .ref (nx + 14), .ref (nx + 15), .ref (nx + 16), .ref (nx + 17), .int (nI 1), .null, .null, .int 0, .int 0, .null, .null, .null, .null, .null, .null, .null, .null, .null, .int 0, .null, .int 0, .null, .null, .null, .null, .null, .null, .null, .null, .null, .null, .int 0, .null, .null, .null] h → AW G m_Mod_init 1 43 1645373 F 158 [(0, .ref a)] [] (nx + 18, h) 18 612) : ∀ h, MIv nx h0 a 18 [.int 0, .int 0, .ref (nx + 0), .ref (nx + 1), .int 0, .ref (nx + 2), .ref (nx + 3), .ref (nx + 4), .ref (nx + 5), .ref (nx + 6), .ref (nx + 7), .ref (nx + 8), .ref (nx + 9), .ref (nx + 10), .ref (nx + 11), .int 0, .ref (nx + 12), .ref (nx + 13), .int (nI 2), .ref (nx + 14), .ref (nx + 15), .ref (nx + 16), .ref (nx + 17), .int 0, .null, .null, .int 0, .int 0, .null, .null, .null, .null, .null, .null, .null, .null, .null, .int 0, .null, .int 0, .null, .null, .null, .null, .null, .null, .null, .null, .null, .null, .int 0, .null, .null, .null] h → AW G m_Mod_init 1 43 1645373 F 153 [(0, .ref a)] [] (nx + 18, h) 18 612 := by
  intro h hi
  refine aw_aload_n (i := 0) d_Mod_init_153 rfl rfl ?_
  refine aw_iconst (v := nI 1) d_Mod_init_154 (by decide) ?_
  apply aw_put d_Mod_init_155 pl_Mod_68; exact hi.1; exact Nat.le_of_ble_eq_true rfl; exact rfl; exact rfl
  refine aw_nm hi.1 ?_
  intro h m_ f_ o_
  exact kk h (hi.pt m_ f_ o_)
set_option maxHeartbeats 4000000 in
set_option maxRecDepth 20000 in
theorem mi_20 {G : aG} {F : FT} {nx a : Nat} {h0 : Nat → Option aC} (kk : ∀ h, MIv nx h0 a 19 [.int 0, .int 0, .ref (nx + 0), .ref (nx + 1), .int 0, .ref (nx + 2), .ref (nx + 3), .ref (nx + 4), .ref (nx + 5), .ref (nx + 6), .ref (nx + 7), .ref (nx + 8), .ref (nx + 9), .ref (nx + 10), .ref (nx + 11), .int 0, .ref (nx + 12), .ref (nx + 13), .int (nI 2), .ref (nx + 14), .ref (nx + 15), .ref (nx + 16), .ref (nx + 17), .int (nI 1), .ref (nx + 18), .null, .int 0, .int 0, .null, .null, .null, .null, .null, .null, .null, .null, .null, .int 0, .null, .int 0, .null, .null, .null, .null, .null, .null, .null, .null, .null, .null, .int 0, .null, .null, .null] h → AW G m_Mod_init 1 43 1645373 F 166 [(0, .ref a)] [] (nx + 19, h) 19 624) : ∀ h, MIv nx h0 a 18 [.int 0, .int 0, .ref (nx + 0), .ref (nx + 1), .int 0, .ref (nx + 2), .ref (nx + 3), .ref (nx + 4), .ref (nx + 5), .ref (nx + 6), .ref (nx + 7), .ref (nx + 8), .ref (nx + 9), .ref (nx + 10), .ref (nx + 11), .int 0, .ref (nx + 12), .ref (nx + 13), .int (nI 2), .ref (nx + 14), .ref (nx + 15), .ref (nx + 16), .ref (nx + 17), .int (nI 1), .null, .null, .int 0, .int 0, .null, .null, .null, .null, .null, .null, .null, .null, .null, .int 0, .null, .int 0, .null, .null, .null, .null, .null, .null, .null, .null, .null, .null, .int 0, .null, .null, .null] h → AW G m_Mod_init 1 43 1645373 F 158 [(0, .ref a)] [] (nx + 18, h) 18 612 := by
  intro h hi
  refine aw_aload_n (i := 0) d_Mod_init_158 rfl rfl ?_
  refine aw_bipush (v := nI 12) d_Mod_init_159 (by decide) ?_
  refine aw_newaI (84) (N := 12) d_Mod_init_161 rfl (Nat.le_of_ble_eq_true rfl) (Nat.le_of_ble_eq_true rfl) (Nat.le_of_ble_eq_true rfl) ?_
  refine aw_nn hi.2.1 ?_
  intro h m_ f_ o_ hd_
  have hi := hi.nw m_ f_ hd_
  apply aw_putF d_Mod_init_163 pl_Mod_72 rfl; exact hi.1; exact Nat.le_of_ble_eq_true rfl; exact rfl; exact rfl
  refine aw_nm hi.1 ?_
  intro h m_ f_ o_
  exact kk h (hi.pt m_ f_ o_)
set_option maxHeartbeats 4000000 in
set_option maxRecDepth 20000 in
theorem mi_21 {G : aG} {F : FT} {nx a : Nat} {h0 : Nat → Option aC} (kk : ∀ h, MIv nx h0 a 20 [.int 0, .int 0, .ref (nx + 0), .ref (nx + 1), .int 0, .ref (nx + 2), .ref (nx + 3), .ref (nx + 4), .ref (nx + 5), .ref (nx + 6), .ref (nx + 7), .ref (nx + 8), .ref (nx + 9), .ref (nx + 10), .ref (nx + 11), .int 0, .ref (nx + 12), .ref (nx + 13), .int (nI 2), .ref (nx + 14), .ref (nx + 15), .ref (nx + 16), .ref (nx + 17), .int (nI 1), .ref (nx + 18), .ref (nx + 19), .int 0, .int 0, .null, .null, .null, .null, .null, .null, .null, .null, .null, .int 0, .null, .int 0, .null, .null, .null, .null, .null, .null, .null, .null, .null, .null, .int 0, .null, .null, .null] h → AW G m_Mod_init 1 43 1645373 F 174 [(0, .ref a)] [] (nx + 20, h) 20 648) : ∀ h, MIv nx h0 a 19 [.int 0, .int 0, .ref (nx + 0), .ref (nx + 1), .int 0, .ref (nx + 2), .ref (nx + 3), .ref (nx + 4), .ref (nx + 5), .ref (nx + 6), .ref (nx + 7), .ref (nx + 8), .ref (nx + 9), .ref (nx + 10), .ref (nx + 11), .int 0, .ref (nx + 12), .ref (nx + 13), .int (nI 2), .ref (nx + 14), .ref (nx + 15), .ref (nx + 16), .ref (nx + 17), .int (nI 1), .ref (nx + 18), .null, .int 0, .int 0, .null, .null, .null, .null, .null, .null, .null, .null, .null, .int 0, .null, .int 0, .null, .null, .null, .null, .null, .null, .null, .null, .null, .null, .int 0, .null, .null, .null] h → AW G m_Mod_init 1 43 1645373 F 166 [(0, .ref a)] [] (nx + 19, h) 19 624 := by
  intro h hi
  refine aw_aload_n (i := 0) d_Mod_init_166 rfl rfl ?_
  refine aw_bipush (v := nI 24) d_Mod_init_167 (by decide) ?_
  refine aw_newaI (85) (N := 24) d_Mod_init_169 rfl (Nat.le_of_ble_eq_true rfl) (Nat.le_of_ble_eq_true rfl) (Nat.le_of_ble_eq_true rfl) ?_
  refine aw_nn hi.2.1 ?_
  intro h m_ f_ o_ hd_
  have hi := hi.nw m_ f_ hd_
  apply aw_putF d_Mod_init_171 pl_Mod_75 rfl; exact hi.1; exact Nat.le_of_ble_eq_true rfl; exact rfl; exact rfl
  refine aw_nm hi.1 ?_
  intro h m_ f_ o_
  exact kk h (hi.pt m_ f_ o_)
set_option maxHeartbeats 4000000 in
set_option maxRecDepth 20000 in
theorem mi_22 {G : aG} {F : FT} {nx a : Nat} {h0 : Nat → Option aC} (kk : ∀ h, MIv nx h0 a 21 [.int 0, .int 0, .ref (nx + 0), .ref (nx + 1), .int 0, .ref (nx + 2), .ref (nx + 3), .ref (nx + 4), .ref (nx + 5), .ref (nx + 6), .ref (nx + 7), .ref (nx + 8), .ref (nx + 9), .ref (nx + 10), .ref (nx + 11), .int 0, .ref (nx + 12), .ref (nx + 13), .int (nI 2), .ref (nx + 14), .ref (nx + 15), .ref (nx + 16), .ref (nx + 17), .int (nI 1), .ref (nx + 18), .ref (nx + 19), .int 0, .int 0, .ref (nx + 20), .null, .null, .null, .null, .null, .null, .null, .null, .int 0, .null, .int 0, .null, .null, .null, .null, .null, .null, .null, .null, .null, .null, .int 0, .null, .null, .null] h → AW G m_Mod_init 1 43 1645373 F 182 [(0, .ref a)] [] (nx + 21, h) 21 480648) : ∀ h, MIv nx h0 a 20 [.int 0, .int 0, .ref (nx + 0), .ref (nx + 1), .int 0, .ref (nx + 2), .ref (nx + 3), .ref (nx + 4), .ref (nx + 5), .ref (nx + 6), .ref (nx + 7), .ref (nx + 8), .ref (nx + 9), .ref (nx + 10), .ref (nx + 11), .int 0, .ref (nx + 12), .ref (nx + 13), .int (nI 2), .ref (nx + 14), .ref (nx + 15), .ref (nx + 16), .ref (nx + 17), .int (nI 1), .ref (nx + 18), .ref (nx + 19), .int 0, .int 0, .null, .null, .null, .null, .null, .null, .null, .null, .null, .int 0, .null, .int 0, .null, .null, .null, .null, .null, .null, .null, .null, .null, .null, .int 0, .null, .null, .null] h → AW G m_Mod_init 1 43 1645373 F 174 [(0, .ref a)] [] (nx + 20, h) 20 648 := by
  intro h hi
  refine aw_aload_n (i := 0) d_Mod_init_174 rfl rfl ?_
  refine aw_ldc (v := nI 480000) d_Mod_init_175 kc_Mod_78 ?_
  refine aw_newaI (88) (N := 480000) d_Mod_init_177 rfl (Nat.le_of_ble_eq_true rfl) (Nat.le_of_ble_eq_true rfl) (Nat.le_of_ble_eq_true rfl) ?_
  refine aw_nn hi.2.1 ?_
  intro h m_ f_ o_ hd_
  have hi := hi.nw m_ f_ hd_
  apply aw_putF d_Mod_init_179 pl_Mod_79 rfl; exact hi.1; exact Nat.le_of_ble_eq_true rfl; exact rfl; exact rfl
  refine aw_nm hi.1 ?_
  intro h m_ f_ o_
  exact kk h (hi.pt m_ f_ o_)
set_option maxHeartbeats 4000000 in
set_option maxRecDepth 20000 in
theorem mi_23 {G : aG} {F : FT} {nx a : Nat} {h0 : Nat → Option aC} (kk : ∀ h, MIv nx h0 a 22 [.int 0, .int 0, .ref (nx + 0), .ref (nx + 1), .int 0, .ref (nx + 2), .ref (nx + 3), .ref (nx + 4), .ref (nx + 5), .ref (nx + 6), .ref (nx + 7), .ref (nx + 8), .ref (nx + 9), .ref (nx + 10), .ref (nx + 11), .int 0, .ref (nx + 12), .ref (nx + 13), .int (nI 2), .ref (nx + 14), .ref (nx + 15), .ref (nx + 16), .ref (nx + 17), .int (nI 1), .ref (nx + 18), .ref (nx + 19), .int 0, .int 0, .ref (nx + 20), .ref (nx + 21), .null, .null, .null, .null, .null, .null, .null, .int 0, .null, .int 0, .null, .null, .null, .null, .null, .null, .null, .null, .null, .null, .int 0, .null, .null, .null] h → AW G m_Mod_init 1 43 1645373 F 191 [(0, .ref a)] [] (nx + 22, h) 22 500648) : ∀ h, MIv nx h0 a 21 [.int 0, .int 0, .ref (nx + 0), .ref (nx + 1), .int 0, .ref (nx + 2), .ref (nx + 3), .ref (nx + 4), .ref (nx + 5), .ref (nx + 6), .ref (nx + 7), .ref (nx + 8), .ref (nx + 9), .ref (nx + 10), .ref (nx + 11), .int 0, .ref (nx + 12), .ref (nx + 13), .int (nI 2), .ref (nx + 14), .ref (nx + 15), .ref (nx + 16), .ref (nx + 17), .int (nI 1), .ref (nx + 18), .ref (nx + 19), .int 0, .int 0, .ref (nx + 20), .null, .null, .null, .null, .null, .null, .null, .null, .int 0, .null, .int 0, .null, .null, .null, .null, .null, .null, .null, .null, .null, .null, .int 0, .null, .null, .null] h → AW G m_Mod_init 1 43 1645373 F 182 [(0, .ref a)] [] (nx + 21, h) 21 480648 := by
  intro h hi
  refine aw_aload_n (i := 0) d_Mod_init_182 rfl rfl ?_
  refine aw_sipush (v := nI 20000) d_Mod_init_183 (by decide) ?_
  refine aw_newaZ (89) (N := 20000) d_Mod_init_186 rfl (Nat.le_of_ble_eq_true rfl) (Nat.le_of_ble_eq_true rfl) (Nat.le_of_ble_eq_true rfl) ?_
  refine aw_nn hi.2.1 ?_
  intro h m_ f_ o_ hd_
  have hi := hi.nw m_ f_ hd_
  apply aw_putF d_Mod_init_188 pl_Mod_82 rfl; exact hi.1; exact Nat.le_of_ble_eq_true rfl; exact rfl; exact rfl
  refine aw_nm hi.1 ?_
  intro h m_ f_ o_
  exact kk h (hi.pt m_ f_ o_)
set_option maxHeartbeats 4000000 in
set_option maxRecDepth 20000 in
theorem mi_24 {G : aG} {F : FT} {nx a : Nat} {h0 : Nat → Option aC} (kk : ∀ h, MIv nx h0 a 23 [.int 0, .int 0, .ref (nx + 0), .ref (nx + 1), .int 0, .ref (nx + 2), .ref (nx + 3), .ref (nx + 4), .ref (nx + 5), .ref (nx + 6), .ref (nx + 7), .ref (nx + 8), .ref (nx + 9), .ref (nx + 10), .ref (nx + 11), .int 0, .ref (nx + 12), .ref (nx + 13), .int (nI 2), .ref (nx + 14), .ref (nx + 15), .ref (nx + 16), .ref (nx + 17), .int (nI 1), .ref (nx + 18), .ref (nx + 19), .int 0, .int 0, .ref (nx + 20), .ref (nx + 21), .ref (nx + 22), .null, .null, .null, .null, .null, .null, .int 0, .null, .int 0, .null, .null, .null, .null, .null, .null, .null, .null, .null, .null, .int 0, .null, .null, .null] h → AW G m_Mod_init 1 43 1645373 F 200 [(0, .ref a)] [] (nx + 23, h) 23 520648) : ∀ h, MIv nx h0 a 22 [.int 0, .int 0, .ref (nx + 0), .ref (nx + 1), .int 0, .ref (nx + 2), .ref (nx + 3), .ref (nx + 4), .ref (nx + 5), .ref (nx + 6), .ref (nx + 7), .ref (nx + 8), .ref (nx + 9), .ref (nx + 10), .ref (nx + 11), .int 0, .ref (nx + 12), .ref (nx + 13), .int (nI 2), .ref (nx + 14), .ref (nx + 15), .ref (nx + 16), .ref (nx + 17), .int (nI 1), .ref (nx + 18), .ref (nx + 19), .int 0, .int 0, .ref (nx + 20), .ref (nx + 21), .null, .null, .null, .null, .null, .null, .null, .int 0, .null, .int 0, .null, .null, .null, .null, .null, .null, .null, .null, .null, .null, .int 0, .null, .null, .null] h → AW G m_Mod_init 1 43 1645373 F 191 [(0, .ref a)] [] (nx + 22, h) 22 500648 := by
  intro h hi
  refine aw_aload_n (i := 0) d_Mod_init_191 rfl rfl ?_
  refine aw_sipush (v := nI 20000) d_Mod_init_192 (by decide) ?_
  refine aw_newaI (90) (N := 20000) d_Mod_init_195 rfl (Nat.le_of_ble_eq_true rfl) (Nat.le_of_ble_eq_true rfl) (Nat.le_of_ble_eq_true rfl) ?_
  refine aw_nn hi.2.1 ?_
  intro h m_ f_ o_ hd_
  have hi := hi.nw m_ f_ hd_
  apply aw_putF d_Mod_init_197 pl_Mod_86 rfl; exact hi.1; exact Nat.le_of_ble_eq_true rfl; exact rfl; exact rfl
  refine aw_nm hi.1 ?_
  intro h m_ f_ o_
  exact kk h (hi.pt m_ f_ o_)
set_option maxHeartbeats 4000000 in
set_option maxRecDepth 20000 in
theorem mi_25 {G : aG} {F : FT} {nx a : Nat} {h0 : Nat → Option aC} (kk : ∀ h, MIv nx h0 a 24 [.int 0, .int 0, .ref (nx + 0), .ref (nx + 1), .int 0, .ref (nx + 2), .ref (nx + 3), .ref (nx + 4), .ref (nx + 5), .ref (nx + 6), .ref (nx + 7), .ref (nx + 8), .ref (nx + 9), .ref (nx + 10), .ref (nx + 11), .int 0, .ref (nx + 12), .ref (nx + 13), .int (nI 2), .ref (nx + 14), .ref (nx + 15), .ref (nx + 16), .ref (nx + 17), .int (nI 1), .ref (nx + 18), .ref (nx + 19), .int 0, .int 0, .ref (nx + 20), .ref (nx + 21), .ref (nx + 22), .ref (nx + 23), .null, .null, .null, .null, .null, .int 0, .null, .int 0, .null, .null, .null, .null, .null, .null, .null, .null, .null, .null, .int 0, .null, .null, .null] h → AW G m_Mod_init 1 43 1645373 F 209 [(0, .ref a)] [] (nx + 24, h) 24 540648) : ∀ h, MIv nx h0 a 23 [.int 0, .int 0, .ref (nx + 0), .ref (nx + 1), .int 0, .ref (nx + 2), .ref (nx + 3), .ref (nx + 4), .ref (nx + 5), .ref (nx + 6), .ref (nx + 7), .ref (nx + 8), .ref (nx + 9), .ref (nx + 10), .ref (nx + 11), .int 0, .ref (nx + 12), .ref (nx + 13), .int (nI 2), .ref (nx + 14), .ref (nx + 15), .ref (nx + 16), .ref (nx + 17), .int (nI 1), .ref (nx + 18), .ref (nx + 19), .int 0, .int 0, .ref (nx + 20), .ref (nx + 21), .ref (nx + 22), .null, .null, .null, .null, .null, .null, .int 0, .null, .int 0, .null, .null, .null, .null, .null, .null, .null, .null, .null, .null, .int 0, .null, .null, .null] h → AW G m_Mod_init 1 43 1645373 F 200 [(0, .ref a)] [] (nx + 23, h) 23 520648 := by
  intro h hi
  refine aw_aload_n (i := 0) d_Mod_init_200 rfl rfl ?_
  refine aw_sipush (v := nI 20000) d_Mod_init_201 (by decide) ?_
  refine aw_newaI (91) (N := 20000) d_Mod_init_204 rfl (Nat.le_of_ble_eq_true rfl) (Nat.le_of_ble_eq_true rfl) (Nat.le_of_ble_eq_true rfl) ?_
  refine aw_nn hi.2.1 ?_
  intro h m_ f_ o_ hd_
  have hi := hi.nw m_ f_ hd_
  apply aw_putF d_Mod_init_206 pl_Mod_89 rfl; exact hi.1; exact Nat.le_of_ble_eq_true rfl; exact rfl; exact rfl
  refine aw_nm hi.1 ?_
  intro h m_ f_ o_
  exact kk h (hi.pt m_ f_ o_)
set_option maxHeartbeats 4000000 in
set_option maxRecDepth 20000 in
theorem mi_26 {G : aG} {F : FT} {nx a : Nat} {h0 : Nat → Option aC} (kk : ∀ h, MIv nx h0 a 25 [.int 0, .int 0, .ref (nx + 0), .ref (nx + 1), .int 0, .ref (nx + 2), .ref (nx + 3), .ref (nx + 4), .ref (nx + 5), .ref (nx + 6), .ref (nx + 7), .ref (nx + 8), .ref (nx + 9), .ref (nx + 10), .ref (nx + 11), .int 0, .ref (nx + 12), .ref (nx + 13), .int (nI 2), .ref (nx + 14), .ref (nx + 15), .ref (nx + 16), .ref (nx + 17), .int (nI 1), .ref (nx + 18), .ref (nx + 19), .int 0, .int 0, .ref (nx + 20), .ref (nx + 21), .ref (nx + 22), .ref (nx + 23), .ref (nx + 24), .null, .null, .null, .null, .int 0, .null, .int 0, .null, .null, .null, .null, .null, .null, .null, .null, .null, .null, .int 0, .null, .null, .null] h → AW G m_Mod_init 1 43 1645373 F 218 [(0, .ref a)] [] (nx + 25, h) 25 560649) : ∀ h, MIv nx h0 a 24 [.int 0, .int 0, .ref (nx + 0), .ref (nx + 1), .int 0, .ref (nx + 2), .ref (nx + 3), .ref (nx + 4), .ref (nx + 5), .ref (nx + 6), .ref (nx + 7), .ref (nx + 8), .ref (nx + 9), .ref (nx + 10), .ref (nx + 11), .int 0, .ref (nx + 12), .ref (nx + 13), .int (nI 2), .ref (nx + 14), .ref (nx + 15), .ref (nx + 16), .ref (nx + 17), .int (nI 1), .ref (nx + 18), .ref (nx + 19), .int 0, .int 0, .ref (nx + 20), .ref (nx + 21), .ref (nx + 22), .ref (nx + 23), .null, .null, .null, .null, .null, .int 0, .null, .int 0, .null, .null, .null, .null, .null, .null, .null, .null, .null, .null, .int 0, .null, .null, .null] h → AW G m_Mod_init 1 43 1645373 F 209 [(0, .ref a)] [] (nx + 24, h) 24 540648 := by
  intro h hi
  refine aw_aload_n (i := 0) d_Mod_init_209 rfl rfl ?_
  refine aw_sipush (v := nI 20001) d_Mod_init_210 (by decide) ?_
  refine aw_newaI (92) (N := 20001) d_Mod_init_213 rfl (Nat.le_of_ble_eq_true rfl) (Nat.le_of_ble_eq_true rfl) (Nat.le_of_ble_eq_true rfl) ?_
  refine aw_nn hi.2.1 ?_
  intro h m_ f_ o_ hd_
  have hi := hi.nw m_ f_ hd_
  apply aw_putF d_Mod_init_215 pl_Mod_92 rfl; exact hi.1; exact Nat.le_of_ble_eq_true rfl; exact rfl; exact rfl
  refine aw_nm hi.1 ?_
  intro h m_ f_ o_
  exact kk h (hi.pt m_ f_ o_)
set_option maxHeartbeats 4000000 in
set_option maxRecDepth 20000 in
theorem mi_27 {G : aG} {F : FT} {nx a : Nat} {h0 : Nat → Option aC} (kk : ∀ h, MIv nx h0 a 26 [.int 0, .int 0, .ref (nx + 0), .ref (nx + 1), .int 0, .ref (nx + 2), .ref (nx + 3), .ref (nx + 4), .ref (nx + 5), .ref (nx + 6), .ref (nx + 7), .ref (nx + 8), .ref (nx + 9), .ref (nx + 10), .ref (nx + 11), .int 0, .ref (nx + 12), .ref (nx + 13), .int (nI 2), .ref (nx + 14), .ref (nx + 15), .ref (nx + 16), .ref (nx + 17), .int (nI 1), .ref (nx + 18), .ref (nx + 19), .int 0, .int 0, .ref (nx + 20), .ref (nx + 21), .ref (nx + 22), .ref (nx + 23), .ref (nx + 24), .ref (nx + 25), .null, .null, .null, .int 0, .null, .int 0, .null, .null, .null, .null, .null, .null, .null, .null, .null, .null, .int 0, .null, .null, .null] h → AW G m_Mod_init 1 43 1645373 F 226 [(0, .ref a)] [] (nx + 26, h) 26 1040649) : ∀ h, MIv nx h0 a 25 [.int 0, .int 0, .ref (nx + 0), .ref (nx + 1), .int 0, .ref (nx + 2), .ref (nx + 3), .ref (nx + 4), .ref (nx + 5), .ref (nx + 6), .ref (nx + 7), .ref (nx + 8), .ref (nx + 9), .ref (nx + 10), .ref (nx + 11), .int 0, .ref (nx + 12), .ref (nx + 13), .int (nI 2), .ref (nx + 14), .ref (nx + 15), .ref (nx + 16), .ref (nx + 17), .int (nI 1), .ref (nx + 18), .ref (nx + 19), .int 0, .int 0, .ref (nx + 20), .ref (nx + 21), .ref (nx + 22), .ref (nx + 23), .ref (nx + 24), .null, .null, .null, .null, .int 0, .null, .int 0, .null, .null, .null, .null, .null, .null, .null, .null, .null, .null, .int 0, .null, .null, .null] h → AW G m_Mod_init 1 43 1645373 F 218 [(0, .ref a)] [] (nx + 25, h) 25 560649 := by
  intro h hi
  refine aw_aload_n (i := 0) d_Mod_init_218 rfl rfl ?_
  refine aw_ldc (v := nI 480000) d_Mod_init_219 kc_Mod_78 ?_
  refine aw_newaI (93) (N := 480000) d_Mod_init_221 rfl (Nat.le_of_ble_eq_true rfl) (Nat.le_of_ble_eq_true rfl) (Nat.le_of_ble_eq_true rfl) ?_
  refine aw_nn hi.2.1 ?_
  intro h m_ f_ o_ hd_
  have hi := hi.nw m_ f_ hd_
  apply aw_putF d_Mod_init_223 pl_Mod_95 rfl; exact hi.1; exact Nat.le_of_ble_eq_true rfl; exact rfl; exact rfl
  refine aw_nm hi.1 ?_
  intro h m_ f_ o_
  exact kk h (hi.pt m_ f_ o_)
set_option maxHeartbeats 4000000 in
set_option maxRecDepth 20000 in
theorem mi_28 {G : aG} {F : FT} {nx a : Nat} {h0 : Nat → Option aC} (kk : ∀ h, MIv nx h0 a 27 [.int 0, .int 0, .ref (nx + 0), .ref (nx + 1), .int 0, .ref (nx + 2), .ref (nx + 3), .ref (nx + 4), .ref (nx + 5), .ref (nx + 6), .ref (nx + 7), .ref (nx + 8), .ref (nx + 9), .ref (nx + 10), .ref (nx + 11), .int 0, .ref (nx + 12), .ref (nx + 13), .int (nI 2), .ref (nx + 14), .ref (nx + 15), .ref (nx + 16), .ref (nx + 17), .int (nI 1), .ref (nx + 18), .ref (nx + 19), .int 0, .int 0, .ref (nx + 20), .ref (nx + 21), .ref (nx + 22), .ref (nx + 23), .ref (nx + 24), .ref (nx + 25), .ref (nx + 26), .null, .null, .int 0, .null, .int 0, .null, .null, .null, .null, .null, .null, .null, .null, .null, .null, .int 0, .null, .null, .null] h → AW G m_Mod_init 1 43 1645373 F 234 [(0, .ref a)] [] (nx + 27, h) 27 1520649) : ∀ h, MIv nx h0 a 26 [.int 0, .int 0, .ref (nx + 0), .ref (nx + 1), .int 0, .ref (nx + 2), .ref (nx + 3), .ref (nx + 4), .ref (nx + 5), .ref (nx + 6), .ref (nx + 7), .ref (nx + 8), .ref (nx + 9), .ref (nx + 10), .ref (nx + 11), .int 0, .ref (nx + 12), .ref (nx + 13), .int (nI 2), .ref (nx + 14), .ref (nx + 15), .ref (nx + 16), .ref (nx + 17), .int (nI 1), .ref (nx + 18), .ref (nx + 19), .int 0, .int 0, .ref (nx + 20), .ref (nx + 21), .ref (nx + 22), .ref (nx + 23), .ref (nx + 24), .ref (nx + 25), .null, .null, .null, .int 0, .null, .int 0, .null, .null, .null, .null, .null, .null, .null, .null, .null, .null, .int 0, .null, .null, .null] h → AW G m_Mod_init 1 43 1645373 F 226 [(0, .ref a)] [] (nx + 26, h) 26 1040649 := by
  intro h hi
  refine aw_aload_n (i := 0) d_Mod_init_226 rfl rfl ?_
  refine aw_ldc (v := nI 480000) d_Mod_init_227 kc_Mod_78 ?_
  refine aw_newaB (94) (N := 480000) d_Mod_init_229 rfl (Nat.le_of_ble_eq_true rfl) (Nat.le_of_ble_eq_true rfl) (Nat.le_of_ble_eq_true rfl) ?_
  refine aw_nn hi.2.1 ?_
  intro h m_ f_ o_ hd_
  have hi := hi.nw m_ f_ hd_
  apply aw_putF d_Mod_init_231 pl_Mod_98 rfl; exact hi.1; exact Nat.le_of_ble_eq_true rfl; exact rfl; exact rfl
  refine aw_nm hi.1 ?_
  intro h m_ f_ o_
  exact kk h (hi.pt m_ f_ o_)
set_option maxHeartbeats 4000000 in
set_option maxRecDepth 20000 in
theorem mi_29 {G : aG} {F : FT} {nx a : Nat} {h0 : Nat → Option aC} (kk : ∀ h, MIv nx h0 a 28 [.int 0, .int 0, .ref (nx + 0), .ref (nx + 1), .int 0, .ref (nx + 2), .ref (nx + 3), .ref (nx + 4), .ref (nx + 5), .ref (nx + 6), .ref (nx + 7), .ref (nx + 8), .ref (nx + 9), .ref (nx + 10), .ref (nx + 11), .int 0, .ref (nx + 12), .ref (nx + 13), .int (nI 2), .ref (nx + 14), .ref (nx + 15), .ref (nx + 16), .ref (nx + 17), .int (nI 1), .ref (nx + 18), .ref (nx + 19), .int 0, .int 0, .ref (nx + 20), .ref (nx + 21), .ref (nx + 22), .ref (nx + 23), .ref (nx + 24), .ref (nx + 25), .ref (nx + 26), .ref (nx + 27), .null, .int 0, .null, .int 0, .null, .null, .null, .null, .null, .null, .null, .null, .null, .null, .int 0, .null, .null, .null] h → AW G m_Mod_init 1 43 1645373 F 243 [(0, .ref a)] [] (nx + 28, h) 28 1540649) : ∀ h, MIv nx h0 a 27 [.int 0, .int 0, .ref (nx + 0), .ref (nx + 1), .int 0, .ref (nx + 2), .ref (nx + 3), .ref (nx + 4), .ref (nx + 5), .ref (nx + 6), .ref (nx + 7), .ref (nx + 8), .ref (nx + 9), .ref (nx + 10), .ref (nx + 11), .int 0, .ref (nx + 12), .ref (nx + 13), .int (nI 2), .ref (nx + 14), .ref (nx + 15), .ref (nx + 16), .ref (nx + 17), .int (nI 1), .ref (nx + 18), .ref (nx + 19), .int 0, .int 0, .ref (nx + 20), .ref (nx + 21), .ref (nx + 22), .ref (nx + 23), .ref (nx + 24), .ref (nx + 25), .ref (nx + 26), .null, .null, .int 0, .null, .int 0, .null, .null, .null, .null, .null, .null, .null, .null, .null, .null, .int 0, .null, .null, .null] h → AW G m_Mod_init 1 43 1645373 F 234 [(0, .ref a)] [] (nx + 27, h) 27 1520649 := by
  intro h hi
  refine aw_aload_n (i := 0) d_Mod_init_234 rfl rfl ?_
  refine aw_sipush (v := nI 20000) d_Mod_init_235 (by decide) ?_
  refine aw_newaI (95) (N := 20000) d_Mod_init_238 rfl (Nat.le_of_ble_eq_true rfl) (Nat.le_of_ble_eq_true rfl) (Nat.le_of_ble_eq_true rfl) ?_
  refine aw_nn hi.2.1 ?_
  intro h m_ f_ o_ hd_
  have hi := hi.nw m_ f_ hd_
  apply aw_putF d_Mod_init_240 pl_Mod_102 rfl; exact hi.1; exact Nat.le_of_ble_eq_true rfl; exact rfl; exact rfl
  refine aw_nm hi.1 ?_
  intro h m_ f_ o_
  exact kk h (hi.pt m_ f_ o_)
set_option maxHeartbeats 4000000 in
set_option maxRecDepth 20000 in
theorem mi_30 {G : aG} {F : FT} {nx a : Nat} {h0 : Nat → Option aC} (kk : ∀ h, MIv nx h0 a 29 [.int 0, .int 0, .ref (nx + 0), .ref (nx + 1), .int 0, .ref (nx + 2), .ref (nx + 3), .ref (nx + 4), .ref (nx + 5), .ref (nx + 6), .ref (nx + 7), .ref (nx + 8), .ref (nx + 9), .ref (nx + 10), .ref (nx + 11), .int 0, .ref (nx + 12), .ref (nx + 13), .int (nI 2), .ref (nx + 14), .ref (nx + 15), .ref (nx + 16), .ref (nx + 17), .int (nI 1), .ref (nx + 18), .ref (nx + 19), .int 0, .int 0, .ref (nx + 20), .ref (nx + 21), .ref (nx + 22), .ref (nx + 23), .ref (nx + 24), .ref (nx + 25), .ref (nx + 26), .ref (nx + 27), .ref (nx + 28), .int 0, .null, .int 0, .null, .null, .null, .null, .null, .null, .null, .null, .null, .null, .int 0, .null, .null, .null] h → AW G m_Mod_init 1 43 1645373 F 252 [(0, .ref a)] [] (nx + 29, h) 29 1560649) : ∀ h, MIv nx h0 a 28 [.int 0, .int 0, .ref (nx + 0), .ref (nx + 1), .int 0, .ref (nx + 2), .ref (nx + 3), .ref (nx + 4), .ref (nx + 5), .ref (nx + 6), .ref (nx + 7), .ref (nx + 8), .ref (nx + 9), .ref (nx + 10), .ref (nx + 11), .int 0, .ref (nx + 12), .ref (nx + 13), .int (nI 2), .ref (nx + 14), .ref (nx + 15), .ref (nx + 16), .ref (nx + 17), .int (nI 1), .ref (nx + 18), .ref (nx + 19), .int 0, .int 0, .ref (nx + 20), .ref (nx + 21), .ref (nx + 22), .ref (nx + 23), .ref (nx + 24), .ref (nx + 25), .ref (nx + 26), .ref (nx + 27), .null, .int 0, .null, .int 0, .null, .null, .null, .null, .null, .null, .null, .null, .null, .null, .int 0, .null, .null, .null] h → AW G m_Mod_init 1 43 1645373 F 243 [(0, .ref a)] [] (nx + 28, h) 28 1540649 := by
  intro h hi
  refine aw_aload_n (i := 0) d_Mod_init_243 rfl rfl ?_
  refine aw_sipush (v := nI 20000) d_Mod_init_244 (by decide) ?_
  refine aw_newaI (96) (N := 20000) d_Mod_init_247 rfl (Nat.le_of_ble_eq_true rfl) (Nat.le_of_ble_eq_true rfl) (Nat.le_of_ble_eq_true rfl) ?_
  refine aw_nn hi.2.1 ?_
  intro h m_ f_ o_ hd_
  have hi := hi.nw m_ f_ hd_
  apply aw_putF d_Mod_init_249 pl_Mod_105 rfl; exact hi.1; exact Nat.le_of_ble_eq_true rfl; exact rfl; exact rfl
  refine aw_nm hi.1 ?_
  intro h m_ f_ o_
  exact kk h (hi.pt m_ f_ o_)
set_option maxHeartbeats 4000000 in
set_option maxRecDepth 20000 in
theorem mi_31 {G : aG} {F : FT} {nx a : Nat} {h0 : Nat → Option aC} (kk : ∀ h, MIv nx h0 a 30 [.int 0, .int 0, .ref (nx + 0), .ref (nx + 1), .int 0, .ref (nx + 2), .ref (nx + 3), .ref (nx + 4), .ref (nx + 5), .ref (nx + 6), .ref (nx + 7), .ref (nx + 8), .ref (nx + 9), .ref (nx + 10), .ref (nx + 11), .int 0, .ref (nx + 12), .ref (nx + 13), .int (nI 2), .ref (nx + 14), .ref (nx + 15), .ref (nx + 16), .ref (nx + 17), .int (nI 1), .ref (nx + 18), .ref (nx + 19), .int 0, .int 0, .ref (nx + 20), .ref (nx + 21), .ref (nx + 22), .ref (nx + 23), .ref (nx + 24), .ref (nx + 25), .ref (nx + 26), .ref (nx + 27), .ref (nx + 28), .int 0, .ref (nx + 29), .int 0, .null, .null, .null, .null, .null, .null, .null, .null, .null, .null, .int 0, .null, .null, .null] h → AW G m_Mod_init 1 43 1645373 F 261 [(0, .ref a)] [] (nx + 30, h) 30 1580653) : ∀ h, MIv nx h0 a 29 [.int 0, .int 0, .ref (nx + 0), .ref (nx + 1), .int 0, .ref (nx + 2), .ref (nx + 3), .ref (nx + 4), .ref (nx + 5), .ref (nx + 6), .ref (nx + 7), .ref (nx + 8), .ref (nx + 9), .ref (nx + 10), .ref (nx + 11), .int 0, .ref (nx + 12), .ref (nx + 13), .int (nI 2), .ref (nx + 14), .ref (nx + 15), .ref (nx + 16), .ref (nx + 17), .int (nI 1), .ref (nx + 18), .ref (nx + 19), .int 0, .int 0, .ref (nx + 20), .ref (nx + 21), .ref (nx + 22), .ref (nx + 23), .ref (nx + 24), .ref (nx + 25), .ref (nx + 26), .ref (nx + 27), .ref (nx + 28), .int 0, .null, .int 0, .null, .null, .null, .null, .null, .null, .null, .null, .null, .null, .int 0, .null, .null, .null] h → AW G m_Mod_init 1 43 1645373 F 252 [(0, .ref a)] [] (nx + 29, h) 29 1560649 := by
  intro h hi
  refine aw_aload_n (i := 0) d_Mod_init_252 rfl rfl ?_
  refine aw_sipush (v := nI 20004) d_Mod_init_253 (by decide) ?_
  refine aw_newaI (98) (N := 20004) d_Mod_init_256 rfl (Nat.le_of_ble_eq_true rfl) (Nat.le_of_ble_eq_true rfl) (Nat.le_of_ble_eq_true rfl) ?_
  refine aw_nn hi.2.1 ?_
  intro h m_ f_ o_ hd_
  have hi := hi.nw m_ f_ hd_
  apply aw_putF d_Mod_init_258 pl_Mod_108 rfl; exact hi.1; exact Nat.le_of_ble_eq_true rfl; exact rfl; exact rfl
  refine aw_nm hi.1 ?_
  intro h m_ f_ o_
  exact kk h (hi.pt m_ f_ o_)
set_option maxHeartbeats 4000000 in
set_option maxRecDepth 20000 in
theorem mi_32 {G : aG} {F : FT} {nx a : Nat} {h0 : Nat → Option aC} (kk : ∀ h, MIv nx h0 a 31 [.int 0, .int 0, .ref (nx + 0), .ref (nx + 1), .int 0, .ref (nx + 2), .ref (nx + 3), .ref (nx + 4), .ref (nx + 5), .ref (nx + 6), .ref (nx + 7), .ref (nx + 8), .ref (nx + 9), .ref (nx + 10), .ref (nx + 11), .int 0, .ref (nx + 12), .ref (nx + 13), .int (nI 2), .ref (nx + 14), .ref (nx + 15), .ref (nx + 16), .ref (nx + 17), .int (nI 1), .ref (nx + 18), .ref (nx + 19), .int 0, .int 0, .ref (nx + 20), .ref (nx + 21), .ref (nx + 22), .ref (nx + 23), .ref (nx + 24), .ref (nx + 25), .ref (nx + 26), .ref (nx + 27), .ref (nx + 28), .int 0, .ref (nx + 29), .int 0, .ref (nx + 30), .null, .null, .null, .null, .null, .null, .null, .null, .null, .int 0, .null, .null, .null] h → AW G m_Mod_init 1 43 1645373 F 270 [(0, .ref a)] [] (nx + 31, h) 31 1600653) : ∀ h, MIv nx h0 a 30 [.int 0, .int 0, .ref (nx + 0), .ref (nx + 1), .int 0, .ref (nx + 2), .ref (nx + 3), .ref (nx + 4), .ref (nx + 5), .ref (nx + 6), .ref (nx + 7), .ref (nx + 8), .ref (nx + 9), .ref (nx + 10), .ref (nx + 11), .int 0, .ref (nx + 12), .ref (nx + 13), .int (nI 2), .ref (nx + 14), .ref (nx + 15), .ref (nx + 16), .ref (nx + 17), .int (nI 1), .ref (nx + 18), .ref (nx + 19), .int 0, .int 0, .ref (nx + 20), .ref (nx + 21), .ref (nx + 22), .ref (nx + 23), .ref (nx + 24), .ref (nx + 25), .ref (nx + 26), .ref (nx + 27), .ref (nx + 28), .int 0, .ref (nx + 29), .int 0, .null, .null, .null, .null, .null, .null, .null, .null, .null, .null, .int 0, .null, .null, .null] h → AW G m_Mod_init 1 43 1645373 F 261 [(0, .ref a)] [] (nx + 30, h) 30 1580653 := by
  intro h hi
  refine aw_aload_n (i := 0) d_Mod_init_261 rfl rfl ?_
  refine aw_sipush (v := nI 20000) d_Mod_init_262 (by decide) ?_
  refine aw_newaI (100) (N := 20000) d_Mod_init_265 rfl (Nat.le_of_ble_eq_true rfl) (Nat.le_of_ble_eq_true rfl) (Nat.le_of_ble_eq_true rfl) ?_
  refine aw_nn hi.2.1 ?_
  intro h m_ f_ o_ hd_
  have hi := hi.nw m_ f_ hd_
  apply aw_putF d_Mod_init_267 pl_Mod_111 rfl; exact hi.1; exact Nat.le_of_ble_eq_true rfl; exact rfl; exact rfl
  refine aw_nm hi.1 ?_
  intro h m_ f_ o_
  exact kk h (hi.pt m_ f_ o_)
set_option maxHeartbeats 4000000 in
set_option maxRecDepth 20000 in
theorem mi_33 {G : aG} {F : FT} {nx a : Nat} {h0 : Nat → Option aC} (kk : ∀ h, MIv nx h0 a 32 [.int 0, .int 0, .ref (nx + 0), .ref (nx + 1), .int 0, .ref (nx + 2), .ref (nx + 3), .ref (nx + 4), .ref (nx + 5), .ref (nx + 6), .ref (nx + 7), .ref (nx + 8), .ref (nx + 9), .ref (nx + 10), .ref (nx + 11), .int 0, .ref (nx + 12), .ref (nx + 13), .int (nI 2), .ref (nx + 14), .ref (nx + 15), .ref (nx + 16), .ref (nx + 17), .int (nI 1), .ref (nx + 18), .ref (nx + 19), .int 0, .int 0, .ref (nx + 20), .ref (nx + 21), .ref (nx + 22), .ref (nx + 23), .ref (nx + 24), .ref (nx + 25), .ref (nx + 26), .ref (nx + 27), .ref (nx + 28), .int 0, .ref (nx + 29), .int 0, .ref (nx + 30), .ref (nx + 31), .null, .null, .null, .null, .null, .null, .null, .null, .int 0, .null, .null, .null] h → AW G m_Mod_init 1 43 1645373 F 279 [(0, .ref a)] [] (nx + 32, h) 32 1620653) : ∀ h, MIv nx h0 a 31 [.int 0, .int 0, .ref (nx + 0), .ref (nx + 1), .int 0, .ref (nx + 2), .ref (nx + 3), .ref (nx + 4), .ref (nx + 5), .ref (nx + 6), .ref (nx + 7), .ref (nx + 8), .ref (nx + 9), .ref (nx + 10), .ref (nx + 11), .int 0, .ref (nx + 12), .ref (nx + 13), .int (nI 2), .ref (nx + 14), .ref (nx + 15), .ref (nx + 16), .ref (nx + 17), .int (nI 1), .ref (nx + 18), .ref (nx + 19), .int 0, .int 0, .ref (nx + 20), .ref (nx + 21), .ref (nx + 22), .ref (nx + 23), .ref (nx + 24), .ref (nx + 25), .ref (nx + 26), .ref (nx + 27), .ref (nx + 28), .int 0, .ref (nx + 29), .int 0, .ref (nx + 30), .null, .null, .null, .null, .null, .null, .null, .null, .null, .int 0, .null, .null, .null] h → AW G m_Mod_init 1 43 1645373 F 270 [(0, .ref a)] [] (nx + 31, h) 31 1600653 := by
  intro h hi
  refine aw_aload_n (i := 0) d_Mod_init_270 rfl rfl ?_
  refine aw_sipush (v := nI 20000) d_Mod_init_271 (by decide) ?_
  refine aw_newaI (101) (N := 20000) d_Mod_init_274 rfl (Nat.le_of_ble_eq_true rfl) (Nat.le_of_ble_eq_true rfl) (Nat.le_of_ble_eq_true rfl) ?_
  refine aw_nn hi.2.1 ?_
  intro h m_ f_ o_ hd_
  have hi := hi.nw m_ f_ hd_
  apply aw_putF d_Mod_init_276 pl_Mod_114 rfl; exact hi.1; exact Nat.le_of_ble_eq_true rfl; exact rfl; exact rfl
  refine aw_nm hi.1 ?_
  intro h m_ f_ o_
  exact kk h (hi.pt m_ f_ o_)
set_option maxHeartbeats 4000000 in
set_option maxRecDepth 20000 in
theorem mi_34 {G : aG} {F : FT} {nx a : Nat} {h0 : Nat → Option aC} (kk : ∀ h, MIv nx h0 a 33 [.int 0, .int 0, .ref (nx + 0), .ref (nx + 1), .int 0, .ref (nx + 2), .ref (nx + 3), .ref (nx + 4), .ref (nx + 5), .ref (nx + 6), .ref (nx + 7), .ref (nx + 8), .ref (nx + 9), .ref (nx + 10), .ref (nx + 11), .int 0, .ref (nx + 12), .ref (nx + 13), .int (nI 2), .ref (nx + 14), .ref (nx + 15), .ref (nx + 16), .ref (nx + 17), .int (nI 1), .ref (nx + 18), .ref (nx + 19), .int 0, .int 0, .ref (nx + 20), .ref (nx + 21), .ref (nx + 22), .ref (nx + 23), .ref (nx + 24), .ref (nx + 25), .ref (nx + 26), .ref (nx + 27), .ref (nx + 28), .int 0, .ref (nx + 29), .int 0, .ref (nx + 30), .ref (nx + 31), .ref (nx + 32), .null, .null, .null, .null, .null, .null, .null, .int 0, .null, .null, .null] h → AW G m_Mod_init 1 43 1645373 F 288 [(0, .ref a)] [] (nx + 33, h) 33 1640653) : ∀ h, MIv nx h0 a 32 [.int 0, .int 0, .ref (nx + 0), .ref (nx + 1), .int 0, .ref (nx + 2), .ref (nx + 3), .ref (nx + 4), .ref (nx + 5), .ref (nx + 6), .ref (nx + 7), .ref (nx + 8), .ref (nx + 9), .ref (nx + 10), .ref (nx + 11), .int 0, .ref (nx + 12), .ref (nx + 13), .int (nI 2), .ref (nx + 14), .ref (nx + 15), .ref (nx + 16), .ref (nx + 17), .int (nI 1), .ref (nx + 18), .ref (nx + 19), .int 0, .int 0, .ref (nx + 20), .ref (nx + 21), .ref (nx + 22), .ref (nx + 23), .ref (nx + 24), .ref (nx + 25), .ref (nx + 26), .ref (nx + 27), .ref (nx + 28), .int 0, .ref (nx + 29), .int 0, .ref (nx + 30), .ref (nx + 31), .null, .null, .null, .null, .null, .null, .null, .null, .int 0, .null, .null, .null] h → AW G m_Mod_init 1 43 1645373 F 279 [(0, .ref a)] [] (nx + 32, h) 32 1620653 := by
  intro h hi
  refine aw_aload_n (i := 0) d_Mod_init_279 rfl rfl ?_
  refine aw_sipush (v := nI 20000) d_Mod_init_280 (by decide) ?_
  refine aw_newaZ (102) (N := 20000) d_Mod_init_283 rfl (Nat.le_of_ble_eq_true rfl) (Nat.le_of_ble_eq_true rfl) (Nat.le_of_ble_eq_true rfl) ?_
  refine aw_nn hi.2.1 ?_
  intro h m_ f_ o_ hd_
  have hi := hi.nw m_ f_ hd_
  apply aw_putF d_Mod_init_285 pl_Mod_117 rfl; exact hi.1; exact Nat.le_of_ble_eq_true rfl; exact rfl; exact rfl
  refine aw_nm hi.1 ?_
  intro h m_ f_ o_
  exact kk h (hi.pt m_ f_ o_)
set_option maxHeartbeats 4000000 in
set_option maxRecDepth 20000 in
theorem mi_35 {G : aG} {F : FT} {nx a : Nat} {h0 : Nat → Option aC} (kk : ∀ h, MIv nx h0 a 34 [.int 0, .int 0, .ref (nx + 0), .ref (nx + 1), .int 0, .ref (nx + 2), .ref (nx + 3), .ref (nx + 4), .ref (nx + 5), .ref (nx + 6), .ref (nx + 7), .ref (nx + 8), .ref (nx + 9), .ref (nx + 10), .ref (nx + 11), .int 0, .ref (nx + 12), .ref (nx + 13), .int (nI 2), .ref (nx + 14), .ref (nx + 15), .ref (nx + 16), .ref (nx + 17), .int (nI 1), .ref (nx + 18), .ref (nx + 19), .int 0, .int 0, .ref (nx + 20), .ref (nx + 21), .ref (nx + 22), .ref (nx + 23), .ref (nx + 24), .ref (nx + 25), .ref (nx + 26), .ref (nx + 27), .ref (nx + 28), .int 0, .ref (nx + 29), .int 0, .ref (nx + 30), .ref (nx + 31), .ref (nx + 32), .ref (nx + 33), .null, .null, .null, .null, .null, .null, .int 0, .null, .null, .null] h → AW G m_Mod_init 1 43 1645373 F 297 [(0, .ref a)] [] (nx + 34, h) 34 1644749) : ∀ h, MIv nx h0 a 33 [.int 0, .int 0, .ref (nx + 0), .ref (nx + 1), .int 0, .ref (nx + 2), .ref (nx + 3), .ref (nx + 4), .ref (nx + 5), .ref (nx + 6), .ref (nx + 7), .ref (nx + 8), .ref (nx + 9), .ref (nx + 10), .ref (nx + 11), .int 0, .ref (nx + 12), .ref (nx + 13), .int (nI 2), .ref (nx + 14), .ref (nx + 15), .ref (nx + 16), .ref (nx + 17), .int (nI 1), .ref (nx + 18), .ref (nx + 19), .int 0, .int 0, .ref (nx + 20), .ref (nx + 21), .ref (nx + 22), .ref (nx + 23), .ref (nx + 24), .ref (nx + 25), .ref (nx + 26), .ref (nx + 27), .ref (nx + 28), .int 0, .ref (nx + 29), .int 0, .ref (nx + 30), .ref (nx + 31), .ref (nx + 32), .null, .null, .null, .null, .null, .null, .null, .int 0, .null, .null, .null] h → AW G m_Mod_init 1 43 1645373 F 288 [(0, .ref a)] [] (nx + 33, h) 33 1640653 := by
  intro h hi
  refine aw_aload_n (i := 0) d_Mod_init_288 rfl rfl ?_
  refine aw_sipush (v := nI 4096) d_Mod_init_289 (by decide) ?_
  refine aw_newaI (103) (N := 4096) d_Mod_init_292 rfl (Nat.le_of_ble_eq_true rfl) (Nat.le_of_ble_eq_true rfl) (Nat.le_of_ble_eq_true rfl) ?_
  refine aw_nn hi.2.1 ?_
  intro h m_ f_ o_ hd_
  have hi := hi.nw m_ f_ hd_
  apply aw_putF d_Mod_init_294 pl_Mod_120 rfl; exact hi.1; exact Nat.le_of_ble_eq_true rfl; exact rfl; exact rfl
  refine aw_nm hi.1 ?_
  intro h m_ f_ o_
  exact kk h (hi.pt m_ f_ o_)
set_option maxHeartbeats 4000000 in
set_option maxRecDepth 20000 in
theorem mi_36 {G : aG} {F : FT} {nx a : Nat} {h0 : Nat → Option aC} (kk : ∀ h, MIv nx h0 a 35 [.int 0, .int 0, .ref (nx + 0), .ref (nx + 1), .int 0, .ref (nx + 2), .ref (nx + 3), .ref (nx + 4), .ref (nx + 5), .ref (nx + 6), .ref (nx + 7), .ref (nx + 8), .ref (nx + 9), .ref (nx + 10), .ref (nx + 11), .int 0, .ref (nx + 12), .ref (nx + 13), .int (nI 2), .ref (nx + 14), .ref (nx + 15), .ref (nx + 16), .ref (nx + 17), .int (nI 1), .ref (nx + 18), .ref (nx + 19), .int 0, .int 0, .ref (nx + 20), .ref (nx + 21), .ref (nx + 22), .ref (nx + 23), .ref (nx + 24), .ref (nx + 25), .ref (nx + 26), .ref (nx + 27), .ref (nx + 28), .int 0, .ref (nx + 29), .int 0, .ref (nx + 30), .ref (nx + 31), .ref (nx + 32), .ref (nx + 33), .ref (nx + 34), .null, .null, .null, .null, .null, .int 0, .null, .null, .null] h → AW G m_Mod_init 1 43 1645373 F 304 [(0, .ref a)] [] (nx + 35, h) 35 1644753) : ∀ h, MIv nx h0 a 34 [.int 0, .int 0, .ref (nx + 0), .ref (nx + 1), .int 0, .ref (nx + 2), .ref (nx + 3), .ref (nx + 4), .ref (nx + 5), .ref (nx + 6), .ref (nx + 7), .ref (nx + 8), .ref (nx + 9), .ref (nx + 10), .ref (nx + 11), .int 0, .ref (nx + 12), .ref (nx + 13), .int (nI 2), .ref (nx + 14), .ref (nx + 15), .ref (nx + 16), .ref (nx + 17), .int (nI 1), .ref (nx + 18), .ref (nx + 19), .int 0, .int 0, .ref (nx + 20), .ref (nx + 21), .ref (nx + 22), .ref (nx + 23), .ref (nx + 24), .ref (nx + 25), .ref (nx + 26), .ref (nx + 27), .ref (nx + 28), .int 0, .ref (nx + 29), .int 0, .ref (nx + 30), .ref (nx + 31), .ref (nx + 32), .ref (nx + 33), .null, .null, .null, .null, .null, .null, .int 0, .null, .null, .null] h → AW G m_Mod_init 1 43 1645373 F 297 [(0, .ref a)] [] (nx + 34, h) 34 1644749 := by
  intro h hi
  refine aw_aload_n (i := 0) d_Mod_init_297 rfl rfl ?_
  refine aw_iconst (v := nI 4) d_Mod_init_298 (by decide) ?_
  refine aw_newaZ (104) (N := 4) d_Mod_init_299 rfl (Nat.le_of_ble_eq_true rfl) (Nat.le_of_ble_eq_true rfl) (Nat.le_of_ble_eq_true rfl) ?_
  refine aw_nn hi.2.1 ?_
  intro h m_ f_ o_ hd_
  have hi := hi.nw m_ f_ hd_
  apply aw_putF d_Mod_init_301 pl_Mod_123 rfl; exact hi.1; exact Nat.le_of_ble_eq_true rfl; exact rfl; exact rfl
  refine aw_nm hi.1 ?_
  intro h m_ f_ o_
  exact kk h (hi.pt m_ f_ o_)
set_option maxHeartbeats 4000000 in
set_option maxRecDepth 20000 in
theorem mi_37 {G : aG} {F : FT} {nx a : Nat} {h0 : Nat → Option aC} (kk : ∀ h, MIv nx h0 a 36 [.int 0, .int 0, .ref (nx + 0), .ref (nx + 1), .int 0, .ref (nx + 2), .ref (nx + 3), .ref (nx + 4), .ref (nx + 5), .ref (nx + 6), .ref (nx + 7), .ref (nx + 8), .ref (nx + 9), .ref (nx + 10), .ref (nx + 11), .int 0, .ref (nx + 12), .ref (nx + 13), .int (nI 2), .ref (nx + 14), .ref (nx + 15), .ref (nx + 16), .ref (nx + 17), .int (nI 1), .ref (nx + 18), .ref (nx + 19), .int 0, .int 0, .ref (nx + 20), .ref (nx + 21), .ref (nx + 22), .ref (nx + 23), .ref (nx + 24), .ref (nx + 25), .ref (nx + 26), .ref (nx + 27), .ref (nx + 28), .int 0, .ref (nx + 29), .int 0, .ref (nx + 30), .ref (nx + 31), .ref (nx + 32), .ref (nx + 33), .ref (nx + 34), .ref (nx + 35), .null, .null, .null, .null, .int 0, .null, .null, .null] h → AW G m_Mod_init 1 43 1645373 F 311 [(0, .ref a)] [] (nx + 36, h) 36 1644757) : ∀ h, MIv nx h0 a 35 [.int 0, .int 0, .ref (nx + 0), .ref (nx + 1), .int 0, .ref (nx + 2), .ref (nx + 3), .ref (nx + 4), .ref (nx + 5), .ref (nx + 6), .ref (nx + 7), .ref (nx + 8), .ref (nx + 9), .ref (nx + 10), .ref (nx + 11), .int 0, .ref (nx + 12), .ref (nx + 13), .int (nI 2), .ref (nx + 14), .ref (nx + 15), .ref (nx + 16), .ref (nx + 17), .int (nI 1), .ref (nx + 18), .ref (nx + 19), .int 0, .int 0, .ref (nx + 20), .ref (nx + 21), .ref (nx + 22), .ref (nx + 23), .ref (nx + 24), .ref (nx + 25), .ref (nx + 26), .ref (nx + 27), .ref (nx + 28), .int 0, .ref (nx + 29), .int 0, .ref (nx + 30), .ref (nx + 31), .ref (nx + 32), .ref (nx + 33), .ref (nx + 34), .null, .null, .null, .null, .null, .int 0, .null, .null, .null] h → AW G m_Mod_init 1 43 1645373 F 304 [(0, .ref a)] [] (nx + 35, h) 35 1644753 := by
  intro h hi
  refine aw_aload_n (i := 0) d_Mod_init_304 rfl rfl ?_
  refine aw_iconst (v := nI 4) d_Mod_init_305 (by decide) ?_
  refine aw_newaI (105) (N := 4) d_Mod_init_306 rfl (Nat.le_of_ble_eq_true rfl) (Nat.le_of_ble_eq_true rfl) (Nat.le_of_ble_eq_true rfl) ?_
  refine aw_nn hi.2.1 ?_
  intro h m_ f_ o_ hd_
  have hi := hi.nw m_ f_ hd_
  apply aw_putF d_Mod_init_308 pl_Mod_126 rfl; exact hi.1; exact Nat.le_of_ble_eq_true rfl; exact rfl; exact rfl
  refine aw_nm hi.1 ?_
  intro h m_ f_ o_
  exact kk h (hi.pt m_ f_ o_)
set_option maxHeartbeats 4000000 in
set_option maxRecDepth 20000 in
theorem mi_38 {G : aG} {F : FT} {nx a : Nat} {h0 : Nat → Option aC} (kk : ∀ h, MIv nx h0 a 37 [.int 0, .int 0, .ref (nx + 0), .ref (nx + 1), .int 0, .ref (nx + 2), .ref (nx + 3), .ref (nx + 4), .ref (nx + 5), .ref (nx + 6), .ref (nx + 7), .ref (nx + 8), .ref (nx + 9), .ref (nx + 10), .ref (nx + 11), .int 0, .ref (nx + 12), .ref (nx + 13), .int (nI 2), .ref (nx + 14), .ref (nx + 15), .ref (nx + 16), .ref (nx + 17), .int (nI 1), .ref (nx + 18), .ref (nx + 19), .int 0, .int 0, .ref (nx + 20), .ref (nx + 21), .ref (nx + 22), .ref (nx + 23), .ref (nx + 24), .ref (nx + 25), .ref (nx + 26), .ref (nx + 27), .ref (nx + 28), .int 0, .ref (nx + 29), .int 0, .ref (nx + 30), .ref (nx + 31), .ref (nx + 32), .ref (nx + 33), .ref (nx + 34), .ref (nx + 35), .ref (nx + 36), .null, .null, .null, .int 0, .null, .null, .null] h → AW G m_Mod_init 1 43 1645373 F 318 [(0, .ref a)] [] (nx + 37, h) 37 1644761) : ∀ h, MIv nx h0 a 36 [.int 0, .int 0, .ref (nx + 0), .ref (nx + 1), .int 0, .ref (nx + 2), .ref (nx + 3), .ref (nx + 4), .ref (nx + 5), .ref (nx + 6), .ref (nx + 7), .ref (nx + 8), .ref (nx + 9), .ref (nx + 10), .ref (nx + 11), .int 0, .ref (nx + 12), .ref (nx + 13), .int (nI 2), .ref (nx + 14), .ref (nx + 15), .ref (nx + 16), .ref (nx + 17), .int (nI 1), .ref (nx + 18), .ref (nx + 19), .int 0, .int 0, .ref (nx + 20), .ref (nx + 21), .ref (nx + 22), .ref (nx + 23), .ref (nx + 24), .ref (nx + 25), .ref (nx + 26), .ref (nx + 27), .ref (nx + 28), .int 0, .ref (nx + 29), .int 0, .ref (nx + 30), .ref (nx + 31), .ref (nx + 32), .ref (nx + 33), .ref (nx + 34), .ref (nx + 35), .null, .null, .null, .null, .int 0, .null, .null, .null] h → AW G m_Mod_init 1 43 1645373 F 311 [(0, .ref a)] [] (nx + 36, h) 36 1644757 := by
  intro h hi
  refine aw_aload_n (i := 0) d_Mod_init_311 rfl rfl ?_
  refine aw_iconst (v := nI 4) d_Mod_init_312 (by decide) ?_
  refine aw_newaI (106) (N := 4) d_Mod_init_313 rfl (Nat.le_of_ble_eq_true rfl) (Nat.le_of_ble_eq_true rfl) (Nat.le_of_ble_eq_true rfl) ?_
  refine aw_nn hi.2.1 ?_
  intro h m_ f_ o_ hd_
  have hi := hi.nw m_ f_ hd_
  apply aw_putF d_Mod_init_315 pl_Mod_129 rfl; exact hi.1; exact Nat.le_of_ble_eq_true rfl; exact rfl; exact rfl
  refine aw_nm hi.1 ?_
  intro h m_ f_ o_
  exact kk h (hi.pt m_ f_ o_)
set_option maxHeartbeats 4000000 in
set_option maxRecDepth 20000 in
theorem mi_39 {G : aG} {F : FT} {nx a : Nat} {h0 : Nat → Option aC} (kk : ∀ h, MIv nx h0 a 38 [.int 0, .int 0, .ref (nx + 0), .ref (nx + 1), .int 0, .ref (nx + 2), .ref (nx + 3), .ref (nx + 4), .ref (nx + 5), .ref (nx + 6), .ref (nx + 7), .ref (nx + 8), .ref (nx + 9), .ref (nx + 10), .ref (nx + 11), .int 0, .ref (nx + 12), .ref (nx + 13), .int (nI 2), .ref (nx + 14), .ref (nx + 15), .ref (nx + 16), .ref (nx + 17), .int (nI 1), .ref (nx + 18), .ref (nx + 19), .int 0, .int 0, .ref (nx + 20), .ref (nx + 21), .ref (nx + 22), .ref (nx + 23), .ref (nx + 24), .ref (nx + 25), .ref (nx + 26), .ref (nx + 27), .ref (nx + 28), .int 0, .ref (nx + 29), .int 0, .ref (nx + 30), .ref (nx + 31), .ref (nx + 32), .ref (nx + 33), .ref (nx + 34), .ref (nx + 35), .ref (nx + 36), .ref (nx + 37), .null, .null, .int 0, .null, .null, .null] h → AW G m_Mod_init 1 43 1645373 F 325 [(0, .ref a)] [] (nx + 38, h) 38 1644765) : ∀ h, MIv nx h0 a 37 [.int 0, .int 0, .ref (nx + 0), .ref (nx + 1), .int 0, .ref (nx + 2), .ref (nx + 3), .ref (nx + 4), .ref (nx + 5), .ref (nx + 6), .ref (nx + 7), .ref (nx + 8), .ref (nx + 9), .ref (nx + 10), .ref (nx + 11), .int 0, .ref (nx + 12), .ref (nx + 13), .int (nI 2), .ref (nx + 14), .ref (nx + 15), .ref (nx + 16), .ref (nx + 17), .int (nI 1), .ref (nx + 18), .ref (nx + 19), .int 0, .int 0, .ref (nx + 20), .ref (nx + 21), .ref (nx + 22), .ref (nx + 23), .ref (nx + 24), .ref (nx + 25), .ref (nx + 26), .ref (nx + 27), .ref (nx + 28), .int 0, .ref (nx + 29), .int 0, .ref (nx + 30), .ref (nx + 31), .ref (nx + 32), .ref (nx + 33), .ref (nx + 34), .ref (nx + 35), .ref (nx + 36), .null, .null, .null, .int 0, .null, .null, .null] h → AW G m_Mod_init 1 43 1645373 F 318 [(0, .ref a)] [] (nx + 37, h) 37 1644761 := by
  intro h hi
  refine aw_aload_n (i := 0) d_Mod_init_318 rfl rfl ?_
  refine aw_iconst (v := nI 4) d_Mod_init_319 (by decide) ?_
  refine aw_newaI (107) (N := 4) d_Mod_init_320 rfl (Nat.le_of_ble_eq_true rfl) (Nat.le_of_ble_eq_true rfl) (Nat.le_of_ble_eq_true rfl) ?_
  refine aw_nn hi.2.1 ?_
  intro h m_ f_ o_ hd_
  have hi := hi.nw m_ f_ hd_
  apply aw_putF d_Mod_init_322 pl_Mod_132 rfl; exact hi.1; exact Nat.le_of_ble_eq_true rfl; exact rfl; exact rfl
  refine aw_nm hi.1 ?_
  intro h m_ f_ o_
  exact kk h (hi.pt m_ f_ o_)
set_option maxHeartbeats 4000000 in
set_option maxRecDepth 20000 in
theorem mi_40 {G : aG} {F : FT} {nx a : Nat} {h0 : Nat → Option aC} (kk : ∀ h, MIv nx h0 a 39 [.int 0, .int 0, .ref (nx + 0), .ref (nx + 1), .int 0, .ref (nx + 2), .ref (nx + 3), .ref (nx + 4), .ref (nx + 5), .ref (nx + 6), .ref (nx + 7), .ref (nx + 8), .ref (nx + 9), .ref (nx + 10), .ref (nx + 11), .int 0, .ref (nx + 12), .ref (nx + 13), .int (nI 2), .ref (nx + 14), .ref (nx + 15), .ref (nx + 16), .ref (nx + 17), .int (nI 1), .ref (nx + 18), .ref (nx + 19), .int 0, .int 0, .ref (nx + 20), .ref (nx + 21), .ref (nx + 22), .ref (nx + 23), .ref (nx + 24), .ref (nx + 25), .ref (nx + 26), .ref (nx + 27), .ref (nx + 28), .int 0, .ref (nx + 29), .int 0, .ref (nx + 30), .ref (nx + 31), .ref (nx + 32), .ref (nx + 33), .ref (nx + 34), .ref (nx + 35), .ref (nx + 36), .ref (nx + 37), .ref (nx + 38), .null, .int 0, .null, .null, .null] h → AW G m_Mod_init 1 43 1645373 F 332 [(0, .ref a)] [] (nx + 39, h) 39 1644769) : ∀ h, MIv nx h0 a 38 [.int 0, .int 0, .ref (nx + 0), .ref (nx + 1), .int 0, .ref (nx + 2), .ref (nx + 3), .ref (nx + 4), .ref (nx + 5), .ref (nx + 6), .ref (nx + 7), .ref (nx + 8), .ref (nx + 9), .ref (nx + 10), .ref (nx + 11), .int 0, .ref (nx + 12), .ref (nx + 13), .int (nI 2), .ref (nx + 14), .ref (nx + 15), .ref (nx + 16), .ref (nx + 17), .int (nI 1), .ref (nx + 18), .ref (nx + 19), .int 0, .int 0, .ref (nx + 20), .ref (nx + 21), .ref (nx + 22), .ref (nx + 23), .ref (nx + 24), .ref (nx + 25), .ref (nx + 26), .ref (nx + 27), .ref (nx + 28), .int 0, .ref (nx + 29), .int 0, .ref (nx + 30), .ref (nx + 31), .ref (nx + 32), .ref (nx + 33), .ref (nx + 34), .ref (nx + 35), .ref (nx + 36), .ref (nx + 37), .null, .null, .int 0, .null, .null, .null] h → AW G m_Mod_init 1 43 1645373 F 325 [(0, .ref a)] [] (nx + 38, h) 38 1644765 := by
  intro h hi
  refine aw_aload_n (i := 0) d_Mod_init_325 rfl rfl ?_
  refine aw_iconst (v := nI 4) d_Mod_init_326 (by decide) ?_
  refine aw_newaI (108) (N := 4) d_Mod_init_327 rfl (Nat.le_of_ble_eq_true rfl) (Nat.le_of_ble_eq_true rfl) (Nat.le_of_ble_eq_true rfl) ?_
  refine aw_nn hi.2.1 ?_
  intro h m_ f_ o_ hd_
  have hi := hi.nw m_ f_ hd_
  apply aw_putF d_Mod_init_329 pl_Mod_135 rfl; exact hi.1; exact Nat.le_of_ble_eq_true rfl; exact rfl; exact rfl
  refine aw_nm hi.1 ?_
  intro h m_ f_ o_
  exact kk h (hi.pt m_ f_ o_)
set_option maxHeartbeats 4000000 in
set_option maxRecDepth 20000 in
theorem mi_41 {G : aG} {F : FT} {nx a : Nat} {h0 : Nat → Option aC} (kk : ∀ h, MIv nx h0 a 40 [.int 0, .int 0, .ref (nx + 0), .ref (nx + 1), .int 0, .ref (nx + 2), .ref (nx + 3), .ref (nx + 4), .ref (nx + 5), .ref (nx + 6), .ref (nx + 7), .ref (nx + 8), .ref (nx + 9), .ref (nx + 10), .ref (nx + 11), .int 0, .ref (nx + 12), .ref (nx + 13), .int (nI 2), .ref (nx + 14), .ref (nx + 15), .ref (nx + 16), .ref (nx + 17), .int (nI 1), .ref (nx + 18), .ref (nx + 19), .int 0, .int 0, .ref (nx + 20), .ref (nx + 21), .ref (nx + 22), .ref (nx + 23), .ref (nx + 24), .ref (nx + 25), .ref (nx + 26), .ref (nx + 27), .ref (nx + 28), .int 0, .ref (nx + 29), .int 0, .ref (nx + 30), .ref (nx + 31), .ref (nx + 32), .ref (nx + 33), .ref (nx + 34), .ref (nx + 35), .ref (nx + 36), .ref (nx + 37), .ref (nx + 38), .ref (nx + 39), .int 0, .null, .null, .null] h → AW G m_Mod_init 1 43 1645373 F 339 [(0, .ref a)] [] (nx + 40, h) 40 1644773) : ∀ h, MIv nx h0 a 39 [.int 0, .int 0, .ref (nx + 0), .ref (nx + 1), .int 0, .ref (nx + 2), .ref (nx + 3), .ref (nx + 4), .ref (nx + 5), .ref (nx + 6), .ref (nx + 7), .ref (nx + 8), .ref (nx + 9), .ref (nx + 10), .ref (nx + 11), .int 0, .ref (nx + 12), .ref (nx + 13), .int (nI 2), .ref (nx + 14), .ref (nx + 15), .ref (nx + 16), .ref (nx + 17), .int (nI 1), .ref (nx + 18), .ref (nx + 19), .int 0, .int 0, .ref (nx + 20), .ref (nx + 21), .ref (nx + 22), .ref (nx + 23), .ref (nx + 24), .ref (nx + 25), .ref (nx + 26), .ref (nx + 27), .ref (nx + 28), .int 0, .ref (nx + 29), .int 0, .ref (nx + 30), .ref (nx + 31), .ref (nx + 32), .ref (nx + 33), .ref (nx + 34), .ref (nx + 35), .ref (nx + 36), .ref (nx + 37), .ref (nx + 38), .null, .int 0, .null, .null, .null] h → AW G m_Mod_init 1 43 1645373 F 332 [(0, .ref a)] [] (nx + 39, h) 39 1644769 := by
  intro h hi
  refine aw_aload_n (i := 0) d_Mod_init_332 rfl rfl ?_
  refine aw_iconst (v := nI 4) d_Mod_init_333 (by decide) ?_
  refine aw_newaI (109) (N := 4) d_Mod_init_334 rfl (Nat.le_of_ble_eq_true rfl) (Nat.le_of_ble_eq_true rfl) (Nat.le_of_ble_eq_true rfl) ?_
  refine aw_nn hi.2.1 ?_
  intro h m_ f_ o_ hd_
  have hi := hi.nw m_ f_ hd_
  apply aw_putF d_Mod_init_336 pl_Mod_138 rfl; exact hi.1; exact Nat.le_of_ble_eq_true rfl; exact rfl; exact rfl
  refine aw_nm hi.1 ?_
  intro h m_ f_ o_
  exact kk h (hi.pt m_ f_ o_)
set_option maxHeartbeats 4000000 in
set_option maxRecDepth 20000 in
theorem mi_42 {G : aG} {F : FT} {nx a : Nat} {h0 : Nat → Option aC} (kk : ∀ h, MIv nx h0 a 41 [.int 0, .int 0, .ref (nx + 0), .ref (nx + 1), .int 0, .ref (nx + 2), .ref (nx + 3), .ref (nx + 4), .ref (nx + 5), .ref (nx + 6), .ref (nx + 7), .ref (nx + 8), .ref (nx + 9), .ref (nx + 10), .ref (nx + 11), .int 0, .ref (nx + 12), .ref (nx + 13), .int (nI 2), .ref (nx + 14), .ref (nx + 15), .ref (nx + 16), .ref (nx + 17), .int (nI 1), .ref (nx + 18), .ref (nx + 19), .int 0, .int 0, .ref (nx + 20), .ref (nx + 21), .ref (nx + 22), .ref (nx + 23), .ref (nx + 24), .ref (nx + 25), .ref (nx + 26), .ref (nx + 27), .ref (nx + 28), .int 0, .ref (nx + 29), .int 0, .ref (nx + 30), .ref (nx + 31), .ref (nx + 32), .ref (nx + 33), .ref (nx + 34), .ref (nx + 35), .ref (nx + 36), .ref (nx + 37), .ref (nx + 38), .ref (nx + 39), .int 0, .ref (nx + 40), .null, .null] h → AW G m_Mod_init 1 43 1645373 F 348 [(0, .ref a)] [] (nx + 41, h) 41 1644973) : ∀ h, MIv nx h0 a 40 [.int 0, .int 0, .ref (nx + 0), .ref (nx + 1), .int 0, .ref (nx + 2), .ref (nx + 3), .ref (nx + 4), .ref (nx + 5), .ref (nx + 6), .ref (nx + 7), .ref (nx + 8), .ref (nx + 9), .ref (nx + 10), .ref (nx + 11), .int 0, .ref (nx + 12), .ref (nx + 13), .int (nI 2), .ref (nx + 14), .ref (nx + 15), .ref (nx + 16), .ref (nx + 17), .int (nI 1), .ref (nx + 18), .ref (nx + 19), .int 0, .int 0, .ref (nx + 20), .ref (nx + 21), .ref (nx + 22), .ref (nx + 23), .ref (nx + 24), .ref (nx + 25), .ref (nx + 26), .ref (nx + 27), .ref (nx + 28), .int 0, .ref (nx + 29), .int 0, .ref (nx + 30), .ref (nx + 31), .ref (nx + 32), .ref (nx + 33), .ref (nx + 34), .ref (nx + 35), .ref (nx + 36), .ref (nx + 37), .ref (nx + 38), .ref (nx + 39), .int 0, .null, .null, .null] h → AW G m_Mod_init 1 43 1645373 F 339 [(0, .ref a)] [] (nx + 40, h) 40 1644773 := by
  intro h hi
  refine aw_aload_n (i := 0) d_Mod_init_339 rfl rfl ?_
  refine aw_sipush (v := nI 200) d_Mod_init_340 (by decide) ?_
  refine aw_newaI (111) (N := 200) d_Mod_init_343 rfl (Nat.le_of_ble_eq_true rfl) (Nat.le_of_ble_eq_true rfl) (Nat.le_of_ble_eq_true rfl) ?_
  refine aw_nn hi.2.1 ?_
  intro h m_ f_ o_ hd_
  have hi := hi.nw m_ f_ hd_
  apply aw_putF d_Mod_init_345 pl_Mod_141 rfl; exact hi.1; exact Nat.le_of_ble_eq_true rfl; exact rfl; exact rfl
  refine aw_nm hi.1 ?_
  intro h m_ f_ o_
  exact kk h (hi.pt m_ f_ o_)
set_option maxHeartbeats 4000000 in
set_option maxRecDepth 20000 in
theorem mi_43 {G : aG} {F : FT} {nx a : Nat} {h0 : Nat → Option aC} (kk : ∀ h, MIv nx h0 a 42 [.int 0, .int 0, .ref (nx + 0), .ref (nx + 1), .int 0, .ref (nx + 2), .ref (nx + 3), .ref (nx + 4), .ref (nx + 5), .ref (nx + 6), .ref (nx + 7), .ref (nx + 8), .ref (nx + 9), .ref (nx + 10), .ref (nx + 11), .int 0, .ref (nx + 12), .ref (nx + 13), .int (nI 2), .ref (nx + 14), .ref (nx + 15), .ref (nx + 16), .ref (nx + 17), .int (nI 1), .ref (nx + 18), .ref (nx + 19), .int 0, .int 0, .ref (nx + 20), .ref (nx + 21), .ref (nx + 22), .ref (nx + 23), .ref (nx + 24), .ref (nx + 25), .ref (nx + 26), .ref (nx + 27), .ref (nx + 28), .int 0, .ref (nx + 29), .int 0, .ref (nx + 30), .ref (nx + 31), .ref (nx + 32), .ref (nx + 33), .ref (nx + 34), .ref (nx + 35), .ref (nx + 36), .ref (nx + 37), .ref (nx + 38), .ref (nx + 39), .int 0, .ref (nx + 40), .ref (nx + 41), .null] h → AW G m_Mod_init 1 43 1645373 F 357 [(0, .ref a)] [] (nx + 42, h) 42 1645173) : ∀ h, MIv nx h0 a 41 [.int 0, .int 0, .ref (nx + 0), .ref (nx + 1), .int 0, .ref (nx + 2), .ref (nx + 3), .ref (nx + 4), .ref (nx + 5), .ref (nx + 6), .ref (nx + 7), .ref (nx + 8), .ref (nx + 9), .ref (nx + 10), .ref (nx + 11), .int 0, .ref (nx + 12), .ref (nx + 13), .int (nI 2), .ref (nx + 14), .ref (nx + 15), .ref (nx + 16), .ref (nx + 17), .int (nI 1), .ref (nx + 18), .ref (nx + 19), .int 0, .int 0, .ref (nx + 20), .ref (nx + 21), .ref (nx + 22), .ref (nx + 23), .ref (nx + 24), .ref (nx + 25), .ref (nx + 26), .ref (nx + 27), .ref (nx + 28), .int 0, .ref (nx + 29), .int 0, .ref (nx + 30), .ref (nx + 31), .ref (nx + 32), .ref (nx + 33), .ref (nx + 34), .ref (nx + 35), .ref (nx + 36), .ref (nx + 37), .ref (nx + 38), .ref (nx + 39), .int 0, .ref (nx + 40), .null, .null] h → AW G m_Mod_init 1 43 1645373 F 348 [(0, .ref a)] [] (nx + 41, h) 41 1644973 := by
  intro h hi
  refine aw_aload_n (i := 0) d_Mod_init_348 rfl rfl ?_
  refine aw_sipush (v := nI 200) d_Mod_init_349 (by decide) ?_
  refine aw_newaI (112) (N := 200) d_Mod_init_352 rfl (Nat.le_of_ble_eq_true rfl) (Nat.le_of_ble_eq_true rfl) (Nat.le_of_ble_eq_true rfl) ?_
  refine aw_nn hi.2.1 ?_
  intro h m_ f_ o_ hd_
  have hi := hi.nw m_ f_ hd_
  apply aw_putF d_Mod_init_354 pl_Mod_144 rfl; exact hi.1; exact Nat.le_of_ble_eq_true rfl; exact rfl; exact rfl
  refine aw_nm hi.1 ?_
  intro h m_ f_ o_
  exact kk h (hi.pt m_ f_ o_)
set_option maxHeartbeats 4000000 in
set_option maxRecDepth 20000 in
theorem mi_44 {G : aG} {F : FT} {nx a : Nat} {h0 : Nat → Option aC} (kk : ∀ h, MIv nx h0 a 43 [.int 0, .int 0, .ref (nx + 0), .ref (nx + 1), .int 0, .ref (nx + 2), .ref (nx + 3), .ref (nx + 4), .ref (nx + 5), .ref (nx + 6), .ref (nx + 7), .ref (nx + 8), .ref (nx + 9), .ref (nx + 10), .ref (nx + 11), .int 0, .ref (nx + 12), .ref (nx + 13), .int (nI 2), .ref (nx + 14), .ref (nx + 15), .ref (nx + 16), .ref (nx + 17), .int (nI 1), .ref (nx + 18), .ref (nx + 19), .int 0, .int 0, .ref (nx + 20), .ref (nx + 21), .ref (nx + 22), .ref (nx + 23), .ref (nx + 24), .ref (nx + 25), .ref (nx + 26), .ref (nx + 27), .ref (nx + 28), .int 0, .ref (nx + 29), .int 0, .ref (nx + 30), .ref (nx + 31), .ref (nx + 32), .ref (nx + 33), .ref (nx + 34), .ref (nx + 35), .ref (nx + 36), .ref (nx + 37), .ref (nx + 38), .ref (nx + 39), .int 0, .ref (nx + 40), .ref (nx + 41), .ref (nx + 42)] h → AW G m_Mod_init 1 43 1645373 F 366 [(0, .ref a)] [] (nx + 43, h) 43 1645373) : ∀ h, MIv nx h0 a 42 [.int 0, .int 0, .ref (nx + 0), .ref (nx + 1), .int 0, .ref (nx + 2), .ref (nx + 3), .ref (nx + 4), .ref (nx + 5), .ref (nx + 6), .ref (nx + 7), .ref (nx + 8), .ref (nx + 9), .ref (nx + 10), .ref (nx + 11), .int 0, .ref (nx + 12), .ref (nx + 13), .int (nI 2), .ref (nx + 14), .ref (nx + 15), .ref (nx + 16), .ref (nx + 17), .int (nI 1), .ref (nx + 18), .ref (nx + 19), .int 0, .int 0, .ref (nx + 20), .ref (nx + 21), .ref (nx + 22), .ref (nx + 23), .ref (nx + 24), .ref (nx + 25), .ref (nx + 26), .ref (nx + 27), .ref (nx + 28), .int 0, .ref (nx + 29), .int 0, .ref (nx + 30), .ref (nx + 31), .ref (nx + 32), .ref (nx + 33), .ref (nx + 34), .ref (nx + 35), .ref (nx + 36), .ref (nx + 37), .ref (nx + 38), .ref (nx + 39), .int 0, .ref (nx + 40), .ref (nx + 41), .null] h → AW G m_Mod_init 1 43 1645373 F 357 [(0, .ref a)] [] (nx + 42, h) 42 1645173 := by
  intro h hi
  refine aw_aload_n (i := 0) d_Mod_init_357 rfl rfl ?_
  refine aw_sipush (v := nI 200) d_Mod_init_358 (by decide) ?_
  refine aw_newaI (113) (N := 200) d_Mod_init_361 rfl (Nat.le_of_ble_eq_true rfl) (Nat.le_of_ble_eq_true rfl) (Nat.le_of_ble_eq_true rfl) ?_
  refine aw_nn hi.2.1 ?_
  intro h m_ f_ o_ hd_
  have hi := hi.nw m_ f_ hd_
  apply aw_putF d_Mod_init_363 pl_Mod_147 rfl; exact hi.1; exact Nat.le_of_ble_eq_true rfl; exact rfl; exact rfl
  refine aw_nm hi.1 ?_
  intro h m_ f_ o_
  exact kk h (hi.pt m_ f_ o_)
set_option maxHeartbeats 4000000 in
set_option maxRecDepth 20000 in
theorem miv_mo {nx a : Nat} {h0 h : Nat → Option aC} (hi : MIv nx h0 a 43 [.int 0, .int 0, .ref (nx + 0), .ref (nx + 1), .int 0, .ref (nx + 2), .ref (nx + 3), .ref (nx + 4), .ref (nx + 5), .ref (nx + 6), .ref (nx + 7), .ref (nx + 8), .ref (nx + 9), .ref (nx + 10), .ref (nx + 11), .int 0, .ref (nx + 12), .ref (nx + 13), .int (nI 2), .ref (nx + 14), .ref (nx + 15), .ref (nx + 16), .ref (nx + 17), .int (nI 1), .ref (nx + 18), .ref (nx + 19), .int 0, .int 0, .ref (nx + 20), .ref (nx + 21), .ref (nx + 22), .ref (nx + 23), .ref (nx + 24), .ref (nx + 25), .ref (nx + 26), .ref (nx + 27), .ref (nx + 28), .int 0, .ref (nx + 29), .int 0, .ref (nx + 30), .ref (nx + 31), .ref (nx + 32), .ref (nx + 33), .ref (nx + 34), .ref (nx + 35), .ref (nx + 36), .ref (nx + 37), .ref (nx + 38), .ref (nx + 39), .int 0, .ref (nx + 40), .ref (nx + 41), .ref (nx + 42)] h) : MoS h a (aM nx) sM (fun _ _ => 0) := by
  refine ⟨hi.1, fun f hf => ?_, fun f hf => ?_, hi.2.2.1 26 (by decide)⟩
  · have hf := List.contains_iff_mem.mp hf
    simp only [mial, List.mem_cons, List.not_mem_nil, or_false] at hf
    rcases hf with rfl | rfl | rfl | rfl | rfl | rfl | rfl | rfl | rfl | rfl | rfl | rfl | rfl | rfl | rfl | rfl | rfl | rfl | rfl | rfl | rfl | rfl | rfl | rfl | rfl | rfl | rfl | rfl | rfl | rfl | rfl | rfl | rfl | rfl | rfl | rfl | rfl | rfl | rfl
    · exact hi.2.2.1 0 (by decide)
    · exact hi.2.2.1 1 (by decide)
    · exact hi.2.2.1 2 (by decide)
    · exact hi.2.2.1 3 (by decide)
    · exact hi.2.2.1 4 (by decide)
    · exact hi.2.2.1 5 (by decide)
    · exact hi.2.2.1 6 (by decide)
    · exact hi.2.2.1 7 (by decide)
    · exact hi.2.2.1 8 (by decide)
    · exact hi.2.2.1 9 (by decide)
    · exact hi.2.2.1 10 (by decide)
    · exact hi.2.2.1 11 (by decide)
    · exact hi.2.2.1 12 (by decide)
    · exact hi.2.2.1 13 (by decide)
    · exact hi.2.2.1 14 (by decide)
    · exact hi.2.2.1 15 (by decide)
    · exact hi.2.2.1 16 (by decide)
    · exact hi.2.2.1 17 (by decide)
    · exact hi.2.2.1 18 (by decide)
    · exact hi.2.2.1 19 (by decide)
    · exact hi.2.2.1 20 (by decide)
    · exact hi.2.2.1 22 (by decide)
    · exact hi.2.2.1 23 (by decide)
    · exact hi.2.2.1 24 (by decide)
    · exact hi.2.2.1 25 (by decide)
    · exact hi.2.2.1 27 (by decide)
    · exact hi.2.2.1 28 (by decide)
    · exact hi.2.2.1 29 (by decide)
    · exact hi.2.2.1 30 (by decide)
    · exact hi.2.2.1 31 (by decide)
    · exact hi.2.2.1 33 (by decide)
    · exact hi.2.2.1 35 (by decide)
    · exact hi.2.2.1 36 (by decide)
    · exact hi.2.2.1 37 (by decide)
    · exact hi.2.2.1 38 (by decide)
    · exact hi.2.2.1 39 (by decide)
    · exact hi.2.2.1 40 (by decide)
    · exact hi.2.2.1 41 (by decide)
    · exact hi.2.2.1 42 (by decide)
  · have hf := List.contains_iff_mem.mp hf
    simp only [List.mem_cons, List.not_mem_nil, or_false] at hf
    rcases hf with rfl | rfl | rfl
    · exact hi.2.2.1 21 (by decide)
    · exact hi.2.2.1 32 (by decide)
    · exact hi.2.2.1 34 (by decide)
set_option maxHeartbeats 4000000 in
set_option maxRecDepth 20000 in
theorem c_Mod_init {G : aG} {nx : Nat} {h : Nat → Option aC} {a : Nat} (ha : h a = some (ob 50 11 [.int 0, .int 0, .null, .null, .int 0, .null, .null, .null, .null, .null, .null, .null, .null, .null, .null, .int 0, .null, .null, .int 0, .null, .null, .null, .null, .int 0, .null, .null, .int 0, .int 0, .null, .null, .null, .null, .null, .null, .null, .null, .null, .int 0, .null, .int 0, .null, .null, .null, .null, .null, .null, .null, .null, .null, .null, .int 0, .null, .null, .null])) (hd : Dom nx h) : AMet G m_Mod_init 1 43 1645373 [.ref a] (nx, h) (fun r w => r = none ∧ ∃ h2, w = (nx + 43, h2) ∧ Dom (nx + 43) h2 ∧ MoS h2 a (aM nx) sM (fun _ _ => 0) ∧ Fr [50] h h2) := by
  refine amet_of pf_Mod_init (Nat.le_of_ble_eq_true rfl) ?_
  show AW G m_Mod_init 1 43 1645373 _ 0 [(0, .ref a)] [] (nx, h) 0 0
  refine aw_aload_n (i := 0) d_Mod_init_0 rfl rfl ?_
  refine aw_objInit d_Mod_init_1 oi_Mod_1 (by decide) (Nat.le_of_ble_eq_true rfl) ?_
  refine (mi_0 (mi_1 (mi_2 (mi_3 (mi_4 (mi_5 (mi_6 (mi_7 (mi_8 (mi_9 (mi_10 (mi_11 (mi_12 (mi_13 (mi_14 (mi_15 (mi_16 (mi_17 (mi_18 (mi_19 (mi_20 (mi_21 (mi_22 (mi_23 (mi_24 (mi_25 (mi_26 (mi_27 (mi_28 (mi_29 (mi_30 (mi_31 (mi_32 (mi_33 (mi_34 (mi_35 (mi_36 (mi_37 (mi_38 (mi_39 (mi_40 (mi_41 (mi_42 (mi_43 (mi_44 (fun h hi => ?_)))))))))))))))))))))))))))))))))))))))))))))) h ⟨ha, hd, fun j hj => absurd hj (Nat.not_lt_zero _), Fr.rf⟩
  refine aw_vret d_Mod_init_366 rfl (Nat.le_refl _) (Nat.le_refl _) ?_
  exact ⟨rfl, h, rfl, hi.2.1, miv_mo hi, hi.2.2.2⟩
def gsZ : List GSt := [gz0, gz0, gz0, gz0]
theorem mo_z : MoA sM (fun _ _ => 0) hsC gsZ [] [] := ⟨MoH.mk rfl rfl rfl rfl (fun i hi => absurd hi (Nat.not_lt_zero _)) (fun i hi => absurd hi (Nat.not_lt_zero _)) (fun i hi => absurd hi (Nat.not_lt_zero _)), ⟨rfl, fun g hg => by
  rcases (show g = 0 ∨ g = 1 ∨ g = 2 ∨ g = 3 by omega) with e | e | e | e <;> subst e <;> exact ⟨rfl, fun q => by cases q⟩⟩, ⟨rfl, Nat.zero_le _, fun k hk => absurd hk (Nat.not_lt_zero _)⟩, ⟨rfl, Nat.zero_le _, fun k hk => absurd hk (Nat.not_lt_zero _)⟩, ⟨true, rfl, fun q => by cases q⟩⟩
