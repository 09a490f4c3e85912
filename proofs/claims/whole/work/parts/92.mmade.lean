def aM (nx : Nat) : Nat → Nat
  | 2 => nx
  | 3 => nx + 1
  | 5 => nx + 2
  | 6 => nx + 3
  | 7 => nx + 4
  | 8 => nx + 5
  | 9 => nx + 6
  | 10 => nx + 7
  | 11 => nx + 8
  | 12 => nx + 9
  | 13 => nx + 10
  | 14 => nx + 11
  | 16 => nx + 12
  | 17 => nx + 13
  | 19 => nx + 14
  | 20 => nx + 15
  | 21 => nx + 16
  | 22 => nx + 17
  | 24 => nx + 18
  | 25 => nx + 19
  | 28 => nx + 20
  | 29 => nx + 21
  | 30 => nx + 22
  | 31 => nx + 23
  | 32 => nx + 24
  | 33 => nx + 25
  | 34 => nx + 26
  | 35 => nx + 27
  | 36 => nx + 28
  | 38 => nx + 29
  | 40 => nx + 30
  | 41 => nx + 31
  | 42 => nx + 32
  | 43 => nx + 33
  | 44 => nx + 34
  | 45 => nx + 35
  | 46 => nx + 36
  | 47 => nx + 37
  | 48 => nx + 38
  | 49 => nx + 39
  | 51 => nx + 40
  | 52 => nx + 41
  | 53 => nx + 42
  | _ => 0
def sM : Nat → Int32 := fun f => if f = 18 then 2 else if f = 23 then 1 else 0
set_option maxHeartbeats 4000000 in
set_option maxRecDepth 20000 in
theorem c_Mod_init {G : aG} {nx : Nat} {h : Nat → Option aC} {a : Nat} (ha : h a = some (ob 50 11 [.int 0, .int 0, .null, .null, .int 0, .null, .null, .null, .null, .null, .null, .null, .null, .null, .null, .int 0, .null, .null, .int 0, .null, .null, .null, .null, .int 0, .null, .null, .int 0, .int 0, .null, .null, .null, .null, .null, .null, .null, .null, .null, .int 0, .null, .int 0, .null, .null, .null, .null, .null, .null, .null, .null, .null, .null, .int 0, .null, .null, .null])) (hd : Dom nx h) : AMet G m_Mod_init 1 43 1645373 [.ref a] (nx, h) (fun r w => r = none ∧ ∃ h2, w = (nx + 43, h2) ∧ Dom (nx + 43) h2 ∧ MoS h2 a (aM nx) sM (fun _ _ => 0) ∧ Fr [50] h h2) := by
  have FR : Fr [50] h h := Fr.rf
  refine amet_of pf_Mod_init (Nat.le_of_ble_eq_true rfl) ?_
  show AW G m_Mod_init 1 43 1645373 _ 0 [(0, .ref a)] [] (nx, h) 0 0
  refine aw_aload_n (i := 0) d_Mod_init_0 rfl rfl ?_
  refine aw_objInit d_Mod_init_1 oi_Mod_1 (by decide) (Nat.le_of_ble_eq_true rfl) ?_
  refine aw_aload_n (i := 0) d_Mod_init_4 rfl rfl ?_
  refine aw_bipush (v := nI 12) d_Mod_init_5 (by decide) ?_
  refine aw_newaI (62) (N := 12) d_Mod_init_7 rfl (by omega) (by omega) (by omega) ?_
  refine aw_nn hd ?_
  intro h m2 f_ o_ hd
  have ha := f_ _ _ ha (by simp)
  have FR := FR.tr (f_.up (fun _ z => absurd z List.not_mem_nil))
  apply aw_putF d_Mod_init_9 pl_Mod_9 rfl; exact ha; exact Nat.le_of_ble_eq_true rfl; exact rfl; exact rfl
  refine aw_nm ha ?_
  intro h ha_ f_ o_
  have hd := dom_o hd ha o_
  have m2 := f_ _ _ m2 (by simp)
  have ha := ha_
  have FR := FR.tr (f_.up (by simp))
  refine aw_aload_n (i := 0) d_Mod_init_12 rfl rfl ?_
  refine aw_bipush (v := nI 12) d_Mod_init_13 (by decide) ?_
  refine aw_newaI (63) (N := 12) d_Mod_init_15 rfl (by omega) (by omega) (by omega) ?_
  refine aw_nn hd ?_
  intro h m3 f_ o_ hd
  have ha := f_ _ _ ha (by simp)
  have m2 := f_ _ _ m2 (by simp)
  have FR := FR.tr (f_.up (fun _ z => absurd z List.not_mem_nil))
  apply aw_putF d_Mod_init_17 pl_Mod_13 rfl; exact ha; exact Nat.le_of_ble_eq_true rfl; exact rfl; exact rfl
  refine aw_nm ha ?_
  intro h ha_ f_ o_
  have hd := dom_o hd ha o_
  have m2 := f_ _ _ m2 (by simp)
  have m3 := f_ _ _ m3 (by simp)
  have ha := ha_
  have FR := FR.tr (f_.up (by simp))
  refine aw_aload_n (i := 0) d_Mod_init_20 rfl rfl ?_
  refine aw_bipush (v := nI 24) d_Mod_init_21 (by decide) ?_
  refine aw_newaI (65) (N := 24) d_Mod_init_23 rfl (by omega) (by omega) (by omega) ?_
  refine aw_nn hd ?_
  intro h m5 f_ o_ hd
  have ha := f_ _ _ ha (by simp)
  have m2 := f_ _ _ m2 (by simp)
  have m3 := f_ _ _ m3 (by simp)
  have FR := FR.tr (f_.up (fun _ z => absurd z List.not_mem_nil))
  apply aw_putF d_Mod_init_25 pl_Mod_16 rfl; exact ha; exact Nat.le_of_ble_eq_true rfl; exact rfl; exact rfl
  refine aw_nm ha ?_
  intro h ha_ f_ o_
  have hd := dom_o hd ha o_
  have m2 := f_ _ _ m2 (by simp)
  have m3 := f_ _ _ m3 (by simp)
  have m5 := f_ _ _ m5 (by simp)
  have ha := ha_
  have FR := FR.tr (f_.up (by simp))
  refine aw_aload_n (i := 0) d_Mod_init_28 rfl rfl ?_
  refine aw_bipush (v := nI 24) d_Mod_init_29 (by decide) ?_
  refine aw_newaI (66) (N := 24) d_Mod_init_31 rfl (by omega) (by omega) (by omega) ?_
  refine aw_nn hd ?_
  intro h m6 f_ o_ hd
  have ha := f_ _ _ ha (by simp)
  have m2 := f_ _ _ m2 (by simp)
  have m3 := f_ _ _ m3 (by simp)
  have m5 := f_ _ _ m5 (by simp)
  have FR := FR.tr (f_.up (fun _ z => absurd z List.not_mem_nil))
  apply aw_putF d_Mod_init_33 pl_Mod_19 rfl; exact ha; exact Nat.le_of_ble_eq_true rfl; exact rfl; exact rfl
  refine aw_nm ha ?_
  intro h ha_ f_ o_
  have hd := dom_o hd ha o_
  have m2 := f_ _ _ m2 (by simp)
  have m3 := f_ _ _ m3 (by simp)
  have m5 := f_ _ _ m5 (by simp)
  have m6 := f_ _ _ m6 (by simp)
  have ha := ha_
  have FR := FR.tr (f_.up (by simp))
  refine aw_aload_n (i := 0) d_Mod_init_36 rfl rfl ?_
  refine aw_bipush (v := nI 24) d_Mod_init_37 (by decide) ?_
  refine aw_newaI (67) (N := 24) d_Mod_init_39 rfl (by omega) (by omega) (by omega) ?_
  refine aw_nn hd ?_
  intro h m7 f_ o_ hd
  have ha := f_ _ _ ha (by simp)
  have m2 := f_ _ _ m2 (by simp)
  have m3 := f_ _ _ m3 (by simp)
  have m5 := f_ _ _ m5 (by simp)
  have m6 := f_ _ _ m6 (by simp)
  have FR := FR.tr (f_.up (fun _ z => absurd z List.not_mem_nil))
  apply aw_putF d_Mod_init_41 pl_Mod_22 rfl; exact ha; exact Nat.le_of_ble_eq_true rfl; exact rfl; exact rfl
  refine aw_nm ha ?_
  intro h ha_ f_ o_
  have hd := dom_o hd ha o_
  have m2 := f_ _ _ m2 (by simp)
  have m3 := f_ _ _ m3 (by simp)
  have m5 := f_ _ _ m5 (by simp)
  have m6 := f_ _ _ m6 (by simp)
  have m7 := f_ _ _ m7 (by simp)
  have ha := ha_
  have FR := FR.tr (f_.up (by simp))
  refine aw_aload_n (i := 0) d_Mod_init_44 rfl rfl ?_
  refine aw_bipush (v := nI 24) d_Mod_init_45 (by decide) ?_
  refine aw_newaI (68) (N := 24) d_Mod_init_47 rfl (by omega) (by omega) (by omega) ?_
  refine aw_nn hd ?_
  intro h m8 f_ o_ hd
  have ha := f_ _ _ ha (by simp)
  have m2 := f_ _ _ m2 (by simp)
  have m3 := f_ _ _ m3 (by simp)
  have m5 := f_ _ _ m5 (by simp)
  have m6 := f_ _ _ m6 (by simp)
  have m7 := f_ _ _ m7 (by simp)
  have FR := FR.tr (f_.up (fun _ z => absurd z List.not_mem_nil))
  apply aw_putF d_Mod_init_49 pl_Mod_25 rfl; exact ha; exact Nat.le_of_ble_eq_true rfl; exact rfl; exact rfl
  refine aw_nm ha ?_
  intro h ha_ f_ o_
  have hd := dom_o hd ha o_
  have m2 := f_ _ _ m2 (by simp)
  have m3 := f_ _ _ m3 (by simp)
  have m5 := f_ _ _ m5 (by simp)
  have m6 := f_ _ _ m6 (by simp)
  have m7 := f_ _ _ m7 (by simp)
  have m8 := f_ _ _ m8 (by simp)
  have ha := ha_
  have FR := FR.tr (f_.up (by simp))
  refine aw_aload_n (i := 0) d_Mod_init_52 rfl rfl ?_
  refine aw_bipush (v := nI 24) d_Mod_init_53 (by decide) ?_
  refine aw_newaI (69) (N := 24) d_Mod_init_55 rfl (by omega) (by omega) (by omega) ?_
  refine aw_nn hd ?_
  intro h m9 f_ o_ hd
  have ha := f_ _ _ ha (by simp)
  have m2 := f_ _ _ m2 (by simp)
  have m3 := f_ _ _ m3 (by simp)
  have m5 := f_ _ _ m5 (by simp)
  have m6 := f_ _ _ m6 (by simp)
  have m7 := f_ _ _ m7 (by simp)
  have m8 := f_ _ _ m8 (by simp)
  have FR := FR.tr (f_.up (fun _ z => absurd z List.not_mem_nil))
  apply aw_putF d_Mod_init_57 pl_Mod_28 rfl; exact ha; exact Nat.le_of_ble_eq_true rfl; exact rfl; exact rfl
  refine aw_nm ha ?_
  intro h ha_ f_ o_
  have hd := dom_o hd ha o_
  have m2 := f_ _ _ m2 (by simp)
  have m3 := f_ _ _ m3 (by simp)
  have m5 := f_ _ _ m5 (by simp)
  have m6 := f_ _ _ m6 (by simp)
  have m7 := f_ _ _ m7 (by simp)
  have m8 := f_ _ _ m8 (by simp)
  have m9 := f_ _ _ m9 (by simp)
  have ha := ha_
  have FR := FR.tr (f_.up (by simp))
  refine aw_aload_n (i := 0) d_Mod_init_60 rfl rfl ?_
  refine aw_bipush (v := nI 96) d_Mod_init_61 (by decide) ?_
  refine aw_newaI (70) (N := 96) d_Mod_init_63 rfl (by omega) (by omega) (by omega) ?_
  refine aw_nn hd ?_
  intro h m10 f_ o_ hd
  have ha := f_ _ _ ha (by simp)
  have m2 := f_ _ _ m2 (by simp)
  have m3 := f_ _ _ m3 (by simp)
  have m5 := f_ _ _ m5 (by simp)
  have m6 := f_ _ _ m6 (by simp)
  have m7 := f_ _ _ m7 (by simp)
  have m8 := f_ _ _ m8 (by simp)
  have m9 := f_ _ _ m9 (by simp)
  have FR := FR.tr (f_.up (fun _ z => absurd z List.not_mem_nil))
  apply aw_putF d_Mod_init_65 pl_Mod_31 rfl; exact ha; exact Nat.le_of_ble_eq_true rfl; exact rfl; exact rfl
  refine aw_nm ha ?_
  intro h ha_ f_ o_
  have hd := dom_o hd ha o_
  have m2 := f_ _ _ m2 (by simp)
  have m3 := f_ _ _ m3 (by simp)
  have m5 := f_ _ _ m5 (by simp)
  have m6 := f_ _ _ m6 (by simp)
  have m7 := f_ _ _ m7 (by simp)
  have m8 := f_ _ _ m8 (by simp)
  have m9 := f_ _ _ m9 (by simp)
  have m10 := f_ _ _ m10 (by simp)
  have ha := ha_
  have FR := FR.tr (f_.up (by simp))
  refine aw_aload_n (i := 0) d_Mod_init_68 rfl rfl ?_
  refine aw_bipush (v := nI 96) d_Mod_init_69 (by decide) ?_
  refine aw_newaI (71) (N := 96) d_Mod_init_71 rfl (by omega) (by omega) (by omega) ?_
  refine aw_nn hd ?_
  intro h m11 f_ o_ hd
  have ha := f_ _ _ ha (by simp)
  have m2 := f_ _ _ m2 (by simp)
  have m3 := f_ _ _ m3 (by simp)
  have m5 := f_ _ _ m5 (by simp)
  have m6 := f_ _ _ m6 (by simp)
  have m7 := f_ _ _ m7 (by simp)
  have m8 := f_ _ _ m8 (by simp)
  have m9 := f_ _ _ m9 (by simp)
  have m10 := f_ _ _ m10 (by simp)
  have FR := FR.tr (f_.up (fun _ z => absurd z List.not_mem_nil))
  apply aw_putF d_Mod_init_73 pl_Mod_34 rfl; exact ha; exact Nat.le_of_ble_eq_true rfl; exact rfl; exact rfl
  refine aw_nm ha ?_
  intro h ha_ f_ o_
  have hd := dom_o hd ha o_
  have m2 := f_ _ _ m2 (by simp)
  have m3 := f_ _ _ m3 (by simp)
  have m5 := f_ _ _ m5 (by simp)
  have m6 := f_ _ _ m6 (by simp)
  have m7 := f_ _ _ m7 (by simp)
  have m8 := f_ _ _ m8 (by simp)
  have m9 := f_ _ _ m9 (by simp)
  have m10 := f_ _ _ m10 (by simp)
  have m11 := f_ _ _ m11 (by simp)
  have ha := ha_
  have FR := FR.tr (f_.up (by simp))
  refine aw_aload_n (i := 0) d_Mod_init_76 rfl rfl ?_
  refine aw_bipush (v := nI 24) d_Mod_init_77 (by decide) ?_
  refine aw_newaI (72) (N := 24) d_Mod_init_79 rfl (by omega) (by omega) (by omega) ?_
  refine aw_nn hd ?_
  intro h m12 f_ o_ hd
  have ha := f_ _ _ ha (by simp)
  have m2 := f_ _ _ m2 (by simp)
  have m3 := f_ _ _ m3 (by simp)
  have m5 := f_ _ _ m5 (by simp)
  have m6 := f_ _ _ m6 (by simp)
  have m7 := f_ _ _ m7 (by simp)
  have m8 := f_ _ _ m8 (by simp)
  have m9 := f_ _ _ m9 (by simp)
  have m10 := f_ _ _ m10 (by simp)
  have m11 := f_ _ _ m11 (by simp)
  have FR := FR.tr (f_.up (fun _ z => absurd z List.not_mem_nil))
  apply aw_putF d_Mod_init_81 pl_Mod_37 rfl; exact ha; exact Nat.le_of_ble_eq_true rfl; exact rfl; exact rfl
  refine aw_nm ha ?_
  intro h ha_ f_ o_
  have hd := dom_o hd ha o_
  have m2 := f_ _ _ m2 (by simp)
  have m3 := f_ _ _ m3 (by simp)
  have m5 := f_ _ _ m5 (by simp)
  have m6 := f_ _ _ m6 (by simp)
  have m7 := f_ _ _ m7 (by simp)
  have m8 := f_ _ _ m8 (by simp)
  have m9 := f_ _ _ m9 (by simp)
  have m10 := f_ _ _ m10 (by simp)
  have m11 := f_ _ _ m11 (by simp)
  have m12 := f_ _ _ m12 (by simp)
  have ha := ha_
  have FR := FR.tr (f_.up (by simp))
  refine aw_aload_n (i := 0) d_Mod_init_84 rfl rfl ?_
  refine aw_bipush (v := nI 96) d_Mod_init_85 (by decide) ?_
  refine aw_newaI (73) (N := 96) d_Mod_init_87 rfl (by omega) (by omega) (by omega) ?_
  refine aw_nn hd ?_
  intro h m13 f_ o_ hd
  have ha := f_ _ _ ha (by simp)
  have m2 := f_ _ _ m2 (by simp)
  have m3 := f_ _ _ m3 (by simp)
  have m5 := f_ _ _ m5 (by simp)
  have m6 := f_ _ _ m6 (by simp)
  have m7 := f_ _ _ m7 (by simp)
  have m8 := f_ _ _ m8 (by simp)
  have m9 := f_ _ _ m9 (by simp)
  have m10 := f_ _ _ m10 (by simp)
  have m11 := f_ _ _ m11 (by simp)
  have m12 := f_ _ _ m12 (by simp)
  have FR := FR.tr (f_.up (fun _ z => absurd z List.not_mem_nil))
  apply aw_putF d_Mod_init_89 pl_Mod_40 rfl; exact ha; exact Nat.le_of_ble_eq_true rfl; exact rfl; exact rfl
  refine aw_nm ha ?_
  intro h ha_ f_ o_
  have hd := dom_o hd ha o_
  have m2 := f_ _ _ m2 (by simp)
  have m3 := f_ _ _ m3 (by simp)
  have m5 := f_ _ _ m5 (by simp)
  have m6 := f_ _ _ m6 (by simp)
  have m7 := f_ _ _ m7 (by simp)
  have m8 := f_ _ _ m8 (by simp)
  have m9 := f_ _ _ m9 (by simp)
  have m10 := f_ _ _ m10 (by simp)
  have m11 := f_ _ _ m11 (by simp)
  have m12 := f_ _ _ m12 (by simp)
  have m13 := f_ _ _ m13 (by simp)
  have ha := ha_
  have FR := FR.tr (f_.up (by simp))
  refine aw_aload_n (i := 0) d_Mod_init_92 rfl rfl ?_
  refine aw_bipush (v := nI 96) d_Mod_init_93 (by decide) ?_
  refine aw_newaI (74) (N := 96) d_Mod_init_95 rfl (by omega) (by omega) (by omega) ?_
  refine aw_nn hd ?_
  intro h m14 f_ o_ hd
  have ha := f_ _ _ ha (by simp)
  have m2 := f_ _ _ m2 (by simp)
  have m3 := f_ _ _ m3 (by simp)
  have m5 := f_ _ _ m5 (by simp)
  have m6 := f_ _ _ m6 (by simp)
  have m7 := f_ _ _ m7 (by simp)
  have m8 := f_ _ _ m8 (by simp)
  have m9 := f_ _ _ m9 (by simp)
  have m10 := f_ _ _ m10 (by simp)
  have m11 := f_ _ _ m11 (by simp)
  have m12 := f_ _ _ m12 (by simp)
  have m13 := f_ _ _ m13 (by simp)
  have FR := FR.tr (f_.up (fun _ z => absurd z List.not_mem_nil))
  apply aw_putF d_Mod_init_97 pl_Mod_43 rfl; exact ha; exact Nat.le_of_ble_eq_true rfl; exact rfl; exact rfl
  refine aw_nm ha ?_
  intro h ha_ f_ o_
  have hd := dom_o hd ha o_
  have m2 := f_ _ _ m2 (by simp)
  have m3 := f_ _ _ m3 (by simp)
  have m5 := f_ _ _ m5 (by simp)
  have m6 := f_ _ _ m6 (by simp)
  have m7 := f_ _ _ m7 (by simp)
  have m8 := f_ _ _ m8 (by simp)
  have m9 := f_ _ _ m9 (by simp)
  have m10 := f_ _ _ m10 (by simp)
  have m11 := f_ _ _ m11 (by simp)
  have m12 := f_ _ _ m12 (by simp)
  have m13 := f_ _ _ m13 (by simp)
  have m14 := f_ _ _ m14 (by simp)
  have ha := ha_
  have FR := FR.tr (f_.up (by simp))
  refine aw_aload_n (i := 0) d_Mod_init_100 rfl rfl ?_
  refine aw_bipush (v := nI 6) d_Mod_init_101 (by decide) ?_
  refine aw_newaI (76) (N := 6) d_Mod_init_103 rfl (by omega) (by omega) (by omega) ?_
  refine aw_nn hd ?_
  intro h m16 f_ o_ hd
  have ha := f_ _ _ ha (by simp)
  have m2 := f_ _ _ m2 (by simp)
  have m3 := f_ _ _ m3 (by simp)
  have m5 := f_ _ _ m5 (by simp)
  have m6 := f_ _ _ m6 (by simp)
  have m7 := f_ _ _ m7 (by simp)
  have m8 := f_ _ _ m8 (by simp)
  have m9 := f_ _ _ m9 (by simp)
  have m10 := f_ _ _ m10 (by simp)
  have m11 := f_ _ _ m11 (by simp)
  have m12 := f_ _ _ m12 (by simp)
  have m13 := f_ _ _ m13 (by simp)
  have m14 := f_ _ _ m14 (by simp)
  have FR := FR.tr (f_.up (fun _ z => absurd z List.not_mem_nil))
  apply aw_putF d_Mod_init_105 pl_Mod_46 rfl; exact ha; exact Nat.le_of_ble_eq_true rfl; exact rfl; exact rfl
  refine aw_nm ha ?_
  intro h ha_ f_ o_
  have hd := dom_o hd ha o_
  have m2 := f_ _ _ m2 (by simp)
  have m3 := f_ _ _ m3 (by simp)
  have m5 := f_ _ _ m5 (by simp)
  have m6 := f_ _ _ m6 (by simp)
  have m7 := f_ _ _ m7 (by simp)
  have m8 := f_ _ _ m8 (by simp)
  have m9 := f_ _ _ m9 (by simp)
  have m10 := f_ _ _ m10 (by simp)
  have m11 := f_ _ _ m11 (by simp)
  have m12 := f_ _ _ m12 (by simp)
  have m13 := f_ _ _ m13 (by simp)
  have m14 := f_ _ _ m14 (by simp)
  have m16 := f_ _ _ m16 (by simp)
  have ha := ha_
  have FR := FR.tr (f_.up (by simp))
  refine aw_aload_n (i := 0) d_Mod_init_108 rfl rfl ?_
  refine aw_bipush (v := nI 6) d_Mod_init_109 (by decide) ?_
  refine aw_newaI (77) (N := 6) d_Mod_init_111 rfl (by omega) (by omega) (by omega) ?_
  refine aw_nn hd ?_
  intro h m17 f_ o_ hd
  have ha := f_ _ _ ha (by simp)
  have m2 := f_ _ _ m2 (by simp)
  have m3 := f_ _ _ m3 (by simp)
  have m5 := f_ _ _ m5 (by simp)
  have m6 := f_ _ _ m6 (by simp)
  have m7 := f_ _ _ m7 (by simp)
  have m8 := f_ _ _ m8 (by simp)
  have m9 := f_ _ _ m9 (by simp)
  have m10 := f_ _ _ m10 (by simp)
  have m11 := f_ _ _ m11 (by simp)
  have m12 := f_ _ _ m12 (by simp)
  have m13 := f_ _ _ m13 (by simp)
  have m14 := f_ _ _ m14 (by simp)
  have m16 := f_ _ _ m16 (by simp)
  have FR := FR.tr (f_.up (fun _ z => absurd z List.not_mem_nil))
  apply aw_putF d_Mod_init_113 pl_Mod_49 rfl; exact ha; exact Nat.le_of_ble_eq_true rfl; exact rfl; exact rfl
  refine aw_nm ha ?_
  intro h ha_ f_ o_
  have hd := dom_o hd ha o_
  have m2 := f_ _ _ m2 (by simp)
  have m3 := f_ _ _ m3 (by simp)
  have m5 := f_ _ _ m5 (by simp)
  have m6 := f_ _ _ m6 (by simp)
  have m7 := f_ _ _ m7 (by simp)
  have m8 := f_ _ _ m8 (by simp)
  have m9 := f_ _ _ m9 (by simp)
  have m10 := f_ _ _ m10 (by simp)
  have m11 := f_ _ _ m11 (by simp)
  have m12 := f_ _ _ m12 (by simp)
  have m13 := f_ _ _ m13 (by simp)
  have m14 := f_ _ _ m14 (by simp)
  have m16 := f_ _ _ m16 (by simp)
  have m17 := f_ _ _ m17 (by simp)
  have ha := ha_
  have FR := FR.tr (f_.up (by simp))
  refine aw_aload_n (i := 0) d_Mod_init_116 rfl rfl ?_
  refine aw_iconst (v := nI 2) d_Mod_init_117 (by decide) ?_
  apply aw_put d_Mod_init_118 pl_Mod_52; exact ha; exact Nat.le_of_ble_eq_true rfl; exact rfl; exact rfl
  refine aw_nm ha ?_
  intro h ha_ f_ o_
  have hd := dom_o hd ha o_
  have m2 := f_ _ _ m2 (by simp)
  have m3 := f_ _ _ m3 (by simp)
  have m5 := f_ _ _ m5 (by simp)
  have m6 := f_ _ _ m6 (by simp)
  have m7 := f_ _ _ m7 (by simp)
  have m8 := f_ _ _ m8 (by simp)
  have m9 := f_ _ _ m9 (by simp)
  have m10 := f_ _ _ m10 (by simp)
  have m11 := f_ _ _ m11 (by simp)
  have m12 := f_ _ _ m12 (by simp)
  have m13 := f_ _ _ m13 (by simp)
  have m14 := f_ _ _ m14 (by simp)
  have m16 := f_ _ _ m16 (by simp)
  have m17 := f_ _ _ m17 (by simp)
  have ha := ha_
  have FR := FR.tr (f_.up (by simp))
  refine aw_aload_n (i := 0) d_Mod_init_121 rfl rfl ?_
  refine aw_bipush (v := nI 12) d_Mod_init_122 (by decide) ?_
  refine aw_newaI (79) (N := 12) d_Mod_init_124 rfl (by omega) (by omega) (by omega) ?_
  refine aw_nn hd ?_
  intro h m19 f_ o_ hd
  have ha := f_ _ _ ha (by simp)
  have m2 := f_ _ _ m2 (by simp)
  have m3 := f_ _ _ m3 (by simp)
  have m5 := f_ _ _ m5 (by simp)
  have m6 := f_ _ _ m6 (by simp)
  have m7 := f_ _ _ m7 (by simp)
  have m8 := f_ _ _ m8 (by simp)
  have m9 := f_ _ _ m9 (by simp)
  have m10 := f_ _ _ m10 (by simp)
  have m11 := f_ _ _ m11 (by simp)
  have m12 := f_ _ _ m12 (by simp)
  have m13 := f_ _ _ m13 (by simp)
  have m14 := f_ _ _ m14 (by simp)
  have m16 := f_ _ _ m16 (by simp)
  have m17 := f_ _ _ m17 (by simp)
  have FR := FR.tr (f_.up (fun _ z => absurd z List.not_mem_nil))
  apply aw_putF d_Mod_init_126 pl_Mod_56 rfl; exact ha; exact Nat.le_of_ble_eq_true rfl; exact rfl; exact rfl
  refine aw_nm ha ?_
  intro h ha_ f_ o_
  have hd := dom_o hd ha o_
  have m2 := f_ _ _ m2 (by simp)
  have m3 := f_ _ _ m3 (by simp)
  have m5 := f_ _ _ m5 (by simp)
  have m6 := f_ _ _ m6 (by simp)
  have m7 := f_ _ _ m7 (by simp)
  have m8 := f_ _ _ m8 (by simp)
  have m9 := f_ _ _ m9 (by simp)
  have m10 := f_ _ _ m10 (by simp)
  have m11 := f_ _ _ m11 (by simp)
  have m12 := f_ _ _ m12 (by simp)
  have m13 := f_ _ _ m13 (by simp)
  have m14 := f_ _ _ m14 (by simp)
  have m16 := f_ _ _ m16 (by simp)
  have m17 := f_ _ _ m17 (by simp)
  have m19 := f_ _ _ m19 (by simp)
  have ha := ha_
  have FR := FR.tr (f_.up (by simp))
  refine aw_aload_n (i := 0) d_Mod_init_129 rfl rfl ?_
  refine aw_bipush (v := nI 12) d_Mod_init_130 (by decide) ?_
  refine aw_newaI (80) (N := 12) d_Mod_init_132 rfl (by omega) (by omega) (by omega) ?_
  refine aw_nn hd ?_
  intro h m20 f_ o_ hd
  have ha := f_ _ _ ha (by simp)
  have m2 := f_ _ _ m2 (by simp)
  have m3 := f_ _ _ m3 (by simp)
  have m5 := f_ _ _ m5 (by simp)
  have m6 := f_ _ _ m6 (by simp)
  have m7 := f_ _ _ m7 (by simp)
  have m8 := f_ _ _ m8 (by simp)
  have m9 := f_ _ _ m9 (by simp)
  have m10 := f_ _ _ m10 (by simp)
  have m11 := f_ _ _ m11 (by simp)
  have m12 := f_ _ _ m12 (by simp)
  have m13 := f_ _ _ m13 (by simp)
  have m14 := f_ _ _ m14 (by simp)
  have m16 := f_ _ _ m16 (by simp)
  have m17 := f_ _ _ m17 (by simp)
  have m19 := f_ _ _ m19 (by simp)
  have FR := FR.tr (f_.up (fun _ z => absurd z List.not_mem_nil))
  apply aw_putF d_Mod_init_134 pl_Mod_59 rfl; exact ha; exact Nat.le_of_ble_eq_true rfl; exact rfl; exact rfl
  refine aw_nm ha ?_
  intro h ha_ f_ o_
  have hd := dom_o hd ha o_
  have m2 := f_ _ _ m2 (by simp)
  have m3 := f_ _ _ m3 (by simp)
  have m5 := f_ _ _ m5 (by simp)
  have m6 := f_ _ _ m6 (by simp)
  have m7 := f_ _ _ m7 (by simp)
  have m8 := f_ _ _ m8 (by simp)
  have m9 := f_ _ _ m9 (by simp)
  have m10 := f_ _ _ m10 (by simp)
  have m11 := f_ _ _ m11 (by simp)
  have m12 := f_ _ _ m12 (by simp)
  have m13 := f_ _ _ m13 (by simp)
  have m14 := f_ _ _ m14 (by simp)
  have m16 := f_ _ _ m16 (by simp)
  have m17 := f_ _ _ m17 (by simp)
  have m19 := f_ _ _ m19 (by simp)
  have m20 := f_ _ _ m20 (by simp)
  have ha := ha_
  have FR := FR.tr (f_.up (by simp))
  refine aw_aload_n (i := 0) d_Mod_init_137 rfl rfl ?_
  refine aw_bipush (v := nI 12) d_Mod_init_138 (by decide) ?_
  refine aw_newaI (81) (N := 12) d_Mod_init_140 rfl (by omega) (by omega) (by omega) ?_
  refine aw_nn hd ?_
  intro h m21 f_ o_ hd
  have ha := f_ _ _ ha (by simp)
  have m2 := f_ _ _ m2 (by simp)
  have m3 := f_ _ _ m3 (by simp)
  have m5 := f_ _ _ m5 (by simp)
  have m6 := f_ _ _ m6 (by simp)
  have m7 := f_ _ _ m7 (by simp)
  have m8 := f_ _ _ m8 (by simp)
  have m9 := f_ _ _ m9 (by simp)
  have m10 := f_ _ _ m10 (by simp)
  have m11 := f_ _ _ m11 (by simp)
  have m12 := f_ _ _ m12 (by simp)
  have m13 := f_ _ _ m13 (by simp)
  have m14 := f_ _ _ m14 (by simp)
  have m16 := f_ _ _ m16 (by simp)
  have m17 := f_ _ _ m17 (by simp)
  have m19 := f_ _ _ m19 (by simp)
  have m20 := f_ _ _ m20 (by simp)
  have FR := FR.tr (f_.up (fun _ z => absurd z List.not_mem_nil))
  apply aw_putF d_Mod_init_142 pl_Mod_62 rfl; exact ha; exact Nat.le_of_ble_eq_true rfl; exact rfl; exact rfl
  refine aw_nm ha ?_
  intro h ha_ f_ o_
  have hd := dom_o hd ha o_
  have m2 := f_ _ _ m2 (by simp)
  have m3 := f_ _ _ m3 (by simp)
  have m5 := f_ _ _ m5 (by simp)
  have m6 := f_ _ _ m6 (by simp)
  have m7 := f_ _ _ m7 (by simp)
  have m8 := f_ _ _ m8 (by simp)
  have m9 := f_ _ _ m9 (by simp)
  have m10 := f_ _ _ m10 (by simp)
  have m11 := f_ _ _ m11 (by simp)
  have m12 := f_ _ _ m12 (by simp)
  have m13 := f_ _ _ m13 (by simp)
  have m14 := f_ _ _ m14 (by simp)
  have m16 := f_ _ _ m16 (by simp)
  have m17 := f_ _ _ m17 (by simp)
  have m19 := f_ _ _ m19 (by simp)
  have m20 := f_ _ _ m20 (by simp)
  have m21 := f_ _ _ m21 (by simp)
  have ha := ha_
  have FR := FR.tr (f_.up (by simp))
  refine aw_aload_n (i := 0) d_Mod_init_145 rfl rfl ?_
  refine aw_bipush (v := nI 12) d_Mod_init_146 (by decide) ?_
  refine aw_newaI (82) (N := 12) d_Mod_init_148 rfl (by omega) (by omega) (by omega) ?_
  refine aw_nn hd ?_
  intro h m22 f_ o_ hd
  have ha := f_ _ _ ha (by simp)
  have m2 := f_ _ _ m2 (by simp)
  have m3 := f_ _ _ m3 (by simp)
  have m5 := f_ _ _ m5 (by simp)
  have m6 := f_ _ _ m6 (by simp)
  have m7 := f_ _ _ m7 (by simp)
  have m8 := f_ _ _ m8 (by simp)
  have m9 := f_ _ _ m9 (by simp)
  have m10 := f_ _ _ m10 (by simp)
  have m11 := f_ _ _ m11 (by simp)
  have m12 := f_ _ _ m12 (by simp)
  have m13 := f_ _ _ m13 (by simp)
  have m14 := f_ _ _ m14 (by simp)
  have m16 := f_ _ _ m16 (by simp)
  have m17 := f_ _ _ m17 (by simp)
  have m19 := f_ _ _ m19 (by simp)
  have m20 := f_ _ _ m20 (by simp)
  have m21 := f_ _ _ m21 (by simp)
  have FR := FR.tr (f_.up (fun _ z => absurd z List.not_mem_nil))
  apply aw_putF d_Mod_init_150 pl_Mod_65 rfl; exact ha; exact Nat.le_of_ble_eq_true rfl; exact rfl; exact rfl
  refine aw_nm ha ?_
  intro h ha_ f_ o_
  have hd := dom_o hd ha o_
  have m2 := f_ _ _ m2 (by simp)
  have m3 := f_ _ _ m3 (by simp)
  have m5 := f_ _ _ m5 (by simp)
  have m6 := f_ _ _ m6 (by simp)
  have m7 := f_ _ _ m7 (by simp)
  have m8 := f_ _ _ m8 (by simp)
  have m9 := f_ _ _ m9 (by simp)
  have m10 := f_ _ _ m10 (by simp)
  have m11 := f_ _ _ m11 (by simp)
  have m12 := f_ _ _ m12 (by simp)
  have m13 := f_ _ _ m13 (by simp)
  have m14 := f_ _ _ m14 (by simp)
  have m16 := f_ _ _ m16 (by simp)
  have m17 := f_ _ _ m17 (by simp)
  have m19 := f_ _ _ m19 (by simp)
  have m20 := f_ _ _ m20 (by simp)
  have m21 := f_ _ _ m21 (by simp)
  have m22 := f_ _ _ m22 (by simp)
  have ha := ha_
  have FR := FR.tr (f_.up (by simp))
  refine aw_aload_n (i := 0) d_Mod_init_153 rfl rfl ?_
  refine aw_iconst (v := nI 1) d_Mod_init_154 (by decide) ?_
  apply aw_put d_Mod_init_155 pl_Mod_68; exact ha; exact Nat.le_of_ble_eq_true rfl; exact rfl; exact rfl
  refine aw_nm ha ?_
  intro h ha_ f_ o_
  have hd := dom_o hd ha o_
  have m2 := f_ _ _ m2 (by simp)
  have m3 := f_ _ _ m3 (by simp)
  have m5 := f_ _ _ m5 (by simp)
  have m6 := f_ _ _ m6 (by simp)
  have m7 := f_ _ _ m7 (by simp)
  have m8 := f_ _ _ m8 (by simp)
  have m9 := f_ _ _ m9 (by simp)
  have m10 := f_ _ _ m10 (by simp)
  have m11 := f_ _ _ m11 (by simp)
  have m12 := f_ _ _ m12 (by simp)
  have m13 := f_ _ _ m13 (by simp)
  have m14 := f_ _ _ m14 (by simp)
  have m16 := f_ _ _ m16 (by simp)
  have m17 := f_ _ _ m17 (by simp)
  have m19 := f_ _ _ m19 (by simp)
  have m20 := f_ _ _ m20 (by simp)
  have m21 := f_ _ _ m21 (by simp)
  have m22 := f_ _ _ m22 (by simp)
  have ha := ha_
  have FR := FR.tr (f_.up (by simp))
  refine aw_aload_n (i := 0) d_Mod_init_158 rfl rfl ?_
  refine aw_bipush (v := nI 12) d_Mod_init_159 (by decide) ?_
  refine aw_newaI (84) (N := 12) d_Mod_init_161 rfl (by omega) (by omega) (by omega) ?_
  refine aw_nn hd ?_
  intro h m24 f_ o_ hd
  have ha := f_ _ _ ha (by simp)
  have m2 := f_ _ _ m2 (by simp)
  have m3 := f_ _ _ m3 (by simp)
  have m5 := f_ _ _ m5 (by simp)
  have m6 := f_ _ _ m6 (by simp)
  have m7 := f_ _ _ m7 (by simp)
  have m8 := f_ _ _ m8 (by simp)
  have m9 := f_ _ _ m9 (by simp)
  have m10 := f_ _ _ m10 (by simp)
  have m11 := f_ _ _ m11 (by simp)
  have m12 := f_ _ _ m12 (by simp)
  have m13 := f_ _ _ m13 (by simp)
  have m14 := f_ _ _ m14 (by simp)
  have m16 := f_ _ _ m16 (by simp)
  have m17 := f_ _ _ m17 (by simp)
  have m19 := f_ _ _ m19 (by simp)
  have m20 := f_ _ _ m20 (by simp)
  have m21 := f_ _ _ m21 (by simp)
  have m22 := f_ _ _ m22 (by simp)
  have FR := FR.tr (f_.up (fun _ z => absurd z List.not_mem_nil))
  apply aw_putF d_Mod_init_163 pl_Mod_72 rfl; exact ha; exact Nat.le_of_ble_eq_true rfl; exact rfl; exact rfl
  refine aw_nm ha ?_
  intro h ha_ f_ o_
  have hd := dom_o hd ha o_
  have m2 := f_ _ _ m2 (by simp)
  have m3 := f_ _ _ m3 (by simp)
  have m5 := f_ _ _ m5 (by simp)
  have m6 := f_ _ _ m6 (by simp)
  have m7 := f_ _ _ m7 (by simp)
  have m8 := f_ _ _ m8 (by simp)
  have m9 := f_ _ _ m9 (by simp)
  have m10 := f_ _ _ m10 (by simp)
  have m11 := f_ _ _ m11 (by simp)
  have m12 := f_ _ _ m12 (by simp)
  have m13 := f_ _ _ m13 (by simp)
  have m14 := f_ _ _ m14 (by simp)
  have m16 := f_ _ _ m16 (by simp)
  have m17 := f_ _ _ m17 (by simp)
  have m19 := f_ _ _ m19 (by simp)
  have m20 := f_ _ _ m20 (by simp)
  have m21 := f_ _ _ m21 (by simp)
  have m22 := f_ _ _ m22 (by simp)
  have m24 := f_ _ _ m24 (by simp)
  have ha := ha_
  have FR := FR.tr (f_.up (by simp))
  refine aw_aload_n (i := 0) d_Mod_init_166 rfl rfl ?_
  refine aw_bipush (v := nI 24) d_Mod_init_167 (by decide) ?_
  refine aw_newaI (85) (N := 24) d_Mod_init_169 rfl (by omega) (by omega) (by omega) ?_
  refine aw_nn hd ?_
  intro h m25 f_ o_ hd
  have ha := f_ _ _ ha (by simp)
  have m2 := f_ _ _ m2 (by simp)
  have m3 := f_ _ _ m3 (by simp)
  have m5 := f_ _ _ m5 (by simp)
  have m6 := f_ _ _ m6 (by simp)
  have m7 := f_ _ _ m7 (by simp)
  have m8 := f_ _ _ m8 (by simp)
  have m9 := f_ _ _ m9 (by simp)
  have m10 := f_ _ _ m10 (by simp)
  have m11 := f_ _ _ m11 (by simp)
  have m12 := f_ _ _ m12 (by simp)
  have m13 := f_ _ _ m13 (by simp)
  have m14 := f_ _ _ m14 (by simp)
  have m16 := f_ _ _ m16 (by simp)
  have m17 := f_ _ _ m17 (by simp)
  have m19 := f_ _ _ m19 (by simp)
  have m20 := f_ _ _ m20 (by simp)
  have m21 := f_ _ _ m21 (by simp)
  have m22 := f_ _ _ m22 (by simp)
  have m24 := f_ _ _ m24 (by simp)
  have FR := FR.tr (f_.up (fun _ z => absurd z List.not_mem_nil))
  apply aw_putF d_Mod_init_171 pl_Mod_75 rfl; exact ha; exact Nat.le_of_ble_eq_true rfl; exact rfl; exact rfl
  refine aw_nm ha ?_
  intro h ha_ f_ o_
  have hd := dom_o hd ha o_
  have m2 := f_ _ _ m2 (by simp)
  have m3 := f_ _ _ m3 (by simp)
  have m5 := f_ _ _ m5 (by simp)
  have m6 := f_ _ _ m6 (by simp)
  have m7 := f_ _ _ m7 (by simp)
  have m8 := f_ _ _ m8 (by simp)
  have m9 := f_ _ _ m9 (by simp)
  have m10 := f_ _ _ m10 (by simp)
  have m11 := f_ _ _ m11 (by simp)
  have m12 := f_ _ _ m12 (by simp)
  have m13 := f_ _ _ m13 (by simp)
  have m14 := f_ _ _ m14 (by simp)
  have m16 := f_ _ _ m16 (by simp)
  have m17 := f_ _ _ m17 (by simp)
  have m19 := f_ _ _ m19 (by simp)
  have m20 := f_ _ _ m20 (by simp)
  have m21 := f_ _ _ m21 (by simp)
  have m22 := f_ _ _ m22 (by simp)
  have m24 := f_ _ _ m24 (by simp)
  have m25 := f_ _ _ m25 (by simp)
  have ha := ha_
  have FR := FR.tr (f_.up (by simp))
  refine aw_aload_n (i := 0) d_Mod_init_174 rfl rfl ?_
  refine aw_ldc (v := nI 480000) d_Mod_init_175 kc_Mod_78 ?_
  refine aw_newaI (88) (N := 480000) d_Mod_init_177 rfl (by omega) (by omega) (by omega) ?_
  refine aw_nn hd ?_
  intro h m28 f_ o_ hd
  have ha := f_ _ _ ha (by simp)
  have m2 := f_ _ _ m2 (by simp)
  have m3 := f_ _ _ m3 (by simp)
  have m5 := f_ _ _ m5 (by simp)
  have m6 := f_ _ _ m6 (by simp)
  have m7 := f_ _ _ m7 (by simp)
  have m8 := f_ _ _ m8 (by simp)
  have m9 := f_ _ _ m9 (by simp)
  have m10 := f_ _ _ m10 (by simp)
  have m11 := f_ _ _ m11 (by simp)
  have m12 := f_ _ _ m12 (by simp)
  have m13 := f_ _ _ m13 (by simp)
  have m14 := f_ _ _ m14 (by simp)
  have m16 := f_ _ _ m16 (by simp)
  have m17 := f_ _ _ m17 (by simp)
  have m19 := f_ _ _ m19 (by simp)
  have m20 := f_ _ _ m20 (by simp)
  have m21 := f_ _ _ m21 (by simp)
  have m22 := f_ _ _ m22 (by simp)
  have m24 := f_ _ _ m24 (by simp)
  have m25 := f_ _ _ m25 (by simp)
  have FR := FR.tr (f_.up (fun _ z => absurd z List.not_mem_nil))
  apply aw_putF d_Mod_init_179 pl_Mod_79 rfl; exact ha; exact Nat.le_of_ble_eq_true rfl; exact rfl; exact rfl
  refine aw_nm ha ?_
  intro h ha_ f_ o_
  have hd := dom_o hd ha o_
  have m2 := f_ _ _ m2 (by simp)
  have m3 := f_ _ _ m3 (by simp)
  have m5 := f_ _ _ m5 (by simp)
  have m6 := f_ _ _ m6 (by simp)
  have m7 := f_ _ _ m7 (by simp)
  have m8 := f_ _ _ m8 (by simp)
  have m9 := f_ _ _ m9 (by simp)
  have m10 := f_ _ _ m10 (by simp)
  have m11 := f_ _ _ m11 (by simp)
  have m12 := f_ _ _ m12 (by simp)
  have m13 := f_ _ _ m13 (by simp)
  have m14 := f_ _ _ m14 (by simp)
  have m16 := f_ _ _ m16 (by simp)
  have m17 := f_ _ _ m17 (by simp)
  have m19 := f_ _ _ m19 (by simp)
  have m20 := f_ _ _ m20 (by simp)
  have m21 := f_ _ _ m21 (by simp)
  have m22 := f_ _ _ m22 (by simp)
  have m24 := f_ _ _ m24 (by simp)
  have m25 := f_ _ _ m25 (by simp)
  have m28 := f_ _ _ m28 (by simp)
  have ha := ha_
  have FR := FR.tr (f_.up (by simp))
  refine aw_aload_n (i := 0) d_Mod_init_182 rfl rfl ?_
  refine aw_sipush (v := nI 20000) d_Mod_init_183 (by decide) ?_
  refine aw_newaZ (89) (N := 20000) d_Mod_init_186 rfl (by omega) (by omega) (by omega) ?_
  refine aw_nn hd ?_
  intro h m29 f_ o_ hd
  have ha := f_ _ _ ha (by simp)
  have m2 := f_ _ _ m2 (by simp)
  have m3 := f_ _ _ m3 (by simp)
  have m5 := f_ _ _ m5 (by simp)
  have m6 := f_ _ _ m6 (by simp)
  have m7 := f_ _ _ m7 (by simp)
  have m8 := f_ _ _ m8 (by simp)
  have m9 := f_ _ _ m9 (by simp)
  have m10 := f_ _ _ m10 (by simp)
  have m11 := f_ _ _ m11 (by simp)
  have m12 := f_ _ _ m12 (by simp)
  have m13 := f_ _ _ m13 (by simp)
  have m14 := f_ _ _ m14 (by simp)
  have m16 := f_ _ _ m16 (by simp)
  have m17 := f_ _ _ m17 (by simp)
  have m19 := f_ _ _ m19 (by simp)
  have m20 := f_ _ _ m20 (by simp)
  have m21 := f_ _ _ m21 (by simp)
  have m22 := f_ _ _ m22 (by simp)
  have m24 := f_ _ _ m24 (by simp)
  have m25 := f_ _ _ m25 (by simp)
  have m28 := f_ _ _ m28 (by simp)
  have FR := FR.tr (f_.up (fun _ z => absurd z List.not_mem_nil))
  apply aw_putF d_Mod_init_188 pl_Mod_82 rfl; exact ha; exact Nat.le_of_ble_eq_true rfl; exact rfl; exact rfl
  refine aw_nm ha ?_
  intro h ha_ f_ o_
  have hd := dom_o hd ha o_
  have m2 := f_ _ _ m2 (by simp)
  have m3 := f_ _ _ m3 (by simp)
  have m5 := f_ _ _ m5 (by simp)
  have m6 := f_ _ _ m6 (by simp)
  have m7 := f_ _ _ m7 (by simp)
  have m8 := f_ _ _ m8 (by simp)
  have m9 := f_ _ _ m9 (by simp)
  have m10 := f_ _ _ m10 (by simp)
  have m11 := f_ _ _ m11 (by simp)
  have m12 := f_ _ _ m12 (by simp)
  have m13 := f_ _ _ m13 (by simp)
  have m14 := f_ _ _ m14 (by simp)
  have m16 := f_ _ _ m16 (by simp)
  have m17 := f_ _ _ m17 (by simp)
  have m19 := f_ _ _ m19 (by simp)
  have m20 := f_ _ _ m20 (by simp)
  have m21 := f_ _ _ m21 (by simp)
  have m22 := f_ _ _ m22 (by simp)
  have m24 := f_ _ _ m24 (by simp)
  have m25 := f_ _ _ m25 (by simp)
  have m28 := f_ _ _ m28 (by simp)
  have m29 := f_ _ _ m29 (by simp)
  have ha := ha_
  have FR := FR.tr (f_.up (by simp))
  refine aw_aload_n (i := 0) d_Mod_init_191 rfl rfl ?_
  refine aw_sipush (v := nI 20000) d_Mod_init_192 (by decide) ?_
  refine aw_newaI (90) (N := 20000) d_Mod_init_195 rfl (by omega) (by omega) (by omega) ?_
  refine aw_nn hd ?_
  intro h m30 f_ o_ hd
  have ha := f_ _ _ ha (by simp)
  have m2 := f_ _ _ m2 (by simp)
  have m3 := f_ _ _ m3 (by simp)
  have m5 := f_ _ _ m5 (by simp)
  have m6 := f_ _ _ m6 (by simp)
  have m7 := f_ _ _ m7 (by simp)
  have m8 := f_ _ _ m8 (by simp)
  have m9 := f_ _ _ m9 (by simp)
  have m10 := f_ _ _ m10 (by simp)
  have m11 := f_ _ _ m11 (by simp)
  have m12 := f_ _ _ m12 (by simp)
  have m13 := f_ _ _ m13 (by simp)
  have m14 := f_ _ _ m14 (by simp)
  have m16 := f_ _ _ m16 (by simp)
  have m17 := f_ _ _ m17 (by simp)
  have m19 := f_ _ _ m19 (by simp)
  have m20 := f_ _ _ m20 (by simp)
  have m21 := f_ _ _ m21 (by simp)
  have m22 := f_ _ _ m22 (by simp)
  have m24 := f_ _ _ m24 (by simp)
  have m25 := f_ _ _ m25 (by simp)
  have m28 := f_ _ _ m28 (by simp)
  have m29 := f_ _ _ m29 (by simp)
  have FR := FR.tr (f_.up (fun _ z => absurd z List.not_mem_nil))
  apply aw_putF d_Mod_init_197 pl_Mod_86 rfl; exact ha; exact Nat.le_of_ble_eq_true rfl; exact rfl; exact rfl
  refine aw_nm ha ?_
  intro h ha_ f_ o_
  have hd := dom_o hd ha o_
  have m2 := f_ _ _ m2 (by simp)
  have m3 := f_ _ _ m3 (by simp)
  have m5 := f_ _ _ m5 (by simp)
  have m6 := f_ _ _ m6 (by simp)
  have m7 := f_ _ _ m7 (by simp)
  have m8 := f_ _ _ m8 (by simp)
  have m9 := f_ _ _ m9 (by simp)
  have m10 := f_ _ _ m10 (by simp)
  have m11 := f_ _ _ m11 (by simp)
  have m12 := f_ _ _ m12 (by simp)
  have m13 := f_ _ _ m13 (by simp)
  have m14 := f_ _ _ m14 (by simp)
  have m16 := f_ _ _ m16 (by simp)
  have m17 := f_ _ _ m17 (by simp)
  have m19 := f_ _ _ m19 (by simp)
  have m20 := f_ _ _ m20 (by simp)
  have m21 := f_ _ _ m21 (by simp)
  have m22 := f_ _ _ m22 (by simp)
  have m24 := f_ _ _ m24 (by simp)
  have m25 := f_ _ _ m25 (by simp)
  have m28 := f_ _ _ m28 (by simp)
  have m29 := f_ _ _ m29 (by simp)
  have m30 := f_ _ _ m30 (by simp)
  have ha := ha_
  have FR := FR.tr (f_.up (by simp))
  refine aw_aload_n (i := 0) d_Mod_init_200 rfl rfl ?_
  refine aw_sipush (v := nI 20000) d_Mod_init_201 (by decide) ?_
  refine aw_newaI (91) (N := 20000) d_Mod_init_204 rfl (by omega) (by omega) (by omega) ?_
  refine aw_nn hd ?_
  intro h m31 f_ o_ hd
  have ha := f_ _ _ ha (by simp)
  have m2 := f_ _ _ m2 (by simp)
  have m3 := f_ _ _ m3 (by simp)
  have m5 := f_ _ _ m5 (by simp)
  have m6 := f_ _ _ m6 (by simp)
  have m7 := f_ _ _ m7 (by simp)
  have m8 := f_ _ _ m8 (by simp)
  have m9 := f_ _ _ m9 (by simp)
  have m10 := f_ _ _ m10 (by simp)
  have m11 := f_ _ _ m11 (by simp)
  have m12 := f_ _ _ m12 (by simp)
  have m13 := f_ _ _ m13 (by simp)
  have m14 := f_ _ _ m14 (by simp)
  have m16 := f_ _ _ m16 (by simp)
  have m17 := f_ _ _ m17 (by simp)
  have m19 := f_ _ _ m19 (by simp)
  have m20 := f_ _ _ m20 (by simp)
  have m21 := f_ _ _ m21 (by simp)
  have m22 := f_ _ _ m22 (by simp)
  have m24 := f_ _ _ m24 (by simp)
  have m25 := f_ _ _ m25 (by simp)
  have m28 := f_ _ _ m28 (by simp)
  have m29 := f_ _ _ m29 (by simp)
  have m30 := f_ _ _ m30 (by simp)
  have FR := FR.tr (f_.up (fun _ z => absurd z List.not_mem_nil))
  apply aw_putF d_Mod_init_206 pl_Mod_89 rfl; exact ha; exact Nat.le_of_ble_eq_true rfl; exact rfl; exact rfl
  refine aw_nm ha ?_
  intro h ha_ f_ o_
  have hd := dom_o hd ha o_
  have m2 := f_ _ _ m2 (by simp)
  have m3 := f_ _ _ m3 (by simp)
  have m5 := f_ _ _ m5 (by simp)
  have m6 := f_ _ _ m6 (by simp)
  have m7 := f_ _ _ m7 (by simp)
  have m8 := f_ _ _ m8 (by simp)
  have m9 := f_ _ _ m9 (by simp)
  have m10 := f_ _ _ m10 (by simp)
  have m11 := f_ _ _ m11 (by simp)
  have m12 := f_ _ _ m12 (by simp)
  have m13 := f_ _ _ m13 (by simp)
  have m14 := f_ _ _ m14 (by simp)
  have m16 := f_ _ _ m16 (by simp)
  have m17 := f_ _ _ m17 (by simp)
  have m19 := f_ _ _ m19 (by simp)
  have m20 := f_ _ _ m20 (by simp)
  have m21 := f_ _ _ m21 (by simp)
  have m22 := f_ _ _ m22 (by simp)
  have m24 := f_ _ _ m24 (by simp)
  have m25 := f_ _ _ m25 (by simp)
  have m28 := f_ _ _ m28 (by simp)
  have m29 := f_ _ _ m29 (by simp)
  have m30 := f_ _ _ m30 (by simp)
  have m31 := f_ _ _ m31 (by simp)
  have ha := ha_
  have FR := FR.tr (f_.up (by simp))
  refine aw_aload_n (i := 0) d_Mod_init_209 rfl rfl ?_
  refine aw_sipush (v := nI 20001) d_Mod_init_210 (by decide) ?_
  refine aw_newaI (92) (N := 20001) d_Mod_init_213 rfl (by omega) (by omega) (by omega) ?_
  refine aw_nn hd ?_
  intro h m32 f_ o_ hd
  have ha := f_ _ _ ha (by simp)
  have m2 := f_ _ _ m2 (by simp)
  have m3 := f_ _ _ m3 (by simp)
  have m5 := f_ _ _ m5 (by simp)
  have m6 := f_ _ _ m6 (by simp)
  have m7 := f_ _ _ m7 (by simp)
  have m8 := f_ _ _ m8 (by simp)
  have m9 := f_ _ _ m9 (by simp)
  have m10 := f_ _ _ m10 (by simp)
  have m11 := f_ _ _ m11 (by simp)
  have m12 := f_ _ _ m12 (by simp)
  have m13 := f_ _ _ m13 (by simp)
  have m14 := f_ _ _ m14 (by simp)
  have m16 := f_ _ _ m16 (by simp)
  have m17 := f_ _ _ m17 (by simp)
  have m19 := f_ _ _ m19 (by simp)
  have m20 := f_ _ _ m20 (by simp)
  have m21 := f_ _ _ m21 (by simp)
  have m22 := f_ _ _ m22 (by simp)
  have m24 := f_ _ _ m24 (by simp)
  have m25 := f_ _ _ m25 (by simp)
  have m28 := f_ _ _ m28 (by simp)
  have m29 := f_ _ _ m29 (by simp)
  have m30 := f_ _ _ m30 (by simp)
  have m31 := f_ _ _ m31 (by simp)
  have FR := FR.tr (f_.up (fun _ z => absurd z List.not_mem_nil))
  apply aw_putF d_Mod_init_215 pl_Mod_92 rfl; exact ha; exact Nat.le_of_ble_eq_true rfl; exact rfl; exact rfl
  refine aw_nm ha ?_
  intro h ha_ f_ o_
  have hd := dom_o hd ha o_
  have m2 := f_ _ _ m2 (by simp)
  have m3 := f_ _ _ m3 (by simp)
  have m5 := f_ _ _ m5 (by simp)
  have m6 := f_ _ _ m6 (by simp)
  have m7 := f_ _ _ m7 (by simp)
  have m8 := f_ _ _ m8 (by simp)
  have m9 := f_ _ _ m9 (by simp)
  have m10 := f_ _ _ m10 (by simp)
  have m11 := f_ _ _ m11 (by simp)
  have m12 := f_ _ _ m12 (by simp)
  have m13 := f_ _ _ m13 (by simp)
  have m14 := f_ _ _ m14 (by simp)
  have m16 := f_ _ _ m16 (by simp)
  have m17 := f_ _ _ m17 (by simp)
  have m19 := f_ _ _ m19 (by simp)
  have m20 := f_ _ _ m20 (by simp)
  have m21 := f_ _ _ m21 (by simp)
  have m22 := f_ _ _ m22 (by simp)
  have m24 := f_ _ _ m24 (by simp)
  have m25 := f_ _ _ m25 (by simp)
  have m28 := f_ _ _ m28 (by simp)
  have m29 := f_ _ _ m29 (by simp)
  have m30 := f_ _ _ m30 (by simp)
  have m31 := f_ _ _ m31 (by simp)
  have m32 := f_ _ _ m32 (by simp)
  have ha := ha_
  have FR := FR.tr (f_.up (by simp))
  refine aw_aload_n (i := 0) d_Mod_init_218 rfl rfl ?_
  refine aw_ldc (v := nI 480000) d_Mod_init_219 kc_Mod_78 ?_
  refine aw_newaI (93) (N := 480000) d_Mod_init_221 rfl (by omega) (by omega) (by omega) ?_
  refine aw_nn hd ?_
  intro h m33 f_ o_ hd
  have ha := f_ _ _ ha (by simp)
  have m2 := f_ _ _ m2 (by simp)
  have m3 := f_ _ _ m3 (by simp)
  have m5 := f_ _ _ m5 (by simp)
  have m6 := f_ _ _ m6 (by simp)
  have m7 := f_ _ _ m7 (by simp)
  have m8 := f_ _ _ m8 (by simp)
  have m9 := f_ _ _ m9 (by simp)
  have m10 := f_ _ _ m10 (by simp)
  have m11 := f_ _ _ m11 (by simp)
  have m12 := f_ _ _ m12 (by simp)
  have m13 := f_ _ _ m13 (by simp)
  have m14 := f_ _ _ m14 (by simp)
  have m16 := f_ _ _ m16 (by simp)
  have m17 := f_ _ _ m17 (by simp)
  have m19 := f_ _ _ m19 (by simp)
  have m20 := f_ _ _ m20 (by simp)
  have m21 := f_ _ _ m21 (by simp)
  have m22 := f_ _ _ m22 (by simp)
  have m24 := f_ _ _ m24 (by simp)
  have m25 := f_ _ _ m25 (by simp)
  have m28 := f_ _ _ m28 (by simp)
  have m29 := f_ _ _ m29 (by simp)
  have m30 := f_ _ _ m30 (by simp)
  have m31 := f_ _ _ m31 (by simp)
  have m32 := f_ _ _ m32 (by simp)
  have FR := FR.tr (f_.up (fun _ z => absurd z List.not_mem_nil))
  apply aw_putF d_Mod_init_223 pl_Mod_95 rfl; exact ha; exact Nat.le_of_ble_eq_true rfl; exact rfl; exact rfl
  refine aw_nm ha ?_
  intro h ha_ f_ o_
  have hd := dom_o hd ha o_
  have m2 := f_ _ _ m2 (by simp)
  have m3 := f_ _ _ m3 (by simp)
  have m5 := f_ _ _ m5 (by simp)
  have m6 := f_ _ _ m6 (by simp)
  have m7 := f_ _ _ m7 (by simp)
  have m8 := f_ _ _ m8 (by simp)
  have m9 := f_ _ _ m9 (by simp)
  have m10 := f_ _ _ m10 (by simp)
  have m11 := f_ _ _ m11 (by simp)
  have m12 := f_ _ _ m12 (by simp)
  have m13 := f_ _ _ m13 (by simp)
  have m14 := f_ _ _ m14 (by simp)
  have m16 := f_ _ _ m16 (by simp)
  have m17 := f_ _ _ m17 (by simp)
  have m19 := f_ _ _ m19 (by simp)
  have m20 := f_ _ _ m20 (by simp)
  have m21 := f_ _ _ m21 (by simp)
  have m22 := f_ _ _ m22 (by simp)
  have m24 := f_ _ _ m24 (by simp)
  have m25 := f_ _ _ m25 (by simp)
  have m28 := f_ _ _ m28 (by simp)
  have m29 := f_ _ _ m29 (by simp)
  have m30 := f_ _ _ m30 (by simp)
  have m31 := f_ _ _ m31 (by simp)
  have m32 := f_ _ _ m32 (by simp)
  have m33 := f_ _ _ m33 (by simp)
  have ha := ha_
  have FR := FR.tr (f_.up (by simp))
  refine aw_aload_n (i := 0) d_Mod_init_226 rfl rfl ?_
  refine aw_ldc (v := nI 480000) d_Mod_init_227 kc_Mod_78 ?_
  refine aw_newaB (94) (N := 480000) d_Mod_init_229 rfl (by omega) (by omega) (by omega) ?_
  refine aw_nn hd ?_
  intro h m34 f_ o_ hd
  have ha := f_ _ _ ha (by simp)
  have m2 := f_ _ _ m2 (by simp)
  have m3 := f_ _ _ m3 (by simp)
  have m5 := f_ _ _ m5 (by simp)
  have m6 := f_ _ _ m6 (by simp)
  have m7 := f_ _ _ m7 (by simp)
  have m8 := f_ _ _ m8 (by simp)
  have m9 := f_ _ _ m9 (by simp)
  have m10 := f_ _ _ m10 (by simp)
  have m11 := f_ _ _ m11 (by simp)
  have m12 := f_ _ _ m12 (by simp)
  have m13 := f_ _ _ m13 (by simp)
  have m14 := f_ _ _ m14 (by simp)
  have m16 := f_ _ _ m16 (by simp)
  have m17 := f_ _ _ m17 (by simp)
  have m19 := f_ _ _ m19 (by simp)
  have m20 := f_ _ _ m20 (by simp)
  have m21 := f_ _ _ m21 (by simp)
  have m22 := f_ _ _ m22 (by simp)
  have m24 := f_ _ _ m24 (by simp)
  have m25 := f_ _ _ m25 (by simp)
  have m28 := f_ _ _ m28 (by simp)
  have m29 := f_ _ _ m29 (by simp)
  have m30 := f_ _ _ m30 (by simp)
  have m31 := f_ _ _ m31 (by simp)
  have m32 := f_ _ _ m32 (by simp)
  have m33 := f_ _ _ m33 (by simp)
  have FR := FR.tr (f_.up (fun _ z => absurd z List.not_mem_nil))
  apply aw_putF d_Mod_init_231 pl_Mod_98 rfl; exact ha; exact Nat.le_of_ble_eq_true rfl; exact rfl; exact rfl
  refine aw_nm ha ?_
  intro h ha_ f_ o_
  have hd := dom_o hd ha o_
  have m2 := f_ _ _ m2 (by simp)
  have m3 := f_ _ _ m3 (by simp)
  have m5 := f_ _ _ m5 (by simp)
  have m6 := f_ _ _ m6 (by simp)
  have m7 := f_ _ _ m7 (by simp)
  have m8 := f_ _ _ m8 (by simp)
  have m9 := f_ _ _ m9 (by simp)
  have m10 := f_ _ _ m10 (by simp)
  have m11 := f_ _ _ m11 (by simp)
  have m12 := f_ _ _ m12 (by simp)
  have m13 := f_ _ _ m13 (by simp)
  have m14 := f_ _ _ m14 (by simp)
  have m16 := f_ _ _ m16 (by simp)
  have m17 := f_ _ _ m17 (by simp)
  have m19 := f_ _ _ m19 (by simp)
  have m20 := f_ _ _ m20 (by simp)
  have m21 := f_ _ _ m21 (by simp)
  have m22 := f_ _ _ m22 (by simp)
  have m24 := f_ _ _ m24 (by simp)
  have m25 := f_ _ _ m25 (by simp)
  have m28 := f_ _ _ m28 (by simp)
  have m29 := f_ _ _ m29 (by simp)
  have m30 := f_ _ _ m30 (by simp)
  have m31 := f_ _ _ m31 (by simp)
  have m32 := f_ _ _ m32 (by simp)
  have m33 := f_ _ _ m33 (by simp)
  have m34 := f_ _ _ m34 (by simp)
  have ha := ha_
  have FR := FR.tr (f_.up (by simp))
  refine aw_aload_n (i := 0) d_Mod_init_234 rfl rfl ?_
  refine aw_sipush (v := nI 20000) d_Mod_init_235 (by decide) ?_
  refine aw_newaI (95) (N := 20000) d_Mod_init_238 rfl (by omega) (by omega) (by omega) ?_
  refine aw_nn hd ?_
  intro h m35 f_ o_ hd
  have ha := f_ _ _ ha (by simp)
  have m2 := f_ _ _ m2 (by simp)
  have m3 := f_ _ _ m3 (by simp)
  have m5 := f_ _ _ m5 (by simp)
  have m6 := f_ _ _ m6 (by simp)
  have m7 := f_ _ _ m7 (by simp)
  have m8 := f_ _ _ m8 (by simp)
  have m9 := f_ _ _ m9 (by simp)
  have m10 := f_ _ _ m10 (by simp)
  have m11 := f_ _ _ m11 (by simp)
  have m12 := f_ _ _ m12 (by simp)
  have m13 := f_ _ _ m13 (by simp)
  have m14 := f_ _ _ m14 (by simp)
  have m16 := f_ _ _ m16 (by simp)
  have m17 := f_ _ _ m17 (by simp)
  have m19 := f_ _ _ m19 (by simp)
  have m20 := f_ _ _ m20 (by simp)
  have m21 := f_ _ _ m21 (by simp)
  have m22 := f_ _ _ m22 (by simp)
  have m24 := f_ _ _ m24 (by simp)
  have m25 := f_ _ _ m25 (by simp)
  have m28 := f_ _ _ m28 (by simp)
  have m29 := f_ _ _ m29 (by simp)
  have m30 := f_ _ _ m30 (by simp)
  have m31 := f_ _ _ m31 (by simp)
  have m32 := f_ _ _ m32 (by simp)
  have m33 := f_ _ _ m33 (by simp)
  have m34 := f_ _ _ m34 (by simp)
  have FR := FR.tr (f_.up (fun _ z => absurd z List.not_mem_nil))
  apply aw_putF d_Mod_init_240 pl_Mod_102 rfl; exact ha; exact Nat.le_of_ble_eq_true rfl; exact rfl; exact rfl
  refine aw_nm ha ?_
  intro h ha_ f_ o_
  have hd := dom_o hd ha o_
  have m2 := f_ _ _ m2 (by simp)
  have m3 := f_ _ _ m3 (by simp)
  have m5 := f_ _ _ m5 (by simp)
  have m6 := f_ _ _ m6 (by simp)
  have m7 := f_ _ _ m7 (by simp)
  have m8 := f_ _ _ m8 (by simp)
  have m9 := f_ _ _ m9 (by simp)
  have m10 := f_ _ _ m10 (by simp)
  have m11 := f_ _ _ m11 (by simp)
  have m12 := f_ _ _ m12 (by simp)
  have m13 := f_ _ _ m13 (by simp)
  have m14 := f_ _ _ m14 (by simp)
  have m16 := f_ _ _ m16 (by simp)
  have m17 := f_ _ _ m17 (by simp)
  have m19 := f_ _ _ m19 (by simp)
  have m20 := f_ _ _ m20 (by simp)
  have m21 := f_ _ _ m21 (by simp)
  have m22 := f_ _ _ m22 (by simp)
  have m24 := f_ _ _ m24 (by simp)
  have m25 := f_ _ _ m25 (by simp)
  have m28 := f_ _ _ m28 (by simp)
  have m29 := f_ _ _ m29 (by simp)
  have m30 := f_ _ _ m30 (by simp)
  have m31 := f_ _ _ m31 (by simp)
  have m32 := f_ _ _ m32 (by simp)
  have m33 := f_ _ _ m33 (by simp)
  have m34 := f_ _ _ m34 (by simp)
  have m35 := f_ _ _ m35 (by simp)
  have ha := ha_
  have FR := FR.tr (f_.up (by simp))
  refine aw_aload_n (i := 0) d_Mod_init_243 rfl rfl ?_
  refine aw_sipush (v := nI 20000) d_Mod_init_244 (by decide) ?_
  refine aw_newaI (96) (N := 20000) d_Mod_init_247 rfl (by omega) (by omega) (by omega) ?_
  refine aw_nn hd ?_
  intro h m36 f_ o_ hd
  have ha := f_ _ _ ha (by simp)
  have m2 := f_ _ _ m2 (by simp)
  have m3 := f_ _ _ m3 (by simp)
  have m5 := f_ _ _ m5 (by simp)
  have m6 := f_ _ _ m6 (by simp)
  have m7 := f_ _ _ m7 (by simp)
  have m8 := f_ _ _ m8 (by simp)
  have m9 := f_ _ _ m9 (by simp)
  have m10 := f_ _ _ m10 (by simp)
  have m11 := f_ _ _ m11 (by simp)
  have m12 := f_ _ _ m12 (by simp)
  have m13 := f_ _ _ m13 (by simp)
  have m14 := f_ _ _ m14 (by simp)
  have m16 := f_ _ _ m16 (by simp)
  have m17 := f_ _ _ m17 (by simp)
  have m19 := f_ _ _ m19 (by simp)
  have m20 := f_ _ _ m20 (by simp)
  have m21 := f_ _ _ m21 (by simp)
  have m22 := f_ _ _ m22 (by simp)
  have m24 := f_ _ _ m24 (by simp)
  have m25 := f_ _ _ m25 (by simp)
  have m28 := f_ _ _ m28 (by simp)
  have m29 := f_ _ _ m29 (by simp)
  have m30 := f_ _ _ m30 (by simp)
  have m31 := f_ _ _ m31 (by simp)
  have m32 := f_ _ _ m32 (by simp)
  have m33 := f_ _ _ m33 (by simp)
  have m34 := f_ _ _ m34 (by simp)
  have m35 := f_ _ _ m35 (by simp)
  have FR := FR.tr (f_.up (fun _ z => absurd z List.not_mem_nil))
  apply aw_putF d_Mod_init_249 pl_Mod_105 rfl; exact ha; exact Nat.le_of_ble_eq_true rfl; exact rfl; exact rfl
  refine aw_nm ha ?_
  intro h ha_ f_ o_
  have hd := dom_o hd ha o_
  have m2 := f_ _ _ m2 (by simp)
  have m3 := f_ _ _ m3 (by simp)
  have m5 := f_ _ _ m5 (by simp)
  have m6 := f_ _ _ m6 (by simp)
  have m7 := f_ _ _ m7 (by simp)
  have m8 := f_ _ _ m8 (by simp)
  have m9 := f_ _ _ m9 (by simp)
  have m10 := f_ _ _ m10 (by simp)
  have m11 := f_ _ _ m11 (by simp)
  have m12 := f_ _ _ m12 (by simp)
  have m13 := f_ _ _ m13 (by simp)
  have m14 := f_ _ _ m14 (by simp)
  have m16 := f_ _ _ m16 (by simp)
  have m17 := f_ _ _ m17 (by simp)
  have m19 := f_ _ _ m19 (by simp)
  have m20 := f_ _ _ m20 (by simp)
  have m21 := f_ _ _ m21 (by simp)
  have m22 := f_ _ _ m22 (by simp)
  have m24 := f_ _ _ m24 (by simp)
  have m25 := f_ _ _ m25 (by simp)
  have m28 := f_ _ _ m28 (by simp)
  have m29 := f_ _ _ m29 (by simp)
  have m30 := f_ _ _ m30 (by simp)
  have m31 := f_ _ _ m31 (by simp)
  have m32 := f_ _ _ m32 (by simp)
  have m33 := f_ _ _ m33 (by simp)
  have m34 := f_ _ _ m34 (by simp)
  have m35 := f_ _ _ m35 (by simp)
  have m36 := f_ _ _ m36 (by simp)
  have ha := ha_
  have FR := FR.tr (f_.up (by simp))
  refine aw_aload_n (i := 0) d_Mod_init_252 rfl rfl ?_
  refine aw_sipush (v := nI 20004) d_Mod_init_253 (by decide) ?_
  refine aw_newaI (98) (N := 20004) d_Mod_init_256 rfl (by omega) (by omega) (by omega) ?_
  refine aw_nn hd ?_
  intro h m38 f_ o_ hd
  have ha := f_ _ _ ha (by simp)
  have m2 := f_ _ _ m2 (by simp)
  have m3 := f_ _ _ m3 (by simp)
  have m5 := f_ _ _ m5 (by simp)
  have m6 := f_ _ _ m6 (by simp)
  have m7 := f_ _ _ m7 (by simp)
  have m8 := f_ _ _ m8 (by simp)
  have m9 := f_ _ _ m9 (by simp)
  have m10 := f_ _ _ m10 (by simp)
  have m11 := f_ _ _ m11 (by simp)
  have m12 := f_ _ _ m12 (by simp)
  have m13 := f_ _ _ m13 (by simp)
  have m14 := f_ _ _ m14 (by simp)
  have m16 := f_ _ _ m16 (by simp)
  have m17 := f_ _ _ m17 (by simp)
  have m19 := f_ _ _ m19 (by simp)
  have m20 := f_ _ _ m20 (by simp)
  have m21 := f_ _ _ m21 (by simp)
  have m22 := f_ _ _ m22 (by simp)
  have m24 := f_ _ _ m24 (by simp)
  have m25 := f_ _ _ m25 (by simp)
  have m28 := f_ _ _ m28 (by simp)
  have m29 := f_ _ _ m29 (by simp)
  have m30 := f_ _ _ m30 (by simp)
  have m31 := f_ _ _ m31 (by simp)
  have m32 := f_ _ _ m32 (by simp)
  have m33 := f_ _ _ m33 (by simp)
  have m34 := f_ _ _ m34 (by simp)
  have m35 := f_ _ _ m35 (by simp)
  have m36 := f_ _ _ m36 (by simp)
  have FR := FR.tr (f_.up (fun _ z => absurd z List.not_mem_nil))
  apply aw_putF d_Mod_init_258 pl_Mod_108 rfl; exact ha; exact Nat.le_of_ble_eq_true rfl; exact rfl; exact rfl
  refine aw_nm ha ?_
  intro h ha_ f_ o_
  have hd := dom_o hd ha o_
  have m2 := f_ _ _ m2 (by simp)
  have m3 := f_ _ _ m3 (by simp)
  have m5 := f_ _ _ m5 (by simp)
  have m6 := f_ _ _ m6 (by simp)
  have m7 := f_ _ _ m7 (by simp)
  have m8 := f_ _ _ m8 (by simp)
  have m9 := f_ _ _ m9 (by simp)
  have m10 := f_ _ _ m10 (by simp)
  have m11 := f_ _ _ m11 (by simp)
  have m12 := f_ _ _ m12 (by simp)
  have m13 := f_ _ _ m13 (by simp)
  have m14 := f_ _ _ m14 (by simp)
  have m16 := f_ _ _ m16 (by simp)
  have m17 := f_ _ _ m17 (by simp)
  have m19 := f_ _ _ m19 (by simp)
  have m20 := f_ _ _ m20 (by simp)
  have m21 := f_ _ _ m21 (by simp)
  have m22 := f_ _ _ m22 (by simp)
  have m24 := f_ _ _ m24 (by simp)
  have m25 := f_ _ _ m25 (by simp)
  have m28 := f_ _ _ m28 (by simp)
  have m29 := f_ _ _ m29 (by simp)
  have m30 := f_ _ _ m30 (by simp)
  have m31 := f_ _ _ m31 (by simp)
  have m32 := f_ _ _ m32 (by simp)
  have m33 := f_ _ _ m33 (by simp)
  have m34 := f_ _ _ m34 (by simp)
  have m35 := f_ _ _ m35 (by simp)
  have m36 := f_ _ _ m36 (by simp)
  have m38 := f_ _ _ m38 (by simp)
  have ha := ha_
  have FR := FR.tr (f_.up (by simp))
  refine aw_aload_n (i := 0) d_Mod_init_261 rfl rfl ?_
  refine aw_sipush (v := nI 20000) d_Mod_init_262 (by decide) ?_
  refine aw_newaI (100) (N := 20000) d_Mod_init_265 rfl (by omega) (by omega) (by omega) ?_
  refine aw_nn hd ?_
  intro h m40 f_ o_ hd
  have ha := f_ _ _ ha (by simp)
  have m2 := f_ _ _ m2 (by simp)
  have m3 := f_ _ _ m3 (by simp)
  have m5 := f_ _ _ m5 (by simp)
  have m6 := f_ _ _ m6 (by simp)
  have m7 := f_ _ _ m7 (by simp)
  have m8 := f_ _ _ m8 (by simp)
  have m9 := f_ _ _ m9 (by simp)
  have m10 := f_ _ _ m10 (by simp)
  have m11 := f_ _ _ m11 (by simp)
  have m12 := f_ _ _ m12 (by simp)
  have m13 := f_ _ _ m13 (by simp)
  have m14 := f_ _ _ m14 (by simp)
  have m16 := f_ _ _ m16 (by simp)
  have m17 := f_ _ _ m17 (by simp)
  have m19 := f_ _ _ m19 (by simp)
  have m20 := f_ _ _ m20 (by simp)
  have m21 := f_ _ _ m21 (by simp)
  have m22 := f_ _ _ m22 (by simp)
  have m24 := f_ _ _ m24 (by simp)
  have m25 := f_ _ _ m25 (by simp)
  have m28 := f_ _ _ m28 (by simp)
  have m29 := f_ _ _ m29 (by simp)
  have m30 := f_ _ _ m30 (by simp)
  have m31 := f_ _ _ m31 (by simp)
  have m32 := f_ _ _ m32 (by simp)
  have m33 := f_ _ _ m33 (by simp)
  have m34 := f_ _ _ m34 (by simp)
  have m35 := f_ _ _ m35 (by simp)
  have m36 := f_ _ _ m36 (by simp)
  have m38 := f_ _ _ m38 (by simp)
  have FR := FR.tr (f_.up (fun _ z => absurd z List.not_mem_nil))
  apply aw_putF d_Mod_init_267 pl_Mod_111 rfl; exact ha; exact Nat.le_of_ble_eq_true rfl; exact rfl; exact rfl
  refine aw_nm ha ?_
  intro h ha_ f_ o_
  have hd := dom_o hd ha o_
  have m2 := f_ _ _ m2 (by simp)
  have m3 := f_ _ _ m3 (by simp)
  have m5 := f_ _ _ m5 (by simp)
  have m6 := f_ _ _ m6 (by simp)
  have m7 := f_ _ _ m7 (by simp)
  have m8 := f_ _ _ m8 (by simp)
  have m9 := f_ _ _ m9 (by simp)
  have m10 := f_ _ _ m10 (by simp)
  have m11 := f_ _ _ m11 (by simp)
  have m12 := f_ _ _ m12 (by simp)
  have m13 := f_ _ _ m13 (by simp)
  have m14 := f_ _ _ m14 (by simp)
  have m16 := f_ _ _ m16 (by simp)
  have m17 := f_ _ _ m17 (by simp)
  have m19 := f_ _ _ m19 (by simp)
  have m20 := f_ _ _ m20 (by simp)
  have m21 := f_ _ _ m21 (by simp)
  have m22 := f_ _ _ m22 (by simp)
  have m24 := f_ _ _ m24 (by simp)
  have m25 := f_ _ _ m25 (by simp)
  have m28 := f_ _ _ m28 (by simp)
  have m29 := f_ _ _ m29 (by simp)
  have m30 := f_ _ _ m30 (by simp)
  have m31 := f_ _ _ m31 (by simp)
  have m32 := f_ _ _ m32 (by simp)
  have m33 := f_ _ _ m33 (by simp)
  have m34 := f_ _ _ m34 (by simp)
  have m35 := f_ _ _ m35 (by simp)
  have m36 := f_ _ _ m36 (by simp)
  have m38 := f_ _ _ m38 (by simp)
  have m40 := f_ _ _ m40 (by simp)
  have ha := ha_
  have FR := FR.tr (f_.up (by simp))
  refine aw_aload_n (i := 0) d_Mod_init_270 rfl rfl ?_
  refine aw_sipush (v := nI 20000) d_Mod_init_271 (by decide) ?_
  refine aw_newaI (101) (N := 20000) d_Mod_init_274 rfl (by omega) (by omega) (by omega) ?_
  refine aw_nn hd ?_
  intro h m41 f_ o_ hd
  have ha := f_ _ _ ha (by simp)
  have m2 := f_ _ _ m2 (by simp)
  have m3 := f_ _ _ m3 (by simp)
  have m5 := f_ _ _ m5 (by simp)
  have m6 := f_ _ _ m6 (by simp)
  have m7 := f_ _ _ m7 (by simp)
  have m8 := f_ _ _ m8 (by simp)
  have m9 := f_ _ _ m9 (by simp)
  have m10 := f_ _ _ m10 (by simp)
  have m11 := f_ _ _ m11 (by simp)
  have m12 := f_ _ _ m12 (by simp)
  have m13 := f_ _ _ m13 (by simp)
  have m14 := f_ _ _ m14 (by simp)
  have m16 := f_ _ _ m16 (by simp)
  have m17 := f_ _ _ m17 (by simp)
  have m19 := f_ _ _ m19 (by simp)
  have m20 := f_ _ _ m20 (by simp)
  have m21 := f_ _ _ m21 (by simp)
  have m22 := f_ _ _ m22 (by simp)
  have m24 := f_ _ _ m24 (by simp)
  have m25 := f_ _ _ m25 (by simp)
  have m28 := f_ _ _ m28 (by simp)
  have m29 := f_ _ _ m29 (by simp)
  have m30 := f_ _ _ m30 (by simp)
  have m31 := f_ _ _ m31 (by simp)
  have m32 := f_ _ _ m32 (by simp)
  have m33 := f_ _ _ m33 (by simp)
  have m34 := f_ _ _ m34 (by simp)
  have m35 := f_ _ _ m35 (by simp)
  have m36 := f_ _ _ m36 (by simp)
  have m38 := f_ _ _ m38 (by simp)
  have m40 := f_ _ _ m40 (by simp)
  have FR := FR.tr (f_.up (fun _ z => absurd z List.not_mem_nil))
  apply aw_putF d_Mod_init_276 pl_Mod_114 rfl; exact ha; exact Nat.le_of_ble_eq_true rfl; exact rfl; exact rfl
  refine aw_nm ha ?_
  intro h ha_ f_ o_
  have hd := dom_o hd ha o_
  have m2 := f_ _ _ m2 (by simp)
  have m3 := f_ _ _ m3 (by simp)
  have m5 := f_ _ _ m5 (by simp)
  have m6 := f_ _ _ m6 (by simp)
  have m7 := f_ _ _ m7 (by simp)
  have m8 := f_ _ _ m8 (by simp)
  have m9 := f_ _ _ m9 (by simp)
  have m10 := f_ _ _ m10 (by simp)
  have m11 := f_ _ _ m11 (by simp)
  have m12 := f_ _ _ m12 (by simp)
  have m13 := f_ _ _ m13 (by simp)
  have m14 := f_ _ _ m14 (by simp)
  have m16 := f_ _ _ m16 (by simp)
  have m17 := f_ _ _ m17 (by simp)
  have m19 := f_ _ _ m19 (by simp)
  have m20 := f_ _ _ m20 (by simp)
  have m21 := f_ _ _ m21 (by simp)
  have m22 := f_ _ _ m22 (by simp)
  have m24 := f_ _ _ m24 (by simp)
  have m25 := f_ _ _ m25 (by simp)
  have m28 := f_ _ _ m28 (by simp)
  have m29 := f_ _ _ m29 (by simp)
  have m30 := f_ _ _ m30 (by simp)
  have m31 := f_ _ _ m31 (by simp)
  have m32 := f_ _ _ m32 (by simp)
  have m33 := f_ _ _ m33 (by simp)
  have m34 := f_ _ _ m34 (by simp)
  have m35 := f_ _ _ m35 (by simp)
  have m36 := f_ _ _ m36 (by simp)
  have m38 := f_ _ _ m38 (by simp)
  have m40 := f_ _ _ m40 (by simp)
  have m41 := f_ _ _ m41 (by simp)
  have ha := ha_
  have FR := FR.tr (f_.up (by simp))
  refine aw_aload_n (i := 0) d_Mod_init_279 rfl rfl ?_
  refine aw_sipush (v := nI 20000) d_Mod_init_280 (by decide) ?_
  refine aw_newaZ (102) (N := 20000) d_Mod_init_283 rfl (by omega) (by omega) (by omega) ?_
  refine aw_nn hd ?_
  intro h m42 f_ o_ hd
  have ha := f_ _ _ ha (by simp)
  have m2 := f_ _ _ m2 (by simp)
  have m3 := f_ _ _ m3 (by simp)
  have m5 := f_ _ _ m5 (by simp)
  have m6 := f_ _ _ m6 (by simp)
  have m7 := f_ _ _ m7 (by simp)
  have m8 := f_ _ _ m8 (by simp)
  have m9 := f_ _ _ m9 (by simp)
  have m10 := f_ _ _ m10 (by simp)
  have m11 := f_ _ _ m11 (by simp)
  have m12 := f_ _ _ m12 (by simp)
  have m13 := f_ _ _ m13 (by simp)
  have m14 := f_ _ _ m14 (by simp)
  have m16 := f_ _ _ m16 (by simp)
  have m17 := f_ _ _ m17 (by simp)
  have m19 := f_ _ _ m19 (by simp)
  have m20 := f_ _ _ m20 (by simp)
  have m21 := f_ _ _ m21 (by simp)
  have m22 := f_ _ _ m22 (by simp)
  have m24 := f_ _ _ m24 (by simp)
  have m25 := f_ _ _ m25 (by simp)
  have m28 := f_ _ _ m28 (by simp)
  have m29 := f_ _ _ m29 (by simp)
  have m30 := f_ _ _ m30 (by simp)
  have m31 := f_ _ _ m31 (by simp)
  have m32 := f_ _ _ m32 (by simp)
  have m33 := f_ _ _ m33 (by simp)
  have m34 := f_ _ _ m34 (by simp)
  have m35 := f_ _ _ m35 (by simp)
  have m36 := f_ _ _ m36 (by simp)
  have m38 := f_ _ _ m38 (by simp)
  have m40 := f_ _ _ m40 (by simp)
  have m41 := f_ _ _ m41 (by simp)
  have FR := FR.tr (f_.up (fun _ z => absurd z List.not_mem_nil))
  apply aw_putF d_Mod_init_285 pl_Mod_117 rfl; exact ha; exact Nat.le_of_ble_eq_true rfl; exact rfl; exact rfl
  refine aw_nm ha ?_
  intro h ha_ f_ o_
  have hd := dom_o hd ha o_
  have m2 := f_ _ _ m2 (by simp)
  have m3 := f_ _ _ m3 (by simp)
  have m5 := f_ _ _ m5 (by simp)
  have m6 := f_ _ _ m6 (by simp)
  have m7 := f_ _ _ m7 (by simp)
  have m8 := f_ _ _ m8 (by simp)
  have m9 := f_ _ _ m9 (by simp)
  have m10 := f_ _ _ m10 (by simp)
  have m11 := f_ _ _ m11 (by simp)
  have m12 := f_ _ _ m12 (by simp)
  have m13 := f_ _ _ m13 (by simp)
  have m14 := f_ _ _ m14 (by simp)
  have m16 := f_ _ _ m16 (by simp)
  have m17 := f_ _ _ m17 (by simp)
  have m19 := f_ _ _ m19 (by simp)
  have m20 := f_ _ _ m20 (by simp)
  have m21 := f_ _ _ m21 (by simp)
  have m22 := f_ _ _ m22 (by simp)
  have m24 := f_ _ _ m24 (by simp)
  have m25 := f_ _ _ m25 (by simp)
  have m28 := f_ _ _ m28 (by simp)
  have m29 := f_ _ _ m29 (by simp)
  have m30 := f_ _ _ m30 (by simp)
  have m31 := f_ _ _ m31 (by simp)
  have m32 := f_ _ _ m32 (by simp)
  have m33 := f_ _ _ m33 (by simp)
  have m34 := f_ _ _ m34 (by simp)
  have m35 := f_ _ _ m35 (by simp)
  have m36 := f_ _ _ m36 (by simp)
  have m38 := f_ _ _ m38 (by simp)
  have m40 := f_ _ _ m40 (by simp)
  have m41 := f_ _ _ m41 (by simp)
  have m42 := f_ _ _ m42 (by simp)
  have ha := ha_
  have FR := FR.tr (f_.up (by simp))
  refine aw_aload_n (i := 0) d_Mod_init_288 rfl rfl ?_
  refine aw_sipush (v := nI 4096) d_Mod_init_289 (by decide) ?_
  refine aw_newaI (103) (N := 4096) d_Mod_init_292 rfl (by omega) (by omega) (by omega) ?_
  refine aw_nn hd ?_
  intro h m43 f_ o_ hd
  have ha := f_ _ _ ha (by simp)
  have m2 := f_ _ _ m2 (by simp)
  have m3 := f_ _ _ m3 (by simp)
  have m5 := f_ _ _ m5 (by simp)
  have m6 := f_ _ _ m6 (by simp)
  have m7 := f_ _ _ m7 (by simp)
  have m8 := f_ _ _ m8 (by simp)
  have m9 := f_ _ _ m9 (by simp)
  have m10 := f_ _ _ m10 (by simp)
  have m11 := f_ _ _ m11 (by simp)
  have m12 := f_ _ _ m12 (by simp)
  have m13 := f_ _ _ m13 (by simp)
  have m14 := f_ _ _ m14 (by simp)
  have m16 := f_ _ _ m16 (by simp)
  have m17 := f_ _ _ m17 (by simp)
  have m19 := f_ _ _ m19 (by simp)
  have m20 := f_ _ _ m20 (by simp)
  have m21 := f_ _ _ m21 (by simp)
  have m22 := f_ _ _ m22 (by simp)
  have m24 := f_ _ _ m24 (by simp)
  have m25 := f_ _ _ m25 (by simp)
  have m28 := f_ _ _ m28 (by simp)
  have m29 := f_ _ _ m29 (by simp)
  have m30 := f_ _ _ m30 (by simp)
  have m31 := f_ _ _ m31 (by simp)
  have m32 := f_ _ _ m32 (by simp)
  have m33 := f_ _ _ m33 (by simp)
  have m34 := f_ _ _ m34 (by simp)
  have m35 := f_ _ _ m35 (by simp)
  have m36 := f_ _ _ m36 (by simp)
  have m38 := f_ _ _ m38 (by simp)
  have m40 := f_ _ _ m40 (by simp)
  have m41 := f_ _ _ m41 (by simp)
  have m42 := f_ _ _ m42 (by simp)
  have FR := FR.tr (f_.up (fun _ z => absurd z List.not_mem_nil))
  apply aw_putF d_Mod_init_294 pl_Mod_120 rfl; exact ha; exact Nat.le_of_ble_eq_true rfl; exact rfl; exact rfl
  refine aw_nm ha ?_
  intro h ha_ f_ o_
  have hd := dom_o hd ha o_
  have m2 := f_ _ _ m2 (by simp)
  have m3 := f_ _ _ m3 (by simp)
  have m5 := f_ _ _ m5 (by simp)
  have m6 := f_ _ _ m6 (by simp)
  have m7 := f_ _ _ m7 (by simp)
  have m8 := f_ _ _ m8 (by simp)
  have m9 := f_ _ _ m9 (by simp)
  have m10 := f_ _ _ m10 (by simp)
  have m11 := f_ _ _ m11 (by simp)
  have m12 := f_ _ _ m12 (by simp)
  have m13 := f_ _ _ m13 (by simp)
  have m14 := f_ _ _ m14 (by simp)
  have m16 := f_ _ _ m16 (by simp)
  have m17 := f_ _ _ m17 (by simp)
  have m19 := f_ _ _ m19 (by simp)
  have m20 := f_ _ _ m20 (by simp)
  have m21 := f_ _ _ m21 (by simp)
  have m22 := f_ _ _ m22 (by simp)
  have m24 := f_ _ _ m24 (by simp)
  have m25 := f_ _ _ m25 (by simp)
  have m28 := f_ _ _ m28 (by simp)
  have m29 := f_ _ _ m29 (by simp)
  have m30 := f_ _ _ m30 (by simp)
  have m31 := f_ _ _ m31 (by simp)
  have m32 := f_ _ _ m32 (by simp)
  have m33 := f_ _ _ m33 (by simp)
  have m34 := f_ _ _ m34 (by simp)
  have m35 := f_ _ _ m35 (by simp)
  have m36 := f_ _ _ m36 (by simp)
  have m38 := f_ _ _ m38 (by simp)
  have m40 := f_ _ _ m40 (by simp)
  have m41 := f_ _ _ m41 (by simp)
  have m42 := f_ _ _ m42 (by simp)
  have m43 := f_ _ _ m43 (by simp)
  have ha := ha_
  have FR := FR.tr (f_.up (by simp))
  refine aw_aload_n (i := 0) d_Mod_init_297 rfl rfl ?_
  refine aw_iconst (v := nI 4) d_Mod_init_298 (by decide) ?_
  refine aw_newaZ (104) (N := 4) d_Mod_init_299 rfl (by omega) (by omega) (by omega) ?_
  refine aw_nn hd ?_
  intro h m44 f_ o_ hd
  have ha := f_ _ _ ha (by simp)
  have m2 := f_ _ _ m2 (by simp)
  have m3 := f_ _ _ m3 (by simp)
  have m5 := f_ _ _ m5 (by simp)
  have m6 := f_ _ _ m6 (by simp)
  have m7 := f_ _ _ m7 (by simp)
  have m8 := f_ _ _ m8 (by simp)
  have m9 := f_ _ _ m9 (by simp)
  have m10 := f_ _ _ m10 (by simp)
  have m11 := f_ _ _ m11 (by simp)
  have m12 := f_ _ _ m12 (by simp)
  have m13 := f_ _ _ m13 (by simp)
  have m14 := f_ _ _ m14 (by simp)
  have m16 := f_ _ _ m16 (by simp)
  have m17 := f_ _ _ m17 (by simp)
  have m19 := f_ _ _ m19 (by simp)
  have m20 := f_ _ _ m20 (by simp)
  have m21 := f_ _ _ m21 (by simp)
  have m22 := f_ _ _ m22 (by simp)
  have m24 := f_ _ _ m24 (by simp)
  have m25 := f_ _ _ m25 (by simp)
  have m28 := f_ _ _ m28 (by simp)
  have m29 := f_ _ _ m29 (by simp)
  have m30 := f_ _ _ m30 (by simp)
  have m31 := f_ _ _ m31 (by simp)
  have m32 := f_ _ _ m32 (by simp)
  have m33 := f_ _ _ m33 (by simp)
  have m34 := f_ _ _ m34 (by simp)
  have m35 := f_ _ _ m35 (by simp)
  have m36 := f_ _ _ m36 (by simp)
  have m38 := f_ _ _ m38 (by simp)
  have m40 := f_ _ _ m40 (by simp)
  have m41 := f_ _ _ m41 (by simp)
  have m42 := f_ _ _ m42 (by simp)
  have m43 := f_ _ _ m43 (by simp)
  have FR := FR.tr (f_.up (fun _ z => absurd z List.not_mem_nil))
  apply aw_putF d_Mod_init_301 pl_Mod_123 rfl; exact ha; exact Nat.le_of_ble_eq_true rfl; exact rfl; exact rfl
  refine aw_nm ha ?_
  intro h ha_ f_ o_
  have hd := dom_o hd ha o_
  have m2 := f_ _ _ m2 (by simp)
  have m3 := f_ _ _ m3 (by simp)
  have m5 := f_ _ _ m5 (by simp)
  have m6 := f_ _ _ m6 (by simp)
  have m7 := f_ _ _ m7 (by simp)
  have m8 := f_ _ _ m8 (by simp)
  have m9 := f_ _ _ m9 (by simp)
  have m10 := f_ _ _ m10 (by simp)
  have m11 := f_ _ _ m11 (by simp)
  have m12 := f_ _ _ m12 (by simp)
  have m13 := f_ _ _ m13 (by simp)
  have m14 := f_ _ _ m14 (by simp)
  have m16 := f_ _ _ m16 (by simp)
  have m17 := f_ _ _ m17 (by simp)
  have m19 := f_ _ _ m19 (by simp)
  have m20 := f_ _ _ m20 (by simp)
  have m21 := f_ _ _ m21 (by simp)
  have m22 := f_ _ _ m22 (by simp)
  have m24 := f_ _ _ m24 (by simp)
  have m25 := f_ _ _ m25 (by simp)
  have m28 := f_ _ _ m28 (by simp)
  have m29 := f_ _ _ m29 (by simp)
  have m30 := f_ _ _ m30 (by simp)
  have m31 := f_ _ _ m31 (by simp)
  have m32 := f_ _ _ m32 (by simp)
  have m33 := f_ _ _ m33 (by simp)
  have m34 := f_ _ _ m34 (by simp)
  have m35 := f_ _ _ m35 (by simp)
  have m36 := f_ _ _ m36 (by simp)
  have m38 := f_ _ _ m38 (by simp)
  have m40 := f_ _ _ m40 (by simp)
  have m41 := f_ _ _ m41 (by simp)
  have m42 := f_ _ _ m42 (by simp)
  have m43 := f_ _ _ m43 (by simp)
  have m44 := f_ _ _ m44 (by simp)
  have ha := ha_
  have FR := FR.tr (f_.up (by simp))
  refine aw_aload_n (i := 0) d_Mod_init_304 rfl rfl ?_
  refine aw_iconst (v := nI 4) d_Mod_init_305 (by decide) ?_
  refine aw_newaI (105) (N := 4) d_Mod_init_306 rfl (by omega) (by omega) (by omega) ?_
  refine aw_nn hd ?_
  intro h m45 f_ o_ hd
  have ha := f_ _ _ ha (by simp)
  have m2 := f_ _ _ m2 (by simp)
  have m3 := f_ _ _ m3 (by simp)
  have m5 := f_ _ _ m5 (by simp)
  have m6 := f_ _ _ m6 (by simp)
  have m7 := f_ _ _ m7 (by simp)
  have m8 := f_ _ _ m8 (by simp)
  have m9 := f_ _ _ m9 (by simp)
  have m10 := f_ _ _ m10 (by simp)
  have m11 := f_ _ _ m11 (by simp)
  have m12 := f_ _ _ m12 (by simp)
  have m13 := f_ _ _ m13 (by simp)
  have m14 := f_ _ _ m14 (by simp)
  have m16 := f_ _ _ m16 (by simp)
  have m17 := f_ _ _ m17 (by simp)
  have m19 := f_ _ _ m19 (by simp)
  have m20 := f_ _ _ m20 (by simp)
  have m21 := f_ _ _ m21 (by simp)
  have m22 := f_ _ _ m22 (by simp)
  have m24 := f_ _ _ m24 (by simp)
  have m25 := f_ _ _ m25 (by simp)
  have m28 := f_ _ _ m28 (by simp)
  have m29 := f_ _ _ m29 (by simp)
  have m30 := f_ _ _ m30 (by simp)
  have m31 := f_ _ _ m31 (by simp)
  have m32 := f_ _ _ m32 (by simp)
  have m33 := f_ _ _ m33 (by simp)
  have m34 := f_ _ _ m34 (by simp)
  have m35 := f_ _ _ m35 (by simp)
  have m36 := f_ _ _ m36 (by simp)
  have m38 := f_ _ _ m38 (by simp)
  have m40 := f_ _ _ m40 (by simp)
  have m41 := f_ _ _ m41 (by simp)
  have m42 := f_ _ _ m42 (by simp)
  have m43 := f_ _ _ m43 (by simp)
  have m44 := f_ _ _ m44 (by simp)
  have FR := FR.tr (f_.up (fun _ z => absurd z List.not_mem_nil))
  apply aw_putF d_Mod_init_308 pl_Mod_126 rfl; exact ha; exact Nat.le_of_ble_eq_true rfl; exact rfl; exact rfl
  refine aw_nm ha ?_
  intro h ha_ f_ o_
  have hd := dom_o hd ha o_
  have m2 := f_ _ _ m2 (by simp)
  have m3 := f_ _ _ m3 (by simp)
  have m5 := f_ _ _ m5 (by simp)
  have m6 := f_ _ _ m6 (by simp)
  have m7 := f_ _ _ m7 (by simp)
  have m8 := f_ _ _ m8 (by simp)
  have m9 := f_ _ _ m9 (by simp)
  have m10 := f_ _ _ m10 (by simp)
  have m11 := f_ _ _ m11 (by simp)
  have m12 := f_ _ _ m12 (by simp)
  have m13 := f_ _ _ m13 (by simp)
  have m14 := f_ _ _ m14 (by simp)
  have m16 := f_ _ _ m16 (by simp)
  have m17 := f_ _ _ m17 (by simp)
  have m19 := f_ _ _ m19 (by simp)
  have m20 := f_ _ _ m20 (by simp)
  have m21 := f_ _ _ m21 (by simp)
  have m22 := f_ _ _ m22 (by simp)
  have m24 := f_ _ _ m24 (by simp)
  have m25 := f_ _ _ m25 (by simp)
  have m28 := f_ _ _ m28 (by simp)
  have m29 := f_ _ _ m29 (by simp)
  have m30 := f_ _ _ m30 (by simp)
  have m31 := f_ _ _ m31 (by simp)
  have m32 := f_ _ _ m32 (by simp)
  have m33 := f_ _ _ m33 (by simp)
  have m34 := f_ _ _ m34 (by simp)
  have m35 := f_ _ _ m35 (by simp)
  have m36 := f_ _ _ m36 (by simp)
  have m38 := f_ _ _ m38 (by simp)
  have m40 := f_ _ _ m40 (by simp)
  have m41 := f_ _ _ m41 (by simp)
  have m42 := f_ _ _ m42 (by simp)
  have m43 := f_ _ _ m43 (by simp)
  have m44 := f_ _ _ m44 (by simp)
  have m45 := f_ _ _ m45 (by simp)
  have ha := ha_
  have FR := FR.tr (f_.up (by simp))
  refine aw_aload_n (i := 0) d_Mod_init_311 rfl rfl ?_
  refine aw_iconst (v := nI 4) d_Mod_init_312 (by decide) ?_
  refine aw_newaI (106) (N := 4) d_Mod_init_313 rfl (by omega) (by omega) (by omega) ?_
  refine aw_nn hd ?_
  intro h m46 f_ o_ hd
  have ha := f_ _ _ ha (by simp)
  have m2 := f_ _ _ m2 (by simp)
  have m3 := f_ _ _ m3 (by simp)
  have m5 := f_ _ _ m5 (by simp)
  have m6 := f_ _ _ m6 (by simp)
  have m7 := f_ _ _ m7 (by simp)
  have m8 := f_ _ _ m8 (by simp)
  have m9 := f_ _ _ m9 (by simp)
  have m10 := f_ _ _ m10 (by simp)
  have m11 := f_ _ _ m11 (by simp)
  have m12 := f_ _ _ m12 (by simp)
  have m13 := f_ _ _ m13 (by simp)
  have m14 := f_ _ _ m14 (by simp)
  have m16 := f_ _ _ m16 (by simp)
  have m17 := f_ _ _ m17 (by simp)
  have m19 := f_ _ _ m19 (by simp)
  have m20 := f_ _ _ m20 (by simp)
  have m21 := f_ _ _ m21 (by simp)
  have m22 := f_ _ _ m22 (by simp)
  have m24 := f_ _ _ m24 (by simp)
  have m25 := f_ _ _ m25 (by simp)
  have m28 := f_ _ _ m28 (by simp)
  have m29 := f_ _ _ m29 (by simp)
  have m30 := f_ _ _ m30 (by simp)
  have m31 := f_ _ _ m31 (by simp)
  have m32 := f_ _ _ m32 (by simp)
  have m33 := f_ _ _ m33 (by simp)
  have m34 := f_ _ _ m34 (by simp)
  have m35 := f_ _ _ m35 (by simp)
  have m36 := f_ _ _ m36 (by simp)
  have m38 := f_ _ _ m38 (by simp)
  have m40 := f_ _ _ m40 (by simp)
  have m41 := f_ _ _ m41 (by simp)
  have m42 := f_ _ _ m42 (by simp)
  have m43 := f_ _ _ m43 (by simp)
  have m44 := f_ _ _ m44 (by simp)
  have m45 := f_ _ _ m45 (by simp)
  have FR := FR.tr (f_.up (fun _ z => absurd z List.not_mem_nil))
  apply aw_putF d_Mod_init_315 pl_Mod_129 rfl; exact ha; exact Nat.le_of_ble_eq_true rfl; exact rfl; exact rfl
  refine aw_nm ha ?_
  intro h ha_ f_ o_
  have hd := dom_o hd ha o_
  have m2 := f_ _ _ m2 (by simp)
  have m3 := f_ _ _ m3 (by simp)
  have m5 := f_ _ _ m5 (by simp)
  have m6 := f_ _ _ m6 (by simp)
  have m7 := f_ _ _ m7 (by simp)
  have m8 := f_ _ _ m8 (by simp)
  have m9 := f_ _ _ m9 (by simp)
  have m10 := f_ _ _ m10 (by simp)
  have m11 := f_ _ _ m11 (by simp)
  have m12 := f_ _ _ m12 (by simp)
  have m13 := f_ _ _ m13 (by simp)
  have m14 := f_ _ _ m14 (by simp)
  have m16 := f_ _ _ m16 (by simp)
  have m17 := f_ _ _ m17 (by simp)
  have m19 := f_ _ _ m19 (by simp)
  have m20 := f_ _ _ m20 (by simp)
  have m21 := f_ _ _ m21 (by simp)
  have m22 := f_ _ _ m22 (by simp)
  have m24 := f_ _ _ m24 (by simp)
  have m25 := f_ _ _ m25 (by simp)
  have m28 := f_ _ _ m28 (by simp)
  have m29 := f_ _ _ m29 (by simp)
  have m30 := f_ _ _ m30 (by simp)
  have m31 := f_ _ _ m31 (by simp)
  have m32 := f_ _ _ m32 (by simp)
  have m33 := f_ _ _ m33 (by simp)
  have m34 := f_ _ _ m34 (by simp)
  have m35 := f_ _ _ m35 (by simp)
  have m36 := f_ _ _ m36 (by simp)
  have m38 := f_ _ _ m38 (by simp)
  have m40 := f_ _ _ m40 (by simp)
  have m41 := f_ _ _ m41 (by simp)
  have m42 := f_ _ _ m42 (by simp)
  have m43 := f_ _ _ m43 (by simp)
  have m44 := f_ _ _ m44 (by simp)
  have m45 := f_ _ _ m45 (by simp)
  have m46 := f_ _ _ m46 (by simp)
  have ha := ha_
  have FR := FR.tr (f_.up (by simp))
  refine aw_aload_n (i := 0) d_Mod_init_318 rfl rfl ?_
  refine aw_iconst (v := nI 4) d_Mod_init_319 (by decide) ?_
  refine aw_newaI (107) (N := 4) d_Mod_init_320 rfl (by omega) (by omega) (by omega) ?_
  refine aw_nn hd ?_
  intro h m47 f_ o_ hd
  have ha := f_ _ _ ha (by simp)
  have m2 := f_ _ _ m2 (by simp)
  have m3 := f_ _ _ m3 (by simp)
  have m5 := f_ _ _ m5 (by simp)
  have m6 := f_ _ _ m6 (by simp)
  have m7 := f_ _ _ m7 (by simp)
  have m8 := f_ _ _ m8 (by simp)
  have m9 := f_ _ _ m9 (by simp)
  have m10 := f_ _ _ m10 (by simp)
  have m11 := f_ _ _ m11 (by simp)
  have m12 := f_ _ _ m12 (by simp)
  have m13 := f_ _ _ m13 (by simp)
  have m14 := f_ _ _ m14 (by simp)
  have m16 := f_ _ _ m16 (by simp)
  have m17 := f_ _ _ m17 (by simp)
  have m19 := f_ _ _ m19 (by simp)
  have m20 := f_ _ _ m20 (by simp)
  have m21 := f_ _ _ m21 (by simp)
  have m22 := f_ _ _ m22 (by simp)
  have m24 := f_ _ _ m24 (by simp)
  have m25 := f_ _ _ m25 (by simp)
  have m28 := f_ _ _ m28 (by simp)
  have m29 := f_ _ _ m29 (by simp)
  have m30 := f_ _ _ m30 (by simp)
  have m31 := f_ _ _ m31 (by simp)
  have m32 := f_ _ _ m32 (by simp)
  have m33 := f_ _ _ m33 (by simp)
  have m34 := f_ _ _ m34 (by simp)
  have m35 := f_ _ _ m35 (by simp)
  have m36 := f_ _ _ m36 (by simp)
  have m38 := f_ _ _ m38 (by simp)
  have m40 := f_ _ _ m40 (by simp)
  have m41 := f_ _ _ m41 (by simp)
  have m42 := f_ _ _ m42 (by simp)
  have m43 := f_ _ _ m43 (by simp)
  have m44 := f_ _ _ m44 (by simp)
  have m45 := f_ _ _ m45 (by simp)
  have m46 := f_ _ _ m46 (by simp)
  have FR := FR.tr (f_.up (fun _ z => absurd z List.not_mem_nil))
  apply aw_putF d_Mod_init_322 pl_Mod_132 rfl; exact ha; exact Nat.le_of_ble_eq_true rfl; exact rfl; exact rfl
  refine aw_nm ha ?_
  intro h ha_ f_ o_
  have hd := dom_o hd ha o_
  have m2 := f_ _ _ m2 (by simp)
  have m3 := f_ _ _ m3 (by simp)
  have m5 := f_ _ _ m5 (by simp)
  have m6 := f_ _ _ m6 (by simp)
  have m7 := f_ _ _ m7 (by simp)
  have m8 := f_ _ _ m8 (by simp)
  have m9 := f_ _ _ m9 (by simp)
  have m10 := f_ _ _ m10 (by simp)
  have m11 := f_ _ _ m11 (by simp)
  have m12 := f_ _ _ m12 (by simp)
  have m13 := f_ _ _ m13 (by simp)
  have m14 := f_ _ _ m14 (by simp)
  have m16 := f_ _ _ m16 (by simp)
  have m17 := f_ _ _ m17 (by simp)
  have m19 := f_ _ _ m19 (by simp)
  have m20 := f_ _ _ m20 (by simp)
  have m21 := f_ _ _ m21 (by simp)
  have m22 := f_ _ _ m22 (by simp)
  have m24 := f_ _ _ m24 (by simp)
  have m25 := f_ _ _ m25 (by simp)
  have m28 := f_ _ _ m28 (by simp)
  have m29 := f_ _ _ m29 (by simp)
  have m30 := f_ _ _ m30 (by simp)
  have m31 := f_ _ _ m31 (by simp)
  have m32 := f_ _ _ m32 (by simp)
  have m33 := f_ _ _ m33 (by simp)
  have m34 := f_ _ _ m34 (by simp)
  have m35 := f_ _ _ m35 (by simp)
  have m36 := f_ _ _ m36 (by simp)
  have m38 := f_ _ _ m38 (by simp)
  have m40 := f_ _ _ m40 (by simp)
  have m41 := f_ _ _ m41 (by simp)
  have m42 := f_ _ _ m42 (by simp)
  have m43 := f_ _ _ m43 (by simp)
  have m44 := f_ _ _ m44 (by simp)
  have m45 := f_ _ _ m45 (by simp)
  have m46 := f_ _ _ m46 (by simp)
  have m47 := f_ _ _ m47 (by simp)
  have ha := ha_
  have FR := FR.tr (f_.up (by simp))
  refine aw_aload_n (i := 0) d_Mod_init_325 rfl rfl ?_
  refine aw_iconst (v := nI 4) d_Mod_init_326 (by decide) ?_
  refine aw_newaI (108) (N := 4) d_Mod_init_327 rfl (by omega) (by omega) (by omega) ?_
  refine aw_nn hd ?_
  intro h m48 f_ o_ hd
  have ha := f_ _ _ ha (by simp)
  have m2 := f_ _ _ m2 (by simp)
  have m3 := f_ _ _ m3 (by simp)
  have m5 := f_ _ _ m5 (by simp)
  have m6 := f_ _ _ m6 (by simp)
  have m7 := f_ _ _ m7 (by simp)
  have m8 := f_ _ _ m8 (by simp)
  have m9 := f_ _ _ m9 (by simp)
  have m10 := f_ _ _ m10 (by simp)
  have m11 := f_ _ _ m11 (by simp)
  have m12 := f_ _ _ m12 (by simp)
  have m13 := f_ _ _ m13 (by simp)
  have m14 := f_ _ _ m14 (by simp)
  have m16 := f_ _ _ m16 (by simp)
  have m17 := f_ _ _ m17 (by simp)
  have m19 := f_ _ _ m19 (by simp)
  have m20 := f_ _ _ m20 (by simp)
  have m21 := f_ _ _ m21 (by simp)
  have m22 := f_ _ _ m22 (by simp)
  have m24 := f_ _ _ m24 (by simp)
  have m25 := f_ _ _ m25 (by simp)
  have m28 := f_ _ _ m28 (by simp)
  have m29 := f_ _ _ m29 (by simp)
  have m30 := f_ _ _ m30 (by simp)
  have m31 := f_ _ _ m31 (by simp)
  have m32 := f_ _ _ m32 (by simp)
  have m33 := f_ _ _ m33 (by simp)
  have m34 := f_ _ _ m34 (by simp)
  have m35 := f_ _ _ m35 (by simp)
  have m36 := f_ _ _ m36 (by simp)
  have m38 := f_ _ _ m38 (by simp)
  have m40 := f_ _ _ m40 (by simp)
  have m41 := f_ _ _ m41 (by simp)
  have m42 := f_ _ _ m42 (by simp)
  have m43 := f_ _ _ m43 (by simp)
  have m44 := f_ _ _ m44 (by simp)
  have m45 := f_ _ _ m45 (by simp)
  have m46 := f_ _ _ m46 (by simp)
  have m47 := f_ _ _ m47 (by simp)
  have FR := FR.tr (f_.up (fun _ z => absurd z List.not_mem_nil))
  apply aw_putF d_Mod_init_329 pl_Mod_135 rfl; exact ha; exact Nat.le_of_ble_eq_true rfl; exact rfl; exact rfl
  refine aw_nm ha ?_
  intro h ha_ f_ o_
  have hd := dom_o hd ha o_
  have m2 := f_ _ _ m2 (by simp)
  have m3 := f_ _ _ m3 (by simp)
  have m5 := f_ _ _ m5 (by simp)
  have m6 := f_ _ _ m6 (by simp)
  have m7 := f_ _ _ m7 (by simp)
  have m8 := f_ _ _ m8 (by simp)
  have m9 := f_ _ _ m9 (by simp)
  have m10 := f_ _ _ m10 (by simp)
  have m11 := f_ _ _ m11 (by simp)
  have m12 := f_ _ _ m12 (by simp)
  have m13 := f_ _ _ m13 (by simp)
  have m14 := f_ _ _ m14 (by simp)
  have m16 := f_ _ _ m16 (by simp)
  have m17 := f_ _ _ m17 (by simp)
  have m19 := f_ _ _ m19 (by simp)
  have m20 := f_ _ _ m20 (by simp)
  have m21 := f_ _ _ m21 (by simp)
  have m22 := f_ _ _ m22 (by simp)
  have m24 := f_ _ _ m24 (by simp)
  have m25 := f_ _ _ m25 (by simp)
  have m28 := f_ _ _ m28 (by simp)
  have m29 := f_ _ _ m29 (by simp)
  have m30 := f_ _ _ m30 (by simp)
  have m31 := f_ _ _ m31 (by simp)
  have m32 := f_ _ _ m32 (by simp)
  have m33 := f_ _ _ m33 (by simp)
  have m34 := f_ _ _ m34 (by simp)
  have m35 := f_ _ _ m35 (by simp)
  have m36 := f_ _ _ m36 (by simp)
  have m38 := f_ _ _ m38 (by simp)
  have m40 := f_ _ _ m40 (by simp)
  have m41 := f_ _ _ m41 (by simp)
  have m42 := f_ _ _ m42 (by simp)
  have m43 := f_ _ _ m43 (by simp)
  have m44 := f_ _ _ m44 (by simp)
  have m45 := f_ _ _ m45 (by simp)
  have m46 := f_ _ _ m46 (by simp)
  have m47 := f_ _ _ m47 (by simp)
  have m48 := f_ _ _ m48 (by simp)
  have ha := ha_
  have FR := FR.tr (f_.up (by simp))
  refine aw_aload_n (i := 0) d_Mod_init_332 rfl rfl ?_
  refine aw_iconst (v := nI 4) d_Mod_init_333 (by decide) ?_
  refine aw_newaI (109) (N := 4) d_Mod_init_334 rfl (by omega) (by omega) (by omega) ?_
  refine aw_nn hd ?_
  intro h m49 f_ o_ hd
  have ha := f_ _ _ ha (by simp)
  have m2 := f_ _ _ m2 (by simp)
  have m3 := f_ _ _ m3 (by simp)
  have m5 := f_ _ _ m5 (by simp)
  have m6 := f_ _ _ m6 (by simp)
  have m7 := f_ _ _ m7 (by simp)
  have m8 := f_ _ _ m8 (by simp)
  have m9 := f_ _ _ m9 (by simp)
  have m10 := f_ _ _ m10 (by simp)
  have m11 := f_ _ _ m11 (by simp)
  have m12 := f_ _ _ m12 (by simp)
  have m13 := f_ _ _ m13 (by simp)
  have m14 := f_ _ _ m14 (by simp)
  have m16 := f_ _ _ m16 (by simp)
  have m17 := f_ _ _ m17 (by simp)
  have m19 := f_ _ _ m19 (by simp)
  have m20 := f_ _ _ m20 (by simp)
  have m21 := f_ _ _ m21 (by simp)
  have m22 := f_ _ _ m22 (by simp)
  have m24 := f_ _ _ m24 (by simp)
  have m25 := f_ _ _ m25 (by simp)
  have m28 := f_ _ _ m28 (by simp)
  have m29 := f_ _ _ m29 (by simp)
  have m30 := f_ _ _ m30 (by simp)
  have m31 := f_ _ _ m31 (by simp)
  have m32 := f_ _ _ m32 (by simp)
  have m33 := f_ _ _ m33 (by simp)
  have m34 := f_ _ _ m34 (by simp)
  have m35 := f_ _ _ m35 (by simp)
  have m36 := f_ _ _ m36 (by simp)
  have m38 := f_ _ _ m38 (by simp)
  have m40 := f_ _ _ m40 (by simp)
  have m41 := f_ _ _ m41 (by simp)
  have m42 := f_ _ _ m42 (by simp)
  have m43 := f_ _ _ m43 (by simp)
  have m44 := f_ _ _ m44 (by simp)
  have m45 := f_ _ _ m45 (by simp)
  have m46 := f_ _ _ m46 (by simp)
  have m47 := f_ _ _ m47 (by simp)
  have m48 := f_ _ _ m48 (by simp)
  have FR := FR.tr (f_.up (fun _ z => absurd z List.not_mem_nil))
  apply aw_putF d_Mod_init_336 pl_Mod_138 rfl; exact ha; exact Nat.le_of_ble_eq_true rfl; exact rfl; exact rfl
  refine aw_nm ha ?_
  intro h ha_ f_ o_
  have hd := dom_o hd ha o_
  have m2 := f_ _ _ m2 (by simp)
  have m3 := f_ _ _ m3 (by simp)
  have m5 := f_ _ _ m5 (by simp)
  have m6 := f_ _ _ m6 (by simp)
  have m7 := f_ _ _ m7 (by simp)
  have m8 := f_ _ _ m8 (by simp)
  have m9 := f_ _ _ m9 (by simp)
  have m10 := f_ _ _ m10 (by simp)
  have m11 := f_ _ _ m11 (by simp)
  have m12 := f_ _ _ m12 (by simp)
  have m13 := f_ _ _ m13 (by simp)
  have m14 := f_ _ _ m14 (by simp)
  have m16 := f_ _ _ m16 (by simp)
  have m17 := f_ _ _ m17 (by simp)
  have m19 := f_ _ _ m19 (by simp)
  have m20 := f_ _ _ m20 (by simp)
  have m21 := f_ _ _ m21 (by simp)
  have m22 := f_ _ _ m22 (by simp)
  have m24 := f_ _ _ m24 (by simp)
  have m25 := f_ _ _ m25 (by simp)
  have m28 := f_ _ _ m28 (by simp)
  have m29 := f_ _ _ m29 (by simp)
  have m30 := f_ _ _ m30 (by simp)
  have m31 := f_ _ _ m31 (by simp)
  have m32 := f_ _ _ m32 (by simp)
  have m33 := f_ _ _ m33 (by simp)
  have m34 := f_ _ _ m34 (by simp)
  have m35 := f_ _ _ m35 (by simp)
  have m36 := f_ _ _ m36 (by simp)
  have m38 := f_ _ _ m38 (by simp)
  have m40 := f_ _ _ m40 (by simp)
  have m41 := f_ _ _ m41 (by simp)
  have m42 := f_ _ _ m42 (by simp)
  have m43 := f_ _ _ m43 (by simp)
  have m44 := f_ _ _ m44 (by simp)
  have m45 := f_ _ _ m45 (by simp)
  have m46 := f_ _ _ m46 (by simp)
  have m47 := f_ _ _ m47 (by simp)
  have m48 := f_ _ _ m48 (by simp)
  have m49 := f_ _ _ m49 (by simp)
  have ha := ha_
  have FR := FR.tr (f_.up (by simp))
  refine aw_aload_n (i := 0) d_Mod_init_339 rfl rfl ?_
  refine aw_sipush (v := nI 200) d_Mod_init_340 (by decide) ?_
  refine aw_newaI (111) (N := 200) d_Mod_init_343 rfl (by omega) (by omega) (by omega) ?_
  refine aw_nn hd ?_
  intro h m51 f_ o_ hd
  have ha := f_ _ _ ha (by simp)
  have m2 := f_ _ _ m2 (by simp)
  have m3 := f_ _ _ m3 (by simp)
  have m5 := f_ _ _ m5 (by simp)
  have m6 := f_ _ _ m6 (by simp)
  have m7 := f_ _ _ m7 (by simp)
  have m8 := f_ _ _ m8 (by simp)
  have m9 := f_ _ _ m9 (by simp)
  have m10 := f_ _ _ m10 (by simp)
  have m11 := f_ _ _ m11 (by simp)
  have m12 := f_ _ _ m12 (by simp)
  have m13 := f_ _ _ m13 (by simp)
  have m14 := f_ _ _ m14 (by simp)
  have m16 := f_ _ _ m16 (by simp)
  have m17 := f_ _ _ m17 (by simp)
  have m19 := f_ _ _ m19 (by simp)
  have m20 := f_ _ _ m20 (by simp)
  have m21 := f_ _ _ m21 (by simp)
  have m22 := f_ _ _ m22 (by simp)
  have m24 := f_ _ _ m24 (by simp)
  have m25 := f_ _ _ m25 (by simp)
  have m28 := f_ _ _ m28 (by simp)
  have m29 := f_ _ _ m29 (by simp)
  have m30 := f_ _ _ m30 (by simp)
  have m31 := f_ _ _ m31 (by simp)
  have m32 := f_ _ _ m32 (by simp)
  have m33 := f_ _ _ m33 (by simp)
  have m34 := f_ _ _ m34 (by simp)
  have m35 := f_ _ _ m35 (by simp)
  have m36 := f_ _ _ m36 (by simp)
  have m38 := f_ _ _ m38 (by simp)
  have m40 := f_ _ _ m40 (by simp)
  have m41 := f_ _ _ m41 (by simp)
  have m42 := f_ _ _ m42 (by simp)
  have m43 := f_ _ _ m43 (by simp)
  have m44 := f_ _ _ m44 (by simp)
  have m45 := f_ _ _ m45 (by simp)
  have m46 := f_ _ _ m46 (by simp)
  have m47 := f_ _ _ m47 (by simp)
  have m48 := f_ _ _ m48 (by simp)
  have m49 := f_ _ _ m49 (by simp)
  have FR := FR.tr (f_.up (fun _ z => absurd z List.not_mem_nil))
  apply aw_putF d_Mod_init_345 pl_Mod_141 rfl; exact ha; exact Nat.le_of_ble_eq_true rfl; exact rfl; exact rfl
  refine aw_nm ha ?_
  intro h ha_ f_ o_
  have hd := dom_o hd ha o_
  have m2 := f_ _ _ m2 (by simp)
  have m3 := f_ _ _ m3 (by simp)
  have m5 := f_ _ _ m5 (by simp)
  have m6 := f_ _ _ m6 (by simp)
  have m7 := f_ _ _ m7 (by simp)
  have m8 := f_ _ _ m8 (by simp)
  have m9 := f_ _ _ m9 (by simp)
  have m10 := f_ _ _ m10 (by simp)
  have m11 := f_ _ _ m11 (by simp)
  have m12 := f_ _ _ m12 (by simp)
  have m13 := f_ _ _ m13 (by simp)
  have m14 := f_ _ _ m14 (by simp)
  have m16 := f_ _ _ m16 (by simp)
  have m17 := f_ _ _ m17 (by simp)
  have m19 := f_ _ _ m19 (by simp)
  have m20 := f_ _ _ m20 (by simp)
  have m21 := f_ _ _ m21 (by simp)
  have m22 := f_ _ _ m22 (by simp)
  have m24 := f_ _ _ m24 (by simp)
  have m25 := f_ _ _ m25 (by simp)
  have m28 := f_ _ _ m28 (by simp)
  have m29 := f_ _ _ m29 (by simp)
  have m30 := f_ _ _ m30 (by simp)
  have m31 := f_ _ _ m31 (by simp)
  have m32 := f_ _ _ m32 (by simp)
  have m33 := f_ _ _ m33 (by simp)
  have m34 := f_ _ _ m34 (by simp)
  have m35 := f_ _ _ m35 (by simp)
  have m36 := f_ _ _ m36 (by simp)
  have m38 := f_ _ _ m38 (by simp)
  have m40 := f_ _ _ m40 (by simp)
  have m41 := f_ _ _ m41 (by simp)
  have m42 := f_ _ _ m42 (by simp)
  have m43 := f_ _ _ m43 (by simp)
  have m44 := f_ _ _ m44 (by simp)
  have m45 := f_ _ _ m45 (by simp)
  have m46 := f_ _ _ m46 (by simp)
  have m47 := f_ _ _ m47 (by simp)
  have m48 := f_ _ _ m48 (by simp)
  have m49 := f_ _ _ m49 (by simp)
  have m51 := f_ _ _ m51 (by simp)
  have ha := ha_
  have FR := FR.tr (f_.up (by simp))
  refine aw_aload_n (i := 0) d_Mod_init_348 rfl rfl ?_
  refine aw_sipush (v := nI 200) d_Mod_init_349 (by decide) ?_
  refine aw_newaI (112) (N := 200) d_Mod_init_352 rfl (by omega) (by omega) (by omega) ?_
  refine aw_nn hd ?_
  intro h m52 f_ o_ hd
  have ha := f_ _ _ ha (by simp)
  have m2 := f_ _ _ m2 (by simp)
  have m3 := f_ _ _ m3 (by simp)
  have m5 := f_ _ _ m5 (by simp)
  have m6 := f_ _ _ m6 (by simp)
  have m7 := f_ _ _ m7 (by simp)
  have m8 := f_ _ _ m8 (by simp)
  have m9 := f_ _ _ m9 (by simp)
  have m10 := f_ _ _ m10 (by simp)
  have m11 := f_ _ _ m11 (by simp)
  have m12 := f_ _ _ m12 (by simp)
  have m13 := f_ _ _ m13 (by simp)
  have m14 := f_ _ _ m14 (by simp)
  have m16 := f_ _ _ m16 (by simp)
  have m17 := f_ _ _ m17 (by simp)
  have m19 := f_ _ _ m19 (by simp)
  have m20 := f_ _ _ m20 (by simp)
  have m21 := f_ _ _ m21 (by simp)
  have m22 := f_ _ _ m22 (by simp)
  have m24 := f_ _ _ m24 (by simp)
  have m25 := f_ _ _ m25 (by simp)
  have m28 := f_ _ _ m28 (by simp)
  have m29 := f_ _ _ m29 (by simp)
  have m30 := f_ _ _ m30 (by simp)
  have m31 := f_ _ _ m31 (by simp)
  have m32 := f_ _ _ m32 (by simp)
  have m33 := f_ _ _ m33 (by simp)
  have m34 := f_ _ _ m34 (by simp)
  have m35 := f_ _ _ m35 (by simp)
  have m36 := f_ _ _ m36 (by simp)
  have m38 := f_ _ _ m38 (by simp)
  have m40 := f_ _ _ m40 (by simp)
  have m41 := f_ _ _ m41 (by simp)
  have m42 := f_ _ _ m42 (by simp)
  have m43 := f_ _ _ m43 (by simp)
  have m44 := f_ _ _ m44 (by simp)
  have m45 := f_ _ _ m45 (by simp)
  have m46 := f_ _ _ m46 (by simp)
  have m47 := f_ _ _ m47 (by simp)
  have m48 := f_ _ _ m48 (by simp)
  have m49 := f_ _ _ m49 (by simp)
  have m51 := f_ _ _ m51 (by simp)
  have FR := FR.tr (f_.up (fun _ z => absurd z List.not_mem_nil))
  apply aw_putF d_Mod_init_354 pl_Mod_144 rfl; exact ha; exact Nat.le_of_ble_eq_true rfl; exact rfl; exact rfl
  refine aw_nm ha ?_
  intro h ha_ f_ o_
  have hd := dom_o hd ha o_
  have m2 := f_ _ _ m2 (by simp)
  have m3 := f_ _ _ m3 (by simp)
  have m5 := f_ _ _ m5 (by simp)
  have m6 := f_ _ _ m6 (by simp)
  have m7 := f_ _ _ m7 (by simp)
  have m8 := f_ _ _ m8 (by simp)
  have m9 := f_ _ _ m9 (by simp)
  have m10 := f_ _ _ m10 (by simp)
  have m11 := f_ _ _ m11 (by simp)
  have m12 := f_ _ _ m12 (by simp)
  have m13 := f_ _ _ m13 (by simp)
  have m14 := f_ _ _ m14 (by simp)
  have m16 := f_ _ _ m16 (by simp)
  have m17 := f_ _ _ m17 (by simp)
  have m19 := f_ _ _ m19 (by simp)
  have m20 := f_ _ _ m20 (by simp)
  have m21 := f_ _ _ m21 (by simp)
  have m22 := f_ _ _ m22 (by simp)
  have m24 := f_ _ _ m24 (by simp)
  have m25 := f_ _ _ m25 (by simp)
  have m28 := f_ _ _ m28 (by simp)
  have m29 := f_ _ _ m29 (by simp)
  have m30 := f_ _ _ m30 (by simp)
  have m31 := f_ _ _ m31 (by simp)
  have m32 := f_ _ _ m32 (by simp)
  have m33 := f_ _ _ m33 (by simp)
  have m34 := f_ _ _ m34 (by simp)
  have m35 := f_ _ _ m35 (by simp)
  have m36 := f_ _ _ m36 (by simp)
  have m38 := f_ _ _ m38 (by simp)
  have m40 := f_ _ _ m40 (by simp)
  have m41 := f_ _ _ m41 (by simp)
  have m42 := f_ _ _ m42 (by simp)
  have m43 := f_ _ _ m43 (by simp)
  have m44 := f_ _ _ m44 (by simp)
  have m45 := f_ _ _ m45 (by simp)
  have m46 := f_ _ _ m46 (by simp)
  have m47 := f_ _ _ m47 (by simp)
  have m48 := f_ _ _ m48 (by simp)
  have m49 := f_ _ _ m49 (by simp)
  have m51 := f_ _ _ m51 (by simp)
  have m52 := f_ _ _ m52 (by simp)
  have ha := ha_
  have FR := FR.tr (f_.up (by simp))
  refine aw_aload_n (i := 0) d_Mod_init_357 rfl rfl ?_
  refine aw_sipush (v := nI 200) d_Mod_init_358 (by decide) ?_
  refine aw_newaI (113) (N := 200) d_Mod_init_361 rfl (by omega) (by omega) (by omega) ?_
  refine aw_nn hd ?_
  intro h m53 f_ o_ hd
  have ha := f_ _ _ ha (by simp)
  have m2 := f_ _ _ m2 (by simp)
  have m3 := f_ _ _ m3 (by simp)
  have m5 := f_ _ _ m5 (by simp)
  have m6 := f_ _ _ m6 (by simp)
  have m7 := f_ _ _ m7 (by simp)
  have m8 := f_ _ _ m8 (by simp)
  have m9 := f_ _ _ m9 (by simp)
  have m10 := f_ _ _ m10 (by simp)
  have m11 := f_ _ _ m11 (by simp)
  have m12 := f_ _ _ m12 (by simp)
  have m13 := f_ _ _ m13 (by simp)
  have m14 := f_ _ _ m14 (by simp)
  have m16 := f_ _ _ m16 (by simp)
  have m17 := f_ _ _ m17 (by simp)
  have m19 := f_ _ _ m19 (by simp)
  have m20 := f_ _ _ m20 (by simp)
  have m21 := f_ _ _ m21 (by simp)
  have m22 := f_ _ _ m22 (by simp)
  have m24 := f_ _ _ m24 (by simp)
  have m25 := f_ _ _ m25 (by simp)
  have m28 := f_ _ _ m28 (by simp)
  have m29 := f_ _ _ m29 (by simp)
  have m30 := f_ _ _ m30 (by simp)
  have m31 := f_ _ _ m31 (by simp)
  have m32 := f_ _ _ m32 (by simp)
  have m33 := f_ _ _ m33 (by simp)
  have m34 := f_ _ _ m34 (by simp)
  have m35 := f_ _ _ m35 (by simp)
  have m36 := f_ _ _ m36 (by simp)
  have m38 := f_ _ _ m38 (by simp)
  have m40 := f_ _ _ m40 (by simp)
  have m41 := f_ _ _ m41 (by simp)
  have m42 := f_ _ _ m42 (by simp)
  have m43 := f_ _ _ m43 (by simp)
  have m44 := f_ _ _ m44 (by simp)
  have m45 := f_ _ _ m45 (by simp)
  have m46 := f_ _ _ m46 (by simp)
  have m47 := f_ _ _ m47 (by simp)
  have m48 := f_ _ _ m48 (by simp)
  have m49 := f_ _ _ m49 (by simp)
  have m51 := f_ _ _ m51 (by simp)
  have m52 := f_ _ _ m52 (by simp)
  have FR := FR.tr (f_.up (fun _ z => absurd z List.not_mem_nil))
  apply aw_putF d_Mod_init_363 pl_Mod_147 rfl; exact ha; exact Nat.le_of_ble_eq_true rfl; exact rfl; exact rfl
  refine aw_nm ha ?_
  intro h ha_ f_ o_
  have hd := dom_o hd ha o_
  have m2 := f_ _ _ m2 (by simp)
  have m3 := f_ _ _ m3 (by simp)
  have m5 := f_ _ _ m5 (by simp)
  have m6 := f_ _ _ m6 (by simp)
  have m7 := f_ _ _ m7 (by simp)
  have m8 := f_ _ _ m8 (by simp)
  have m9 := f_ _ _ m9 (by simp)
  have m10 := f_ _ _ m10 (by simp)
  have m11 := f_ _ _ m11 (by simp)
  have m12 := f_ _ _ m12 (by simp)
  have m13 := f_ _ _ m13 (by simp)
  have m14 := f_ _ _ m14 (by simp)
  have m16 := f_ _ _ m16 (by simp)
  have m17 := f_ _ _ m17 (by simp)
  have m19 := f_ _ _ m19 (by simp)
  have m20 := f_ _ _ m20 (by simp)
  have m21 := f_ _ _ m21 (by simp)
  have m22 := f_ _ _ m22 (by simp)
  have m24 := f_ _ _ m24 (by simp)
  have m25 := f_ _ _ m25 (by simp)
  have m28 := f_ _ _ m28 (by simp)
  have m29 := f_ _ _ m29 (by simp)
  have m30 := f_ _ _ m30 (by simp)
  have m31 := f_ _ _ m31 (by simp)
  have m32 := f_ _ _ m32 (by simp)
  have m33 := f_ _ _ m33 (by simp)
  have m34 := f_ _ _ m34 (by simp)
  have m35 := f_ _ _ m35 (by simp)
  have m36 := f_ _ _ m36 (by simp)
  have m38 := f_ _ _ m38 (by simp)
  have m40 := f_ _ _ m40 (by simp)
  have m41 := f_ _ _ m41 (by simp)
  have m42 := f_ _ _ m42 (by simp)
  have m43 := f_ _ _ m43 (by simp)
  have m44 := f_ _ _ m44 (by simp)
  have m45 := f_ _ _ m45 (by simp)
  have m46 := f_ _ _ m46 (by simp)
  have m47 := f_ _ _ m47 (by simp)
  have m48 := f_ _ _ m48 (by simp)
  have m49 := f_ _ _ m49 (by simp)
  have m51 := f_ _ _ m51 (by simp)
  have m52 := f_ _ _ m52 (by simp)
  have m53 := f_ _ _ m53 (by simp)
  have ha := ha_
  have FR := FR.tr (f_.up (by simp))
  refine aw_vret d_Mod_init_366 rfl (by omega) (by omega) ?_
  refine ⟨rfl, h, rfl, hd, ⟨ha, fun f hf => ?_, fun f hf => ?_, m34⟩, FR⟩
  · have hf := List.contains_iff_mem.mp hf
    simp only [mial, List.mem_cons, List.not_mem_nil, or_false] at hf
    rcases hf with rfl | rfl | rfl | rfl | rfl | rfl | rfl | rfl | rfl | rfl | rfl | rfl | rfl | rfl | rfl | rfl | rfl | rfl | rfl | rfl | rfl | rfl | rfl | rfl | rfl | rfl | rfl | rfl | rfl | rfl | rfl | rfl | rfl | rfl | rfl | rfl | rfl | rfl | rfl
    · exact m2
    · exact m3
    · exact m5
    · exact m6
    · exact m7
    · exact m8
    · exact m9
    · exact m10
    · exact m11
    · exact m12
    · exact m13
    · exact m14
    · exact m16
    · exact m17
    · exact m19
    · exact m20
    · exact m21
    · exact m22
    · exact m24
    · exact m25
    · exact m28
    · exact m30
    · exact m31
    · exact m32
    · exact m33
    · exact m35
    · exact m36
    · exact m38
    · exact m40
    · exact m41
    · exact m43
    · exact m45
    · exact m46
    · exact m47
    · exact m48
    · exact m49
    · exact m51
    · exact m52
    · exact m53
  · have hf := List.contains_iff_mem.mp hf
    simp only [List.mem_cons, List.not_mem_nil, or_false] at hf
    rcases hf with rfl | rfl | rfl
    · exact m29
    · exact m42
    · exact m44

def gsZ : List GSt := [gz0, gz0, gz0, gz0]
theorem mo_z : MoA sM (fun _ _ => 0) hsC gsZ [] [] := ⟨MoH.mk rfl rfl rfl rfl (fun i hi => absurd hi (Nat.not_lt_zero _)) (fun i hi => absurd hi (Nat.not_lt_zero _)) (fun i hi => absurd hi (Nat.not_lt_zero _)), ⟨rfl, fun g hg => by
  rcases (show g = 0 ∨ g = 1 ∨ g = 2 ∨ g = 3 by omega) with e | e | e | e <;> subst e <;> exact ⟨rfl, fun q => by cases q⟩⟩, ⟨rfl, Nat.zero_le _, fun k hk => absurd hk (Nat.not_lt_zero _)⟩, ⟨rfl, Nat.zero_le _, fun k hk => absurd hk (Nat.not_lt_zero _)⟩, ⟨true, rfl, fun q => by cases q⟩⟩
