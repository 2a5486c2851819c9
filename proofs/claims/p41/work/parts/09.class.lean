theorem z_cell {i j : Int32} (h1 : 0 ≤ i.toInt) (h2 : i.toInt < 24) (h3 : 0 ≤ j.toInt) (h4 : j.toInt < 5) : vp_in (i * 5 + j) 120 := by
  have h5 : (5 : Int32).toInt = 5 := by decide
  have h6 : (i * 5).toInt = i.toInt * 5 := by rw [z_mul (by rw [h5]; omega) (by rw [h5]; omega), h5]
  have h7 : (i * 5 + j).toInt = i.toInt * 5 + j.toInt := by rw [z_add (by rw [h6]; omega) (by rw [h6]; omega), h6]
  exact z_in (by omega) (by omega)
theorem z_app {i x d : Int32} {k : Int} (h1 : 0 ≤ i.toInt) (h2 : i.toInt < 24) (e : x = i * 5) (h3 : d.toInt = k) (h4 : 0 ≤ k ∧ k < 5) : vp_in (x + d) 120 := by
  rw [e]
  exact z_cell h1 h2 (by omega) (by omega)
theorem z_max0 {x a : Int32} (e : x = if (0 : Int32) < a then a else 0) : 0 ≤ x.toInt := by
  rw [e]
  split
  · rename_i h
    rw [z_lt] at h
    have h0 : (0 : Int32).toInt = 0 := by decide
    omega
  · decide
theorem z_past {r : Int32} (h1 : 0 ≤ r.toInt) (h2 : r.toInt < 11) : za_kd (13 + 5 * r.toNatClampNeg) = 1 := (by decide +kernel : ∀ j, j < 11 → za_kd (13 + 5 * j) = 1) _ (z_clamp h1 h2)
theorem z_past2 {r : Int32} (h1 : 0 ≤ r.toInt) (h2 : r.toInt < 11) : ∃ j, j < 11 ∧ 13 + 5 * r.toNatClampNeg = 13 + 5 * j := ⟨_, z_clamp h1 h2, rfl⟩
theorem z_kept {r : Int32} (h1 : 0 ≤ r.toInt) (h2 : r.toInt < 2) : za_kd (69 + 5 * r.toNatClampNeg) = 1 := (by decide +kernel : ∀ j, j < 2 → za_kd (69 + 5 * j) = 1) _ (z_clamp h1 h2)
theorem z_max1 {x a : Int32} (e : x = if (1 : Int32) < a then a else 1) : ¬ x = 0 := by
  rw [e]
  split
  · rename_i h
    intro h2
    rw [h2] at h
    exact absurd h (by decide)
  · decide
theorem z_nz {x : Int32} (c : ¬ x ≤ 0) : ¬ x = 0 := fun h => c (by rw [h]; decide)
theorem z_no2 {a : Int32} (c : (2 : Int32) ≤ a) : ¬ (0 ≤ a.toInt ∧ a.toInt < 2) := by
  rw [z_le] at c
  have h9 : (2 : Int32).toInt = 2 := by decide
  omega
theorem z_lits : (0 : Int32).toInt = 0 ∧ (1 : Int32).toInt = 1 ∧ (2 : Int32).toInt = 2 ∧ (3 : Int32).toInt = 3 ∧ (4 : Int32).toInt = 4 ∧ (5 : Int32).toInt = 5 ∧ (9 : Int32).toInt = 9 ∧ (10 : Int32).toInt = 10 ∧ (11 : Int32).toInt = 11 ∧ (12 : Int32).toInt = 12 ∧ (20 : Int32).toInt = 20 ∧ (99 : Int32).toInt = 99 ∧ (100 : Int32).toInt = 100 ∧ (-1 : Int32).toInt = -1 := by decide
set_option maxHeartbeats 4000000 in
set_option maxRecDepth 100000 in
theorem zc_X9_toldBySheet (l : Launch) (E : za_E) (a1 : Int32) (a2 : Int32) (σ : za_S)  : zMi l E yX9_toldBySheet cX9_toldBySheet 3 (Option.some Jvm.ClassFile.FieldType.int) 1 21 [za_I a1, za_I a2] σ (fun r σ' => σ' = σ) := by
  refine zMi_of [(0, za_I a1), (1, za_I a2)] (by decide) rfl rfl (Nat.le_of_ble_eq_true rfl) ?_
  intro ho p e s m args below meth c G hr
  refine zv_iload_n (j := 0) G dX9_toldBySheet_0 rfl rfl ?_
  refine zv_if_ne (tgt := 9) G dX9_toldBySheet_1 (by decide) (fun c_1 => ?_) (fun c_1 => ?_)
  · refine zv_iload_n (j := 0) G dX9_toldBySheet_9 rfl rfl ?_
    refine zv_iconst (v := 1) G dX9_toldBySheet_10 (by decide) ?_
    refine zv_icmp_ne (tgt := 19) G dX9_toldBySheet_11 (by decide) (fun c_11 => ?_) (fun c_11 => ?_)
    · refine zv_iload_n (j := 1) G dX9_toldBySheet_19 rfl rfl ?_
      refine zv_istore_n (lv' := [(2, za_I a2), (0, za_I a1), (1, za_I a2)]) G dX9_toldBySheet_20 rfl (by decide) rfl ?_
      refine zv_iconst (v := 0) G dX9_toldBySheet_21 (by decide) ?_
      refine zv_bipush (v := 99) G dX9_toldBySheet_22 (by decide) ?_
      refine zv_iload_n (j := 0) G dX9_toldBySheet_24 rfl rfl ?_
      refine zv_mmin G zm_391 zm_392 zm_147 zm_393 (Nat.le_of_ble_eq_true rfl) (Nat.le_of_ble_eq_true rfl) (Nat.zero_le _) (Nat.zero_le _) dX9_toldBySheet_25 ?_
      refine zv_top (fun x_25 e_25 => ?_)
      refine zv_mmax G zm_394 zm_395 zm_147 zm_396 (Nat.le_of_ble_eq_true rfl) (Nat.le_of_ble_eq_true rfl) (Nat.zero_le _) (Nat.zero_le _) dX9_toldBySheet_28 ?_
      refine zv_top (fun x_28 e_28 => ?_)
      exact zv_iret G hr dX9_toldBySheet_31 rfl
    · refine zv_iload_n (j := 1) G dX9_toldBySheet_14 rfl rfl ?_
      refine zv_i2s G dX9_toldBySheet_15 ?_
      refine zv_goto (tgt := 20) G dX9_toldBySheet_16 (by decide) ?_
      refine zv_top (fun x_20 e_20 => ?_)
      refine zv_istore_n (lv' := [(2, za_I x_20), (0, za_I a1), (1, za_I a2)]) G dX9_toldBySheet_20 rfl (by decide) rfl ?_
      refine zv_iconst (v := 0) G dX9_toldBySheet_21 (by decide) ?_
      refine zv_bipush (v := 99) G dX9_toldBySheet_22 (by decide) ?_
      refine zv_iload_n (j := 0) G dX9_toldBySheet_24 rfl rfl ?_
      refine zv_mmin G zm_391 zm_392 zm_147 zm_393 (Nat.le_of_ble_eq_true rfl) (Nat.le_of_ble_eq_true rfl) (Nat.zero_le _) (Nat.zero_le _) dX9_toldBySheet_25 ?_
      refine zv_top (fun x_25 e_25 => ?_)
      refine zv_mmax G zm_394 zm_395 zm_147 zm_396 (Nat.le_of_ble_eq_true rfl) (Nat.le_of_ble_eq_true rfl) (Nat.zero_le _) (Nat.zero_le _) dX9_toldBySheet_28 ?_
      refine zv_top (fun x_28 e_28 => ?_)
      exact zv_iret G hr dX9_toldBySheet_31 rfl
  · refine zv_iload_n (j := 1) G dX9_toldBySheet_4 rfl rfl ?_
    refine zv_i2b G dX9_toldBySheet_5 ?_
    refine zv_goto (tgt := 20) G dX9_toldBySheet_6 (by decide) ?_
    refine zv_top (fun x_20 e_20 => ?_)
    refine zv_istore_n (lv' := [(2, za_I x_20), (0, za_I a1), (1, za_I a2)]) G dX9_toldBySheet_20 rfl (by decide) rfl ?_
    refine zv_iconst (v := 0) G dX9_toldBySheet_21 (by decide) ?_
    refine zv_bipush (v := 99) G dX9_toldBySheet_22 (by decide) ?_
    refine zv_iload_n (j := 0) G dX9_toldBySheet_24 rfl rfl ?_
    refine zv_mmin G zm_391 zm_392 zm_147 zm_393 (Nat.le_of_ble_eq_true rfl) (Nat.le_of_ble_eq_true rfl) (Nat.zero_le _) (Nat.zero_le _) dX9_toldBySheet_25 ?_
    refine zv_top (fun x_25 e_25 => ?_)
    refine zv_mmax G zm_394 zm_395 zm_147 zm_396 (Nat.le_of_ble_eq_true rfl) (Nat.le_of_ble_eq_true rfl) (Nat.zero_le _) (Nat.zero_le _) dX9_toldBySheet_28 ?_
    refine zv_top (fun x_28 e_28 => ?_)
    exact zv_iret G hr dX9_toldBySheet_31 rfl
set_option maxHeartbeats 4000000 in
set_option maxRecDepth 100000 in
theorem zc_X6_has (l : Launch) (E : za_E) (w : Nat) (a1 : Int32) (σ : za_S)  : zMi l E yX6_has cX6_has 2 (Option.some Jvm.ClassFile.FieldType.boolean) 1 21 [za_O 2 w, za_I a1] σ (fun r σ' => ((r = 0 ∨ r = 1) ∧ (¬ r = 0 → 0 ≤ a1.toInt ∧ a1.toInt < 24)) ∧ σ' = σ) := by
  refine zMi_of [(0, za_O 2 w), (1, za_I a1)] (by decide) rfl rfl (Nat.le_of_ble_eq_true rfl) ?_
  intro ho p e s m args below meth c G hr
  have h_w : za_kd w = 2 := za_okO (by decide) (List.forall_mem_cons.mp ho).1
  refine zv_iload_n (j := 1) G dX6_has_0 rfl rfl ?_
  refine zv_if_lt (tgt := 22) G dX6_has_1 (by decide) (fun c_1 => ?_) (fun c_1 => ?_)
  · refine zv_iconst (v := 0) G dX6_has_22 (by decide) ?_
    exact zv_zret G hr dX6_has_23 (by decide) ⟨⟨Or.inl rfl, fun h => absurd rfl h⟩, rfl⟩
  · refine zv_iload_n (j := 1) G dX6_has_4 rfl rfl ?_
    refine zv_aload_n (j := 0) G dX6_has_5 rfl rfl ?_
    refine zg_X6_15 G dX6_has_6 ?_
    refine zv_icmp_ge (tgt := 22) G dX6_has_9 (by decide) (fun c_9 => ?_) (fun c_9 => ?_)
    · refine zv_iconst (v := 0) G dX6_has_22 (by decide) ?_
      exact zv_zret G hr dX6_has_23 (by decide) ⟨⟨Or.inl rfl, fun h => absurd rfl h⟩, rfl⟩
    · refine zv_iload_n (j := 1) G dX6_has_12 rfl rfl ?_
      refine zv_bipush (v := 24) G dX6_has_13 (by decide) ?_
      refine zv_icmp_ge (tgt := 22) G dX6_has_15 (by decide) (fun c_15 => ?_) (fun c_15 => ?_)
      · refine zv_iconst (v := 0) G dX6_has_22 (by decide) ?_
        exact zv_zret G hr dX6_has_23 (by decide) ⟨⟨Or.inl rfl, fun h => absurd rfl h⟩, rfl⟩
      · refine zv_iconst (v := 1) G dX6_has_18 (by decide) ?_
        refine zv_goto (tgt := 23) G dX6_has_19 (by decide) ?_
        exact zv_zret G hr dX6_has_23 (by decide) ⟨⟨Or.inr rfl, fun _ => ⟨z_ge0 c_1, z_ltk c_15 (n := 24) rfl⟩⟩, rfl⟩
set_option maxHeartbeats 4000000 in
set_option maxRecDepth 100000 in
theorem zc_X6_put (l : Launch) (E : za_E) (w : Nat) (a1 : Int32) (a2 : Int32) (a3 : Int32) (σ0 : za_S)  : zMv l E yX6_put cX6_put 4 (Option.none : Option Jvm.ClassFile.FieldType) 2 42 [za_O 2 w, za_I a1, za_I a2, za_I a3] σ0 (fun σ' => zc σ0 σ') := by
  refine zMv_of [(0, za_O 2 w), (1, za_I a1), (2, za_I a2), (3, za_I a3)] (by decide) rfl rfl (Nat.le_of_ble_eq_true rfl) ?_
  intro ho p e s m args below meth c G hr
  have h_w : za_kd w = 2 := za_okO (by decide) (List.forall_mem_cons.mp ho).1
  refine zv_gen (R9 := zc σ0) (zc_r σ0) (fun σ hz => ?_)
  refine zv_aload_n (j := 0) G dX6_put_0 rfl rfl ?_
  refine zv_iload_n (j := 1) G dX6_put_1 rfl rfl ?_
  refine zv_callVi (as := [za_I a1]) G (by decide) rfl rfl (zc_X6_has l E w a1 σ ) zk_X6_has zm_401 rfl ⟨(Nat.le_of_ble_eq_true rfl), (Nat.le_of_ble_eq_true rfl)⟩ ⟨Nat.zero_le _, Nat.zero_le _⟩ (Nat.le_of_ble_eq_true rfl) dX6_put_2 (fun r_2 σ h_2 => ?_)
  obtain ⟨h_2, rfl⟩ := h_2
  have J_28 : ∀  (σ : za_S) (hz : zc σ0 σ), zV p l e (zRm 2 42) s m args below meth c E (za_A E) 4 0 0 (MQ below (va_Qv (fun σ' => zc σ0 σ') (zB E) (za_A E)) args s 0 0 (za_A E)) 28 [] [] σ := by
    intro σ hz
    exact zv_vret G hr dX6_put_28 hz
  refine zv_if_eq (tgt := 28) G dX6_put_5 (by decide) (fun c_5 => ?_) (fun c_5 => ?_)
  · refine zv_sub [] (lv' := []) rfl ?_
    exact J_28 σ hz
  · refine zv_iload_n (j := 2) G dX6_put_8 rfl rfl ?_
    refine zv_if_lt (tgt := 28) G dX6_put_9 (by decide) (fun c_9 => ?_) (fun c_9 => ?_)
    · refine zv_sub [] (lv' := []) rfl ?_
      exact J_28 σ hz
    · refine zv_iload_n (j := 2) G dX6_put_12 rfl rfl ?_
      refine zv_iconst (v := 5) G dX6_put_13 (by decide) ?_
      refine zv_icmp_ge (tgt := 28) G dX6_put_14 (by decide) (fun c_14 => ?_) (fun c_14 => ?_)
      · refine zv_sub [] (lv' := []) rfl ?_
        exact J_28 σ hz
      · refine zv_aload_n (j := 0) G dX6_put_17 rfl rfl ?_
        refine zg_X6_11 G dX6_put_18 ?_
        refine zv_iload_n (j := 1) G dX6_put_21 rfl rfl ?_
        refine zv_iconst (v := 5) G dX6_put_22 (by decide) ?_
        refine zv_imul G dX6_put_23 ?_
        refine zv_iload_n (j := 2) G dX6_put_24 rfl rfl ?_
        refine zv_iadd G dX6_put_25 ?_
        refine zv_iload_n (j := 3) G dX6_put_26 rfl rfl ?_
        refine zv_iast G (by decide) rfl (fun _ => rfl) (z_cell (h_2.2 c_5).1 (h_2.2 c_5).2 (z_ge0 c_9) (z_ltk c_14 (n := 5) rfl)) dX6_put_27 ?_
        refine zv_gen (R9 := zc σ0) (zc_t hz (zc_k3 (zr_2_1 h_w))) (fun σ hz => ?_)
        refine zv_sub [] (lv' := []) rfl ?_
        exact J_28 σ hz
set_option maxHeartbeats 4000000 in
set_option maxRecDepth 100000 in
theorem zc_X9_sheet (l : Launch) (E : za_E) (a1 : Int32) (a2 : Int32) (a3 : Int32) (a4 : Int32) (σ0 : za_S)  : zMi l E yX9_sheet cX9_sheet 9 (Option.some Jvm.ClassFile.FieldType.int) 3 65 [za_O 0 0, za_I a1, za_I a2, za_I a3, za_I a4] σ0 (fun r σ' => zc σ0 σ') := by
  refine zMi_of [(0, za_O 0 0), (1, za_I a1), (2, za_I a2), (3, za_I a3), (4, za_I a4)] (by decide) rfl rfl (Nat.le_of_ble_eq_true rfl) ?_
  intro ho p e s m args below meth c G hr
  refine zv_gen (R9 := zc σ0) (zc_r σ0) (fun σ hz => ?_)
  refine zv_iload_n (j := 1) G dX9_sheet_0 rfl rfl ?_
  refine zv_if_lt (tgt := 15) G dX9_sheet_1 (by decide) (fun c_1 => ?_) (fun c_1 => ?_)
  · refine zv_iconst (v := (-1)) G dX9_sheet_15 (by decide) ?_
    exact zv_iret G hr dX9_sheet_16 hz
  · refine zv_iload_n (j := 1) G dX9_sheet_4 rfl rfl ?_
    refine zv_iconst (v := 3) G dX9_sheet_5 (by decide) ?_
    refine zv_icmp_gt (tgt := 15) G dX9_sheet_6 (by decide) (fun c_6 => ?_) (fun c_6 => ?_)
    · refine zv_iconst (v := (-1)) G dX9_sheet_15 (by decide) ?_
      exact zv_iret G hr dX9_sheet_16 hz
    · refine zv_iload_n (j := 2) G dX9_sheet_9 rfl rfl ?_
      refine zv_bipush (v := 20) G dX9_sheet_10 (by decide) ?_
      refine zv_icmp_le (tgt := 17) G dX9_sheet_12 (by decide) (fun c_12 => ?_) (fun c_12 => ?_)
      · refine zv_iload_n (j := 1) G dX9_sheet_17 rfl rfl ?_
        refine zv_iconst (v := 3) G dX9_sheet_18 (by decide) ?_
        have J_27 : ∀ (s0_27 : Int32) (σ : za_S) (hz : zc σ0 σ), zV p l e (zRm 3 65) s m args below meth c E (za_A E) 9 0 0 (MQ below (va_Qi (fun r σ' => zc σ0 σ') (zB E) (za_A E)) args s 0 0 (za_A E)) 27 [(0, za_O 0 0), (1, za_I a1), (2, za_I a2), (3, za_I a3), (4, za_I a4)] [za_I s0_27] σ := by
          intro s0_27 σ hz
          refine zv_istore (lv' := [(5, za_I s0_27), (0, za_O 0 0), (1, za_I a1), (2, za_I a2), (3, za_I a3), (4, za_I a4)]) G dX9_sheet_27 (by decide) rfl ?_
          refine zv_iload (j := 0) G dX9_sheet_29 rfl ?_
          refine zv_if_ne (tgt := 41) G dX9_sheet_31 (by decide) (fun c_31 => ?_) (fun c_31 => ?_)
          · refine zv_iconst (v := 0) G dX9_sheet_41 (by decide) ?_
            refine zv_istore (lv' := [(6, za_I 0), (5, za_I s0_27), (0, za_O 0 0), (1, za_I a1), (2, za_I a2), (3, za_I a3), (4, za_I a4)]) G dX9_sheet_42 (by decide) rfl ?_
            refine zv_iconst (v := 0) G dX9_sheet_44 (by decide) ?_
            have J_47 : ∀ (n : Nat) (y6_47 : Int32) (y7_47 : Int32) (σ : za_S) (hz : zc σ0 σ) (hn_47 : (2147483648 - y7_47.toInt).toNat < n), zV p l e (zRm 3 65) s m args below meth c E (za_A E) 9 0 0 (MQ below (va_Qi (fun r σ' => zc σ0 σ') (zB E) (za_A E)) args s 0 0 (za_A E)) 47 [(0, za_O 0 0), (1, za_I a1), (2, za_I a2), (3, za_I a3), (4, za_I a4), (5, za_I s0_27), (6, za_I y6_47), (7, za_I y7_47)] [] σ := by
              intro n
              induction n with
              | zero => intro y6_47 y7_47 σ hz hn; exact absurd hn (Nat.not_lt_zero _)
              | succ n ih_47 =>
                intro y6_47 y7_47 σ hz hn_47
                refine zv_iload (j := 7) G dX9_sheet_47 rfl ?_
                refine zv_aload_n (j := 0) G dX9_sheet_49 rfl rfl ?_
                refine zg_X9_10 G dX9_sheet_50 ?_
                refine zg_X9_102 G dX9_sheet_53 ?_
                refine zg_X9_106 G dX9_sheet_56 ?_
                refine zv_icmp_ge (tgt := 118) G dX9_sheet_59 (by decide) (fun c_59 => ?_) (fun c_59 => ?_)
                · refine zv_iload (j := 5) G dX9_sheet_118 rfl ?_
                  refine zv_if_eq (tgt := 128) G dX9_sheet_120 (by decide) (fun c_120 => ?_) (fun c_120 => ?_)
                  · refine zv_iload (j := 6) G dX9_sheet_128 rfl ?_
                    exact zv_iret G hr dX9_sheet_130 hz
                  · refine zv_bipush (v := (-3)) G dX9_sheet_123 (by decide) ?_
                    refine zv_goto (tgt := 130) G dX9_sheet_125 (by decide) ?_
                    exact zv_iret G hr dX9_sheet_130 hz
                · refine zv_iload (j := 5) G dX9_sheet_62 rfl ?_
                  have J_88 : ∀ (s0_88 : Int32) (σ : za_S) (hz : zc σ0 σ), zV p l e (zRm 3 65) s m args below meth c E (za_A E) 9 0 0 (MQ below (va_Qi (fun r σ' => zc σ0 σ') (zB E) (za_A E)) args s 0 0 (za_A E)) 88 [(0, za_O 0 0), (1, za_I a1), (2, za_I a2), (3, za_I a3), (4, za_I a4), (5, za_I s0_27), (6, za_I y6_47), (7, za_I y7_47)] [za_I s0_88] σ := by
                    intro s0_88 σ hz
                    refine zv_istore (lv' := [(8, za_I s0_88), (0, za_O 0 0), (1, za_I a1), (2, za_I a2), (3, za_I a3), (4, za_I a4), (5, za_I s0_27), (6, za_I y6_47), (7, za_I y7_47)]) G dX9_sheet_88 (by decide) rfl ?_
                    refine zv_aload_n (j := 1) G dX9_sheet_90 rfl rfl ?_
                    refine zg_X9_10 G dX9_sheet_91 ?_
                    refine zg_X9_102 G dX9_sheet_94 ?_
                    refine zv_iload (j := 8) G dX9_sheet_97 rfl ?_
                    refine zv_iconst (v := 1) G dX9_sheet_99 (by decide) ?_
                    refine zv_iload (j := 0) G dX9_sheet_100 rfl ?_
                    refine zv_callVNv (as := [za_I y7_47, za_I 1, za_I s0_88]) G (by decide) rfl rfl (zc_X6_put l E 2 y7_47 (1 : Int32) s0_88 σ ) zk_X6_put zm_397 rfl ⟨(Nat.le_of_ble_eq_true rfl), (Nat.le_of_ble_eq_true rfl)⟩ ⟨Nat.zero_le _, Nat.zero_le _⟩ (Nat.le_of_ble_eq_true rfl) dX9_sheet_102 (fun σ h_102 => ?_)
                    have hz9 := h_102
                    have hz := zc_t hz hz9
                    refine zv_iload (j := 7) G dX9_sheet_105 rfl ?_
                    refine zv_iload (j := 0) G dX9_sheet_107 rfl ?_
                    refine zv_iadd G dX9_sheet_109 ?_
                    refine zv_top (fun x_110 e_110 => ?_)
                    refine zv_istore (lv' := [(6, za_I x_110), (8, za_I s0_88), (0, za_O 0 0), (1, za_I a1), (2, za_I a2), (3, za_I a3), (4, za_I a4), (5, za_I s0_27), (7, za_I y7_47)]) G dX9_sheet_110 (by decide) rfl ?_
                    obtain ⟨x_112, e_112⟩ : ∃ y : Int32, y = y7_47 + 1 := ⟨_, rfl⟩
                    refine zv_iinc (j := 8) (v := x_112) (lv' := [(7, za_I x_112), (6, za_I x_110), (8, za_I s0_88), (0, za_O 0 0), (1, za_I a1), (2, za_I a2), (3, za_I a3), (4, za_I a4), (5, za_I s0_27)]) G dX9_sheet_112 rfl (by rw [e_112]; rfl) (by decide) rfl ?_
                    refine zv_goto (tgt := 47) G dX9_sheet_115 (by decide) ?_
                    refine zv_sub [3, 4, 5, 6, 7, 8, 1, 0] (lv' := [(0, za_O 0 0), (1, za_I a1), (2, za_I a2), (3, za_I a3), (4, za_I a4), (5, za_I s0_27), (6, za_I x_110), (7, za_I x_112)]) rfl ?_
                    exact ih_47 x_110 x_112 σ hz (z_meas c_59 e_112 hn_47)
                  have J_73 : ∀  (σ : za_S) (hz : zc σ0 σ), zV p l e (zRm 3 65) s m args below meth c E (za_A E) 9 0 0 (MQ below (va_Qi (fun r σ' => zc σ0 σ') (zB E) (za_A E)) args s 0 0 (za_A E)) 73 [(0, za_O 0 0), (1, za_I a1), (2, za_I a2), (3, za_I a3), (4, za_I a4), (5, za_I s0_27), (6, za_I y6_47), (7, za_I y7_47)] [] σ := by
                    intro σ hz
                    refine zv_iconst (v := 0) G dX9_sheet_73 (by decide) ?_
                    refine zv_goto (tgt := 88) G dX9_sheet_74 (by decide) ?_
                    refine zv_sub [0, 1, 2, 3, 4, 5, 6, 7] (lv' := [(0, za_O 0 0), (1, za_I a1), (2, za_I a2), (3, za_I a3), (4, za_I a4), (5, za_I s0_27), (6, za_I y6_47), (7, za_I y7_47)]) rfl ?_
                    exact J_88 (0 : Int32) σ hz
                  refine zv_if_ne (tgt := 73) G dX9_sheet_64 (by decide) (fun c_64 => ?_) (fun c_64 => ?_)
                  · refine zv_sub [0, 1, 2, 3, 4, 5, 6, 7] (lv' := [(0, za_O 0 0), (1, za_I a1), (2, za_I a2), (3, za_I a3), (4, za_I a4), (5, za_I s0_27), (6, za_I y6_47), (7, za_I y7_47)]) rfl ?_
                    exact J_73 σ hz
                  · refine zv_iload (j := 7) G dX9_sheet_67 rfl ?_
                    refine zv_iload_n (j := 2) G dX9_sheet_69 rfl rfl ?_
                    refine zv_icmp_lt (tgt := 77) G dX9_sheet_70 (by decide) (fun c_70 => ?_) (fun c_70 => ?_)
                    · refine zv_iload_n (j := 1) G dX9_sheet_77 rfl rfl ?_
                      refine zv_iload_n (j := 3) G dX9_sheet_78 rfl rfl ?_
                      refine zv_iload (j := 7) G dX9_sheet_79 rfl ?_
                      refine zv_iload (j := 4) G dX9_sheet_81 rfl ?_
                      refine zv_imul G dX9_sheet_83 ?_
                      refine zv_iadd G dX9_sheet_84 ?_
                      refine zv_callSi (as := [za_I a1, za_I (a3 + (y7_47 * a4))]) G (zc_X9_toldBySheet l E a1 (a3 + (y7_47 * a4)) σ ) zk_X9_toldBySheet zm_388 rfl ⟨(Nat.le_of_ble_eq_true rfl), (Nat.le_of_ble_eq_true rfl)⟩ ⟨Nat.zero_le _, Nat.zero_le _⟩ (Nat.le_of_ble_eq_true rfl) dX9_sheet_85 (fun r_85 σ h_85 => ?_)
                      subst h_85
                      refine zv_sub [0, 1, 2, 3, 4, 5, 6, 7] (lv' := [(0, za_O 0 0), (1, za_I a1), (2, za_I a2), (3, za_I a3), (4, za_I a4), (5, za_I s0_27), (6, za_I y6_47), (7, za_I y7_47)]) rfl ?_
                      exact J_88 r_85 σ hz
                    · refine zv_sub [0, 1, 2, 3, 4, 5, 6, 7] (lv' := [(0, za_O 0 0), (1, za_I a1), (2, za_I a2), (3, za_I a3), (4, za_I a4), (5, za_I s0_27), (6, za_I y6_47), (7, za_I y7_47)]) rfl ?_
                      exact J_73 σ hz
            refine zv_istore (lv' := [(7, za_I 0), (6, za_I 0), (5, za_I s0_27), (0, za_O 0 0), (1, za_I a1), (2, za_I a2), (3, za_I a3), (4, za_I a4)]) G dX9_sheet_45 (by decide) rfl ?_
            refine zv_sub [3, 4, 5, 6, 7, 2, 1, 0] (lv' := [(0, za_O 0 0), (1, za_I a1), (2, za_I a2), (3, za_I a3), (4, za_I a4), (5, za_I s0_27), (6, za_I 0), (7, za_I 0)]) rfl ?_
            exact J_47 _ (0 : Int32) (0 : Int32) σ hz (Nat.lt_succ_self _)
          · refine zv_iload_n (j := 3) G dX9_sheet_34 rfl rfl ?_
            refine zv_if_ge (tgt := 41) G dX9_sheet_35 (by decide) (fun c_35 => ?_) (fun c_35 => ?_)
            · refine zv_iconst (v := 0) G dX9_sheet_41 (by decide) ?_
              refine zv_istore (lv' := [(6, za_I 0), (5, za_I s0_27), (0, za_O 0 0), (1, za_I a1), (2, za_I a2), (3, za_I a3), (4, za_I a4)]) G dX9_sheet_42 (by decide) rfl ?_
              refine zv_iconst (v := 0) G dX9_sheet_44 (by decide) ?_
              have J_47 : ∀ (n : Nat) (y6_47 : Int32) (y7_47 : Int32) (σ : za_S) (hz : zc σ0 σ) (hn_47 : (2147483648 - y7_47.toInt).toNat < n), zV p l e (zRm 3 65) s m args below meth c E (za_A E) 9 0 0 (MQ below (va_Qi (fun r σ' => zc σ0 σ') (zB E) (za_A E)) args s 0 0 (za_A E)) 47 [(0, za_O 0 0), (1, za_I a1), (2, za_I a2), (3, za_I a3), (4, za_I a4), (5, za_I s0_27), (6, za_I y6_47), (7, za_I y7_47)] [] σ := by
                intro n
                induction n with
                | zero => intro y6_47 y7_47 σ hz hn; exact absurd hn (Nat.not_lt_zero _)
                | succ n ih_47 =>
                  intro y6_47 y7_47 σ hz hn_47
                  refine zv_iload (j := 7) G dX9_sheet_47 rfl ?_
                  refine zv_aload_n (j := 0) G dX9_sheet_49 rfl rfl ?_
                  refine zg_X9_10 G dX9_sheet_50 ?_
                  refine zg_X9_102 G dX9_sheet_53 ?_
                  refine zg_X9_106 G dX9_sheet_56 ?_
                  refine zv_icmp_ge (tgt := 118) G dX9_sheet_59 (by decide) (fun c_59 => ?_) (fun c_59 => ?_)
                  · refine zv_iload (j := 5) G dX9_sheet_118 rfl ?_
                    refine zv_if_eq (tgt := 128) G dX9_sheet_120 (by decide) (fun c_120 => ?_) (fun c_120 => ?_)
                    · refine zv_iload (j := 6) G dX9_sheet_128 rfl ?_
                      exact zv_iret G hr dX9_sheet_130 hz
                    · refine zv_bipush (v := (-3)) G dX9_sheet_123 (by decide) ?_
                      refine zv_goto (tgt := 130) G dX9_sheet_125 (by decide) ?_
                      exact zv_iret G hr dX9_sheet_130 hz
                  · refine zv_iload (j := 5) G dX9_sheet_62 rfl ?_
                    have J_88 : ∀ (s0_88 : Int32) (σ : za_S) (hz : zc σ0 σ), zV p l e (zRm 3 65) s m args below meth c E (za_A E) 9 0 0 (MQ below (va_Qi (fun r σ' => zc σ0 σ') (zB E) (za_A E)) args s 0 0 (za_A E)) 88 [(0, za_O 0 0), (1, za_I a1), (2, za_I a2), (3, za_I a3), (4, za_I a4), (5, za_I s0_27), (6, za_I y6_47), (7, za_I y7_47)] [za_I s0_88] σ := by
                      intro s0_88 σ hz
                      refine zv_istore (lv' := [(8, za_I s0_88), (0, za_O 0 0), (1, za_I a1), (2, za_I a2), (3, za_I a3), (4, za_I a4), (5, za_I s0_27), (6, za_I y6_47), (7, za_I y7_47)]) G dX9_sheet_88 (by decide) rfl ?_
                      refine zv_aload_n (j := 1) G dX9_sheet_90 rfl rfl ?_
                      refine zg_X9_10 G dX9_sheet_91 ?_
                      refine zg_X9_102 G dX9_sheet_94 ?_
                      refine zv_iload (j := 8) G dX9_sheet_97 rfl ?_
                      refine zv_iconst (v := 1) G dX9_sheet_99 (by decide) ?_
                      refine zv_iload (j := 0) G dX9_sheet_100 rfl ?_
                      refine zv_callVNv (as := [za_I y7_47, za_I 1, za_I s0_88]) G (by decide) rfl rfl (zc_X6_put l E 2 y7_47 (1 : Int32) s0_88 σ ) zk_X6_put zm_397 rfl ⟨(Nat.le_of_ble_eq_true rfl), (Nat.le_of_ble_eq_true rfl)⟩ ⟨Nat.zero_le _, Nat.zero_le _⟩ (Nat.le_of_ble_eq_true rfl) dX9_sheet_102 (fun σ h_102 => ?_)
                      have hz9 := h_102
                      have hz := zc_t hz hz9
                      refine zv_iload (j := 7) G dX9_sheet_105 rfl ?_
                      refine zv_iload (j := 0) G dX9_sheet_107 rfl ?_
                      refine zv_iadd G dX9_sheet_109 ?_
                      refine zv_top (fun x_110 e_110 => ?_)
                      refine zv_istore (lv' := [(6, za_I x_110), (8, za_I s0_88), (0, za_O 0 0), (1, za_I a1), (2, za_I a2), (3, za_I a3), (4, za_I a4), (5, za_I s0_27), (7, za_I y7_47)]) G dX9_sheet_110 (by decide) rfl ?_
                      obtain ⟨x_112, e_112⟩ : ∃ y : Int32, y = y7_47 + 1 := ⟨_, rfl⟩
                      refine zv_iinc (j := 8) (v := x_112) (lv' := [(7, za_I x_112), (6, za_I x_110), (8, za_I s0_88), (0, za_O 0 0), (1, za_I a1), (2, za_I a2), (3, za_I a3), (4, za_I a4), (5, za_I s0_27)]) G dX9_sheet_112 rfl (by rw [e_112]; rfl) (by decide) rfl ?_
                      refine zv_goto (tgt := 47) G dX9_sheet_115 (by decide) ?_
                      refine zv_sub [3, 4, 5, 6, 7, 8, 1, 0] (lv' := [(0, za_O 0 0), (1, za_I a1), (2, za_I a2), (3, za_I a3), (4, za_I a4), (5, za_I s0_27), (6, za_I x_110), (7, za_I x_112)]) rfl ?_
                      exact ih_47 x_110 x_112 σ hz (z_meas c_59 e_112 hn_47)
                    have J_73 : ∀  (σ : za_S) (hz : zc σ0 σ), zV p l e (zRm 3 65) s m args below meth c E (za_A E) 9 0 0 (MQ below (va_Qi (fun r σ' => zc σ0 σ') (zB E) (za_A E)) args s 0 0 (za_A E)) 73 [(0, za_O 0 0), (1, za_I a1), (2, za_I a2), (3, za_I a3), (4, za_I a4), (5, za_I s0_27), (6, za_I y6_47), (7, za_I y7_47)] [] σ := by
                      intro σ hz
                      refine zv_iconst (v := 0) G dX9_sheet_73 (by decide) ?_
                      refine zv_goto (tgt := 88) G dX9_sheet_74 (by decide) ?_
                      refine zv_sub [0, 1, 2, 3, 4, 5, 6, 7] (lv' := [(0, za_O 0 0), (1, za_I a1), (2, za_I a2), (3, za_I a3), (4, za_I a4), (5, za_I s0_27), (6, za_I y6_47), (7, za_I y7_47)]) rfl ?_
                      exact J_88 (0 : Int32) σ hz
                    refine zv_if_ne (tgt := 73) G dX9_sheet_64 (by decide) (fun c_64 => ?_) (fun c_64 => ?_)
                    · refine zv_sub [0, 1, 2, 3, 4, 5, 6, 7] (lv' := [(0, za_O 0 0), (1, za_I a1), (2, za_I a2), (3, za_I a3), (4, za_I a4), (5, za_I s0_27), (6, za_I y6_47), (7, za_I y7_47)]) rfl ?_
                      exact J_73 σ hz
                    · refine zv_iload (j := 7) G dX9_sheet_67 rfl ?_
                      refine zv_iload_n (j := 2) G dX9_sheet_69 rfl rfl ?_
                      refine zv_icmp_lt (tgt := 77) G dX9_sheet_70 (by decide) (fun c_70 => ?_) (fun c_70 => ?_)
                      · refine zv_iload_n (j := 1) G dX9_sheet_77 rfl rfl ?_
                        refine zv_iload_n (j := 3) G dX9_sheet_78 rfl rfl ?_
                        refine zv_iload (j := 7) G dX9_sheet_79 rfl ?_
                        refine zv_iload (j := 4) G dX9_sheet_81 rfl ?_
                        refine zv_imul G dX9_sheet_83 ?_
                        refine zv_iadd G dX9_sheet_84 ?_
                        refine zv_callSi (as := [za_I a1, za_I (a3 + (y7_47 * a4))]) G (zc_X9_toldBySheet l E a1 (a3 + (y7_47 * a4)) σ ) zk_X9_toldBySheet zm_388 rfl ⟨(Nat.le_of_ble_eq_true rfl), (Nat.le_of_ble_eq_true rfl)⟩ ⟨Nat.zero_le _, Nat.zero_le _⟩ (Nat.le_of_ble_eq_true rfl) dX9_sheet_85 (fun r_85 σ h_85 => ?_)
                        subst h_85
                        refine zv_sub [0, 1, 2, 3, 4, 5, 6, 7] (lv' := [(0, za_O 0 0), (1, za_I a1), (2, za_I a2), (3, za_I a3), (4, za_I a4), (5, za_I s0_27), (6, za_I y6_47), (7, za_I y7_47)]) rfl ?_
                        exact J_88 r_85 σ hz
                      · refine zv_sub [0, 1, 2, 3, 4, 5, 6, 7] (lv' := [(0, za_O 0 0), (1, za_I a1), (2, za_I a2), (3, za_I a3), (4, za_I a4), (5, za_I s0_27), (6, za_I y6_47), (7, za_I y7_47)]) rfl ?_
                        exact J_73 σ hz
              refine zv_istore (lv' := [(7, za_I 0), (6, za_I 0), (5, za_I s0_27), (0, za_O 0 0), (1, za_I a1), (2, za_I a2), (3, za_I a3), (4, za_I a4)]) G dX9_sheet_45 (by decide) rfl ?_
              refine zv_sub [3, 4, 5, 6, 7, 2, 1, 0] (lv' := [(0, za_O 0 0), (1, za_I a1), (2, za_I a2), (3, za_I a3), (4, za_I a4), (5, za_I s0_27), (6, za_I 0), (7, za_I 0)]) rfl ?_
              exact J_47 _ (0 : Int32) (0 : Int32) σ hz (Nat.lt_succ_self _)
            · refine zv_bipush (v := (-2)) G dX9_sheet_38 (by decide) ?_
              exact zv_iret G hr dX9_sheet_40 hz
        refine zv_icmp_ne (tgt := 26) G dX9_sheet_19 (by decide) (fun c_19 => ?_) (fun c_19 => ?_)
        · refine zv_iconst (v := 0) G dX9_sheet_26 (by decide) ?_
          refine zv_sub [0, 1, 2, 3, 4] (lv' := [(0, za_O 0 0), (1, za_I a1), (2, za_I a2), (3, za_I a3), (4, za_I a4)]) rfl ?_
          exact J_27 (0 : Int32) σ hz
        · refine zv_iconst (v := 1) G dX9_sheet_22 (by decide) ?_
          refine zv_goto (tgt := 27) G dX9_sheet_23 (by decide) ?_
          refine zv_sub [0, 1, 2, 3, 4] (lv' := [(0, za_O 0 0), (1, za_I a1), (2, za_I a2), (3, za_I a3), (4, za_I a4)]) rfl ?_
          exact J_27 (1 : Int32) σ hz
      · refine zv_iconst (v := (-1)) G dX9_sheet_15 (by decide) ?_
        exact zv_iret G hr dX9_sheet_16 hz
set_option maxHeartbeats 4000000 in
set_option maxRecDepth 100000 in
theorem zc_X2_slot (l : Launch) (E : za_E) (a1 : Int32) (σ : za_S)  : zMr l E yX2_slot cX2_slot 2 (Option.some (Jvm.ClassFile.FieldType.object "PeriodTables$State")) 2 43 [za_O 4 11, za_I a1] σ (fun r σ' => ∃ w', r = za_O 1 w' ∧ za_kd w' = 1 ∧ (∃ j, j < 11 ∧ w' = 13 + 5 * j) ∧ σ' = σ) := by
  refine zMr_of [(0, za_O 4 11), (1, za_I a1)] (by decide) rfl rfl (Nat.le_of_ble_eq_true rfl) ?_
  intro ho p e s m args below meth c G hr
  refine zv_aload_n (j := 0) G dX2_slot_0 rfl rfl ?_
  refine zg_X2_11 G dX2_slot_1 ?_
  refine zv_aload_n (j := 0) G dX2_slot_4 rfl rfl ?_
  refine zg_X2_16 G dX2_slot_5 ?_
  refine zv_iload_n (j := 1) G dX2_slot_8 rfl rfl ?_
  refine zv_iadd G dX2_slot_9 ?_
  refine zv_bipush (v := 11) G dX2_slot_10 (by decide) ?_
  refine zv_callSi (as := [za_I ((σ.1 11 1) + a1), za_I 11]) G (zc_J9_floorMod_7cf53 l E ((σ.1 11 1) + a1) σ ) zk_J9_floorMod_7cf53 zm_417 rfl ⟨(Nat.le_of_ble_eq_true rfl), (Nat.le_of_ble_eq_true rfl)⟩ ⟨Nat.zero_le _, Nat.zero_le _⟩ (Nat.le_of_ble_eq_true rfl) dX2_slot_12 (fun r_12 σ h_12 => ?_)
  obtain ⟨h_12, rfl⟩ := h_12
  refine zv_aald (kd2 := 1) (b := 13) (r := 5) G (by decide) (by decide) rfl (z_in h_12.1 h_12.2) (by decide +kernel) dX2_slot_15 ?_
  exact zv_aret G hr dX2_slot_16 (Or.inl ⟨_, rfl⟩) ⟨_, rfl, z_past h_12.1 h_12.2, z_past2 h_12.1 h_12.2, rfl⟩
set_option maxHeartbeats 4000000 in
set_option maxRecDepth 100000 in
theorem zc_X6_copyOf (l : Launch) (E : za_E) (w : Nat) (a1 : Nat) (σ0 : za_S)  : zMv l E yX6_copyOf cX6_copyOf 2 (Option.none : Option Jvm.ClassFile.FieldType) 1 60 [za_O 2 w, za_O 2 a1] σ0 (fun σ' => zc σ0 σ') := by
  refine zMv_of [(0, za_O 2 w), (1, za_O 2 a1)] (by decide) rfl rfl (Nat.le_of_ble_eq_true rfl) ?_
  intro ho p e s m args below meth c G hr
  have h_w : za_kd w = 2 := za_okO (by decide) (List.forall_mem_cons.mp ho).1
  have h_a1 : za_kd a1 = 2 := za_okO (by decide) (List.forall_mem_cons.mp (List.forall_mem_cons.mp ho).2).1
  refine zv_gen (R9 := zc σ0) (zc_r σ0) (fun σ hz => ?_)
  refine zv_aload_n (j := 1) G dX6_copyOf_0 rfl rfl ?_
  refine zg_X6_11 G dX6_copyOf_1 ?_
  refine zv_iconst (v := 0) G dX6_copyOf_4 (by decide) ?_
  refine zv_aload_n (j := 0) G dX6_copyOf_5 rfl rfl ?_
  refine zg_X6_11 G dX6_copyOf_6 ?_
  refine zv_iconst (v := 0) G dX6_copyOf_9 (by decide) ?_
  refine zv_aload_n (j := 0) G dX6_copyOf_10 rfl rfl ?_
  refine zg_X6_11 G dX6_copyOf_11 ?_
  refine zv_alen (t0 := 0) (v := 120) G (by decide) rfl rfl rfl dX6_copyOf_14 ?_
  refine zv_copy (n := 120) G zm_428 zm_430 zm_429 zm_148 (by decide) rfl rfl (fun _ => rfl) (Nat.le_of_ble_eq_true rfl) (Nat.le_of_ble_eq_true rfl) (by decide) (by decide) dX6_copyOf_15 ?_
  refine zv_gen (R9 := zc σ0) (zc_t hz (zc_rk3 (zr_2_1 h_w))) (fun σ hz => ?_)
  refine zv_aload_n (j := 0) G dX6_copyOf_18 rfl rfl ?_
  refine zv_aload_n (j := 1) G dX6_copyOf_19 rfl rfl ?_
  refine zg_X6_15 G dX6_copyOf_20 ?_
  refine zp_X6_15 G dX6_copyOf_23 ?_
  refine zv_gen (R9 := zc σ0) (zc_t hz (zc_k2 h_w)) (fun σ hz => ?_)
  exact zv_vret G hr dX6_copyOf_26 hz
set_option maxHeartbeats 4000000 in
set_option maxRecDepth 100000 in
theorem zc_X4_copyOf (l : Launch) (E : za_E) (w : Nat) (a1 : Nat) (σ0 : za_S)  : zMv l E yX4_copyOf cX4_copyOf 2 (Option.none : Option Jvm.ClassFile.FieldType) 2 81 [za_O 1 w, za_O 1 a1] σ0 (fun σ' => zc σ0 σ') := by
  refine zMv_of [(0, za_O 1 w), (1, za_O 1 a1)] (by decide) rfl rfl (Nat.le_of_ble_eq_true rfl) ?_
  intro ho p e s m args below meth c G hr
  have h_w : za_kd w = 1 := za_okO (by decide) (List.forall_mem_cons.mp ho).1
  have h_a1 : za_kd a1 = 1 := za_okO (by decide) (List.forall_mem_cons.mp (List.forall_mem_cons.mp ho).2).1
  refine zv_gen (R9 := zc σ0) (zc_r σ0) (fun σ hz => ?_)
  refine zv_aload_n (j := 0) G dX4_copyOf_0 rfl rfl ?_
  refine zg_X4_12 G dX4_copyOf_1 ?_
  refine zv_aload_n (j := 1) G dX4_copyOf_4 rfl rfl ?_
  refine zg_X4_12 G dX4_copyOf_5 ?_
  refine zv_callVNv (as := [za_O 2 (a1 + 1)]) G (by decide) rfl rfl (zc_X6_copyOf l E (w + 1) (a1 + 1) σ ) zk_X6_copyOf zm_424 rfl ⟨(Nat.le_of_ble_eq_true rfl), (Nat.le_of_ble_eq_true rfl)⟩ ⟨Nat.zero_le _, Nat.zero_le _⟩ (Nat.le_of_ble_eq_true rfl) dX4_copyOf_8 (fun σ h_8 => ?_)
  have hz9 := h_8
  have hz := zc_t hz hz9
  refine zv_aload_n (j := 0) G dX4_copyOf_11 rfl rfl ?_
  refine zg_X4_18 G dX4_copyOf_12 ?_
  refine zv_aload_n (j := 1) G dX4_copyOf_15 rfl rfl ?_
  refine zg_X4_18 G dX4_copyOf_16 ?_
  refine zv_callVNv (as := [za_O 2 (a1 + 3)]) G (by decide) rfl rfl (zc_X6_copyOf l E (w + 3) (a1 + 3) σ ) zk_X6_copyOf zm_424 rfl ⟨(Nat.le_of_ble_eq_true rfl), (Nat.le_of_ble_eq_true rfl)⟩ ⟨Nat.zero_le _, Nat.zero_le _⟩ (Nat.le_of_ble_eq_true rfl) dX4_copyOf_19 (fun σ h_19 => ?_)
  have hz9 := h_19
  have hz := zc_t hz hz9
  refine zv_aload_n (j := 0) G dX4_copyOf_22 rfl rfl ?_
  refine zv_aload_n (j := 1) G dX4_copyOf_23 rfl rfl ?_
  refine zg_X4_25 G dX4_copyOf_24 ?_
  refine zp_X4_25 G dX4_copyOf_27 ?_
  refine zv_gen (R9 := zc σ0) (zc_t hz (zc_k1 h_w)) (fun σ hz => ?_)
  exact zv_vret G hr dX4_copyOf_30 hz
set_option maxHeartbeats 4000000 in
set_option maxRecDepth 100000 in
theorem zc_X2_prepare (l : Launch) (E : za_E) (a1 : Nat) (σ0 : za_S)  : zMv l E yX2_prepare cX2_prepare 2 (Option.none : Option Jvm.ClassFile.FieldType) 3 102 [za_O 4 11, za_O 1 a1] σ0 (fun σ' => zc σ0 σ') := by
  refine zMv_of [(0, za_O 4 11), (1, za_O 1 a1)] (by decide) rfl rfl (Nat.le_of_ble_eq_true rfl) ?_
  intro ho p e s m args below meth c G hr
  have h_a1 : za_kd a1 = 1 := za_okO (by decide) (List.forall_mem_cons.mp (List.forall_mem_cons.mp ho).2).1
  refine zv_gen (R9 := zc σ0) (zc_r σ0) (fun σ hz => ?_)
  refine zv_aload_n (j := 0) G dX2_prepare_0 rfl rfl ?_
  refine zv_aload_n (j := 0) G dX2_prepare_1 rfl rfl ?_
  refine zg_X2_26 G dX2_prepare_2 ?_
  refine zv_callVr (as := [za_I (σ.1 11 2)]) G (by decide) rfl rfl (zc_X2_slot l E (σ.1 11 2) σ ) zk_X2_slot zm_413 rfl ⟨(Nat.le_of_ble_eq_true rfl), (Nat.le_of_ble_eq_true rfl)⟩ ⟨Nat.zero_le _, Nat.zero_le _⟩ (Nat.le_of_ble_eq_true rfl) dX2_prepare_5 (fun r_5 σ h_5 => ?_)
  obtain ⟨w_5, rfl, h_w_5, t_5, rfl⟩ := h_5
  refine zv_aload_n (j := 1) G dX2_prepare_8 rfl rfl ?_
  refine zv_callVNv (as := [za_O 1 a1]) G (by decide) rfl rfl (zc_X4_copyOf l E w_5 a1 σ ) zk_X4_copyOf zm_420 rfl ⟨(Nat.le_of_ble_eq_true rfl), (Nat.le_of_ble_eq_true rfl)⟩ ⟨Nat.zero_le _, Nat.zero_le _⟩ (Nat.le_of_ble_eq_true rfl) dX2_prepare_9 (fun σ h_9 => ?_)
  have hz9 := h_9
  have hz := zc_t hz hz9
  exact zv_vret G hr dX2_prepare_12 hz
set_option maxHeartbeats 4000000 in
set_option maxRecDepth 100000 in
theorem zc_X9_isTable (l : Launch) (E : za_E) (a1 : Int32) (σ : za_S)  : zMi l E yX9_isTable cX9_isTable 1 (Option.some Jvm.ClassFile.FieldType.boolean) 1 21 [za_I a1] σ (fun r σ' => (r = 0 ∨ r = 1) ∧ σ' = σ) := by
  refine zMi_of [(0, za_I a1)] (by decide) rfl rfl (Nat.le_of_ble_eq_true rfl) ?_
  intro ho p e s m args below meth c G hr
  refine zv_iload_n (j := 0) G dX9_isTable_0 rfl rfl ?_
  refine zv_if_eq (tgt := 9) G dX9_isTable_1 (by decide) (fun c_1 => ?_) (fun c_1 => ?_)
  · refine zv_iconst (v := 1) G dX9_isTable_9 (by decide) ?_
    refine zv_goto (tgt := 14) G dX9_isTable_10 (by decide) ?_
    exact zv_zret G hr dX9_isTable_14 (by decide) ⟨(Or.inr rfl), rfl⟩
  · refine zv_iload_n (j := 0) G dX9_isTable_4 rfl rfl ?_
    refine zv_iconst (v := 1) G dX9_isTable_5 (by decide) ?_
    refine zv_icmp_ne (tgt := 13) G dX9_isTable_6 (by decide) (fun c_6 => ?_) (fun c_6 => ?_)
    · refine zv_iconst (v := 0) G dX9_isTable_13 (by decide) ?_
      exact zv_zret G hr dX9_isTable_14 (by decide) ⟨(Or.inl rfl), rfl⟩
    · refine zv_iconst (v := 1) G dX9_isTable_9 (by decide) ?_
      refine zv_goto (tgt := 14) G dX9_isTable_10 (by decide) ?_
      exact zv_zret G hr dX9_isTable_14 (by decide) ⟨(Or.inr rfl), rfl⟩
set_option maxHeartbeats 4000000 in
set_option maxRecDepth 100000 in
theorem zc_X9_isKey (l : Launch) (E : za_E) (a1 : Int32) (σ : za_S)  : zMi l E yX9_isKey cX9_isKey 1 (Option.some Jvm.ClassFile.FieldType.boolean) 1 21 [za_I a1] σ (fun r σ' => (r = 0 ∨ r = 1) ∧ σ' = σ) := by
  refine zMi_of [(0, za_I a1)] (by decide) rfl rfl (Nat.le_of_ble_eq_true rfl) ?_
  intro ho p e s m args below meth c G hr
  refine zv_iload_n (j := 0) G dX9_isKey_0 rfl rfl ?_
  refine zv_if_lt (tgt := 14) G dX9_isKey_1 (by decide) (fun c_1 => ?_) (fun c_1 => ?_)
  · refine zv_iconst (v := 0) G dX9_isKey_14 (by decide) ?_
    exact zv_zret G hr dX9_isKey_15 (by decide) ⟨(Or.inl rfl), rfl⟩
  · refine zv_iload_n (j := 0) G dX9_isKey_4 rfl rfl ?_
    refine zv_bipush (v := 10) G dX9_isKey_5 (by decide) ?_
    refine zv_icmp_ge (tgt := 14) G dX9_isKey_7 (by decide) (fun c_7 => ?_) (fun c_7 => ?_)
    · refine zv_iconst (v := 0) G dX9_isKey_14 (by decide) ?_
      exact zv_zret G hr dX9_isKey_15 (by decide) ⟨(Or.inl rfl), rfl⟩
    · refine zv_iconst (v := 1) G dX9_isKey_10 (by decide) ?_
      refine zv_goto (tgt := 15) G dX9_isKey_11 (by decide) ?_
      exact zv_zret G hr dX9_isKey_15 (by decide) ⟨(Or.inr rfl), rfl⟩
set_option maxHeartbeats 4000000 in
set_option maxRecDepth 100000 in
theorem zc_X9_isDay (l : Launch) (E : za_E) (a1 : Int32) (σ : za_S)  : zMi l E yX9_isDay cX9_isDay 1 (Option.some Jvm.ClassFile.FieldType.boolean) 1 21 [za_I a1] σ (fun r σ' => ((r = 0 ∨ r = 1) ∧ (¬ r = 0 → 0 ≤ a1.toInt ∧ a1.toInt < 100)) ∧ σ' = σ) := by
  refine zMi_of [(0, za_I a1)] (by decide) rfl rfl (Nat.le_of_ble_eq_true rfl) ?_
  intro ho p e s m args below meth c G hr
  refine zv_iload_n (j := 0) G dX9_isDay_0 rfl rfl ?_
  refine zv_if_lt (tgt := 14) G dX9_isDay_1 (by decide) (fun c_1 => ?_) (fun c_1 => ?_)
  · refine zv_iconst (v := 0) G dX9_isDay_14 (by decide) ?_
    exact zv_zret G hr dX9_isDay_15 (by decide) ⟨⟨Or.inl rfl, fun h => absurd rfl h⟩, rfl⟩
  · refine zv_iload_n (j := 0) G dX9_isDay_4 rfl rfl ?_
    refine zv_bipush (v := 100) G dX9_isDay_5 (by decide) ?_
    refine zv_icmp_ge (tgt := 14) G dX9_isDay_7 (by decide) (fun c_7 => ?_) (fun c_7 => ?_)
    · refine zv_iconst (v := 0) G dX9_isDay_14 (by decide) ?_
      exact zv_zret G hr dX9_isDay_15 (by decide) ⟨⟨Or.inl rfl, fun h => absurd rfl h⟩, rfl⟩
    · refine zv_iconst (v := 1) G dX9_isDay_10 (by decide) ?_
      refine zv_goto (tgt := 15) G dX9_isDay_11 (by decide) ?_
      exact zv_zret G hr dX9_isDay_15 (by decide) ⟨⟨Or.inr rfl, fun _ => ⟨z_ge0 c_1, z_ltk c_7 (n := 100) rfl⟩⟩, rfl⟩
set_option maxHeartbeats 4000000 in
set_option maxRecDepth 100000 in
theorem zc_X9_isPeriod (l : Launch) (E : za_E) (a1 : Int32) (a2 : Int32) (σ : za_S)  : zMi l E yX9_isPeriod cX9_isPeriod 2 (Option.some Jvm.ClassFile.FieldType.boolean) 2 41 [za_I a1, za_I a2] σ (fun r σ' => (r = 0 ∨ r = 1) ∧ σ' = σ) := by
  refine zMi_of [(0, za_I a1), (1, za_I a2)] (by decide) rfl rfl (Nat.le_of_ble_eq_true rfl) ?_
  intro ho p e s m args below meth c G hr
  refine zv_iload_n (j := 0) G dX9_isPeriod_0 rfl rfl ?_
  refine zv_callSi (as := [za_I a1]) G (zc_X9_isDay l E a1 σ ) zk_X9_isDay zm_447 rfl ⟨(Nat.le_of_ble_eq_true rfl), (Nat.le_of_ble_eq_true rfl)⟩ ⟨Nat.zero_le _, Nat.zero_le _⟩ (Nat.le_of_ble_eq_true rfl) dX9_isPeriod_1 (fun r_1 σ h_1 => ?_)
  obtain ⟨h_1, rfl⟩ := h_1
  refine zv_if_eq (tgt := 22) G dX9_isPeriod_4 (by decide) (fun c_4 => ?_) (fun c_4 => ?_)
  · refine zv_iconst (v := 0) G dX9_isPeriod_22 (by decide) ?_
    exact zv_zret G hr dX9_isPeriod_23 (by decide) ⟨(Or.inl rfl), rfl⟩
  · refine zv_iload_n (j := 1) G dX9_isPeriod_7 rfl rfl ?_
    refine zv_iload_n (j := 0) G dX9_isPeriod_8 rfl rfl ?_
    refine zv_icmp_le (tgt := 22) G dX9_isPeriod_9 (by decide) (fun c_9 => ?_) (fun c_9 => ?_)
    · refine zv_iconst (v := 0) G dX9_isPeriod_22 (by decide) ?_
      exact zv_zret G hr dX9_isPeriod_23 (by decide) ⟨(Or.inl rfl), rfl⟩
    · refine zv_iload_n (j := 1) G dX9_isPeriod_12 rfl rfl ?_
      refine zv_bipush (v := 100) G dX9_isPeriod_13 (by decide) ?_
      refine zv_icmp_gt (tgt := 22) G dX9_isPeriod_15 (by decide) (fun c_15 => ?_) (fun c_15 => ?_)
      · refine zv_iconst (v := 0) G dX9_isPeriod_22 (by decide) ?_
        exact zv_zret G hr dX9_isPeriod_23 (by decide) ⟨(Or.inl rfl), rfl⟩
      · refine zv_iconst (v := 1) G dX9_isPeriod_18 (by decide) ?_
        refine zv_goto (tgt := 23) G dX9_isPeriod_19 (by decide) ?_
        exact zv_zret G hr dX9_isPeriod_23 (by decide) ⟨(Or.inr rfl), rfl⟩
set_option maxHeartbeats 4000000 in
set_option maxRecDepth 100000 in
theorem zc_X9_isPortion (l : Launch) (E : za_E) (a1 : Int32) (a2 : Int32) (a3 : Int32) (a4 : Int32) (σ : za_S)  : zMi l E yX9_isPortion cX9_isPortion 4 (Option.some Jvm.ClassFile.FieldType.boolean) 3 62 [za_I a1, za_I a2, za_I a3, za_I a4] σ (fun r σ' => (r = 0 ∨ r = 1) ∧ σ' = σ) := by
  refine zMi_of [(0, za_I a1), (1, za_I a2), (2, za_I a3), (3, za_I a4)] (by decide) rfl rfl (Nat.le_of_ble_eq_true rfl) ?_
  intro ho p e s m args below meth c G hr
  refine zv_iload_n (j := 0) G dX9_isPortion_0 rfl rfl ?_
  refine zv_callSi (as := [za_I a1]) G (zc_X9_isTable l E a1 σ ) zk_X9_isTable zm_438 rfl ⟨(Nat.le_of_ble_eq_true rfl), (Nat.le_of_ble_eq_true rfl)⟩ ⟨Nat.zero_le _, Nat.zero_le _⟩ (Nat.le_of_ble_eq_true rfl) dX9_isPortion_1 (fun r_1 σ h_1 => ?_)
  obtain ⟨h_1, rfl⟩ := h_1
  refine zv_if_eq (tgt := 26) G dX9_isPortion_4 (by decide) (fun c_4 => ?_) (fun c_4 => ?_)
  · refine zv_iconst (v := 0) G dX9_isPortion_26 (by decide) ?_
    exact zv_zret G hr dX9_isPortion_27 (by decide) ⟨(Or.inl rfl), rfl⟩
  · refine zv_iload_n (j := 1) G dX9_isPortion_7 rfl rfl ?_
    refine zv_callSi (as := [za_I a2]) G (zc_X9_isKey l E a2 σ ) zk_X9_isKey zm_441 rfl ⟨(Nat.le_of_ble_eq_true rfl), (Nat.le_of_ble_eq_true rfl)⟩ ⟨Nat.zero_le _, Nat.zero_le _⟩ (Nat.le_of_ble_eq_true rfl) dX9_isPortion_8 (fun r_8 σ h_8 => ?_)
    obtain ⟨h_8, rfl⟩ := h_8
    refine zv_if_eq (tgt := 26) G dX9_isPortion_11 (by decide) (fun c_11 => ?_) (fun c_11 => ?_)
    · refine zv_iconst (v := 0) G dX9_isPortion_26 (by decide) ?_
      exact zv_zret G hr dX9_isPortion_27 (by decide) ⟨(Or.inl rfl), rfl⟩
    · refine zv_iload_n (j := 2) G dX9_isPortion_14 rfl rfl ?_
      refine zv_iload_n (j := 3) G dX9_isPortion_15 rfl rfl ?_
      refine zv_callSi (as := [za_I a3, za_I a4]) G (zc_X9_isPeriod l E a3 a4 σ ) zk_X9_isPeriod zm_444 rfl ⟨(Nat.le_of_ble_eq_true rfl), (Nat.le_of_ble_eq_true rfl)⟩ ⟨Nat.zero_le _, Nat.zero_le _⟩ (Nat.le_of_ble_eq_true rfl) dX9_isPortion_16 (fun r_16 σ h_16 => ?_)
      obtain ⟨h_16, rfl⟩ := h_16
      refine zv_if_eq (tgt := 26) G dX9_isPortion_19 (by decide) (fun c_19 => ?_) (fun c_19 => ?_)
      · refine zv_iconst (v := 0) G dX9_isPortion_26 (by decide) ?_
        exact zv_zret G hr dX9_isPortion_27 (by decide) ⟨(Or.inl rfl), rfl⟩
      · refine zv_iconst (v := 1) G dX9_isPortion_22 (by decide) ?_
        refine zv_goto (tgt := 27) G dX9_isPortion_23 (by decide) ?_
        exact zv_zret G hr dX9_isPortion_27 (by decide) ⟨(Or.inr rfl), rfl⟩
set_option maxHeartbeats 4000000 in
set_option maxRecDepth 100000 in
theorem zc_X9_isValue (l : Launch) (E : za_E) (a1 : Int32) (σ : za_S)  : zMi l E yX9_isValue cX9_isValue 1 (Option.some Jvm.ClassFile.FieldType.boolean) 1 21 [za_I a1] σ (fun r σ' => (r = 0 ∨ r = 1) ∧ σ' = σ) := by
  refine zMi_of [(0, za_I a1)] (by decide) rfl rfl (Nat.le_of_ble_eq_true rfl) ?_
  intro ho p e s m args below meth c G hr
  refine zv_iload_n (j := 0) G dX9_isValue_0 rfl rfl ?_
  refine zv_if_lt (tgt := 14) G dX9_isValue_1 (by decide) (fun c_1 => ?_) (fun c_1 => ?_)
  · refine zv_iconst (v := 0) G dX9_isValue_14 (by decide) ?_
    exact zv_zret G hr dX9_isValue_15 (by decide) ⟨(Or.inl rfl), rfl⟩
  · refine zv_iload_n (j := 0) G dX9_isValue_4 rfl rfl ?_
    refine zv_bipush (v := 100) G dX9_isValue_5 (by decide) ?_
    refine zv_icmp_ge (tgt := 14) G dX9_isValue_7 (by decide) (fun c_7 => ?_) (fun c_7 => ?_)
    · refine zv_iconst (v := 0) G dX9_isValue_14 (by decide) ?_
      exact zv_zret G hr dX9_isValue_15 (by decide) ⟨(Or.inl rfl), rfl⟩
    · refine zv_iconst (v := 1) G dX9_isValue_10 (by decide) ?_
      refine zv_goto (tgt := 15) G dX9_isValue_11 (by decide) ?_
      exact zv_zret G hr dX9_isValue_15 (by decide) ⟨(Or.inr rfl), rfl⟩
set_option maxHeartbeats 4000000 in
set_option maxRecDepth 100000 in
theorem zc_X4_table (l : Launch) (E : za_E) (w : Nat) (a1 : Int32) (σ : za_S)  : zMr l E yX4_table cX4_table 2 (Option.some (Jvm.ClassFile.FieldType.object "PeriodTables$Table")) 1 21 [za_O 1 w, za_I a1] σ (fun r σ' => ∃ w', r = za_O 2 w' ∧ za_kd w' = 2 ∧ (w' = w + 1 ∨ w' = w + 3) ∧ σ' = σ) := by
  refine zMr_of [(0, za_O 1 w), (1, za_I a1)] (by decide) rfl rfl (Nat.le_of_ble_eq_true rfl) ?_
  intro ho p e s m args below meth c G hr
  have h_w : za_kd w = 1 := za_okO (by decide) (List.forall_mem_cons.mp ho).1
  refine zv_iload_n (j := 1) G dX4_table_0 rfl rfl ?_
  refine zv_if_ne (tgt := 11) G dX4_table_1 (by decide) (fun c_1 => ?_) (fun c_1 => ?_)
  · refine zv_aload_n (j := 0) G dX4_table_11 rfl rfl ?_
    refine zg_X4_18 G dX4_table_12 ?_
    exact zv_aret G hr dX4_table_15 (Or.inl ⟨_, rfl⟩) ⟨_, rfl, zr_1_3 h_w, Or.inr rfl, rfl⟩
  · refine zv_aload_n (j := 0) G dX4_table_4 rfl rfl ?_
    refine zg_X4_12 G dX4_table_5 ?_
    refine zv_goto (tgt := 15) G dX4_table_8 (by decide) ?_
    exact zv_aret G hr dX4_table_15 (Or.inl ⟨_, rfl⟩) ⟨_, rfl, zr_1_1 h_w, Or.inl rfl, rfl⟩
set_option maxHeartbeats 4000000 in
set_option maxRecDepth 100000 in
theorem zc_X6_cell (l : Launch) (E : za_E) (w : Nat) (a1 : Int32) (a2 : Int32) (σ : za_S)  : zMi l E yX6_cell cX6_cell 3 (Option.some Jvm.ClassFile.FieldType.int) 2 42 [za_O 2 w, za_I a1, za_I a2] σ (fun r σ' => σ' = σ) := by
  refine zMi_of [(0, za_O 2 w), (1, za_I a1), (2, za_I a2)] (by decide) rfl rfl (Nat.le_of_ble_eq_true rfl) ?_
  intro ho p e s m args below meth c G hr
  have h_w : za_kd w = 2 := za_okO (by decide) (List.forall_mem_cons.mp ho).1
  refine zv_aload_n (j := 0) G dX6_cell_0 rfl rfl ?_
  refine zv_iload_n (j := 1) G dX6_cell_1 rfl rfl ?_
  refine zv_callVi (as := [za_I a1]) G (by decide) rfl rfl (zc_X6_has l E w a1 σ ) zk_X6_has zm_401 rfl ⟨(Nat.le_of_ble_eq_true rfl), (Nat.le_of_ble_eq_true rfl)⟩ ⟨Nat.zero_le _, Nat.zero_le _⟩ (Nat.le_of_ble_eq_true rfl) dX6_cell_2 (fun r_2 σ h_2 => ?_)
  obtain ⟨h_2, rfl⟩ := h_2
  refine zv_if_eq (tgt := 30) G dX6_cell_5 (by decide) (fun c_5 => ?_) (fun c_5 => ?_)
  · refine zv_iconst (v := 0) G dX6_cell_30 (by decide) ?_
    exact zv_iret G hr dX6_cell_31 rfl
  · refine zv_iload_n (j := 2) G dX6_cell_8 rfl rfl ?_
    refine zv_if_lt (tgt := 30) G dX6_cell_9 (by decide) (fun c_9 => ?_) (fun c_9 => ?_)
    · refine zv_iconst (v := 0) G dX6_cell_30 (by decide) ?_
      exact zv_iret G hr dX6_cell_31 rfl
    · refine zv_iload_n (j := 2) G dX6_cell_12 rfl rfl ?_
      refine zv_iconst (v := 5) G dX6_cell_13 (by decide) ?_
      refine zv_icmp_ge (tgt := 30) G dX6_cell_14 (by decide) (fun c_14 => ?_) (fun c_14 => ?_)
      · refine zv_iconst (v := 0) G dX6_cell_30 (by decide) ?_
        exact zv_iret G hr dX6_cell_31 rfl
      · refine zv_aload_n (j := 0) G dX6_cell_17 rfl rfl ?_
        refine zg_X6_11 G dX6_cell_18 ?_
        refine zv_iload_n (j := 1) G dX6_cell_21 rfl rfl ?_
        refine zv_iconst (v := 5) G dX6_cell_22 (by decide) ?_
        refine zv_imul G dX6_cell_23 ?_
        refine zv_iload_n (j := 2) G dX6_cell_24 rfl rfl ?_
        refine zv_iadd G dX6_cell_25 ?_
        refine zv_iald G (by decide) rfl (z_cell (h_2.2 c_5).1 (h_2.2 c_5).2 (z_ge0 c_9) (z_ltk c_14 (n := 5) rfl)) dX6_cell_26 ?_
        refine zv_goto (tgt := 31) G dX6_cell_27 (by decide) ?_
        exact zv_iret G hr dX6_cell_31 rfl
set_option maxHeartbeats 4000000 in
set_option maxRecDepth 100000 in
theorem zc_X6_daysOfRowWithin (l : Launch) (E : za_E) (w : Nat) (a1 : Int32) (a2 : Int32) (a3 : Int32) (σ : za_S)  : zMi l E yX6_daysOfRowWithin cX6_daysOfRowWithin 4 (Option.some Jvm.ClassFile.FieldType.int) 3 64 [za_O 2 w, za_I a1, za_I a2, za_I a3] σ (fun r σ' => σ' = σ) := by
  refine zMi_of [(0, za_O 2 w), (1, za_I a1), (2, za_I a2), (3, za_I a3)] (by decide) rfl rfl (Nat.le_of_ble_eq_true rfl) ?_
  intro ho p e s m args below meth c G hr
  have h_w : za_kd w = 2 := za_okO (by decide) (List.forall_mem_cons.mp ho).1
  refine zv_iconst (v := 0) G dX6_daysOfRowWithin_0 (by decide) ?_
  refine zv_iload_n (j := 3) G dX6_daysOfRowWithin_1 rfl rfl ?_
  refine zv_aload_n (j := 0) G dX6_daysOfRowWithin_2 rfl rfl ?_
  refine zv_iload_n (j := 1) G dX6_daysOfRowWithin_3 rfl rfl ?_
  refine zv_iconst (v := 3) G dX6_daysOfRowWithin_4 (by decide) ?_
  refine zv_callVi (as := [za_I a1, za_I 3]) G (by decide) rfl rfl (zc_X6_cell l E w a1 (3 : Int32) σ ) zk_X6_cell zm_465 rfl ⟨(Nat.le_of_ble_eq_true rfl), (Nat.le_of_ble_eq_true rfl)⟩ ⟨Nat.zero_le _, Nat.zero_le _⟩ (Nat.le_of_ble_eq_true rfl) dX6_daysOfRowWithin_5 (fun r_5 σ h_5 => ?_)
  subst h_5
  refine zv_mmin G zm_473 zm_392 zm_147 zm_393 (Nat.le_of_ble_eq_true rfl) (Nat.le_of_ble_eq_true rfl) (Nat.zero_le _) (Nat.zero_le _) dX6_daysOfRowWithin_8 ?_
  refine zv_top (fun x_8 e_8 => ?_)
  refine zv_iload_n (j := 2) G dX6_daysOfRowWithin_11 rfl rfl ?_
  refine zv_aload_n (j := 0) G dX6_daysOfRowWithin_12 rfl rfl ?_
  refine zv_iload_n (j := 1) G dX6_daysOfRowWithin_13 rfl rfl ?_
  refine zv_iconst (v := 2) G dX6_daysOfRowWithin_14 (by decide) ?_
  refine zv_callVi (as := [za_I a1, za_I 2]) G (by decide) rfl rfl (zc_X6_cell l E w a1 (2 : Int32) σ ) zk_X6_cell zm_465 rfl ⟨(Nat.le_of_ble_eq_true rfl), (Nat.le_of_ble_eq_true rfl)⟩ ⟨Nat.zero_le _, Nat.zero_le _⟩ (Nat.le_of_ble_eq_true rfl) dX6_daysOfRowWithin_15 (fun r_15 σ h_15 => ?_)
  subst h_15
  refine zv_mmax G zm_474 zm_395 zm_147 zm_396 (Nat.le_of_ble_eq_true rfl) (Nat.le_of_ble_eq_true rfl) (Nat.zero_le _) (Nat.zero_le _) dX6_daysOfRowWithin_18 ?_
  refine zv_top (fun x_18 e_18 => ?_)
  refine zv_isub G dX6_daysOfRowWithin_21 ?_
  refine zv_mmax G zm_474 zm_395 zm_147 zm_396 (Nat.le_of_ble_eq_true rfl) (Nat.le_of_ble_eq_true rfl) (Nat.zero_le _) (Nat.zero_le _) dX6_daysOfRowWithin_22 ?_
  refine zv_top (fun x_22 e_22 => ?_)
  exact zv_iret G hr dX6_daysOfRowWithin_25 rfl
set_option maxHeartbeats 4000000 in
set_option maxRecDepth 100000 in
theorem zc_X6_touches (l : Launch) (E : za_E) (w : Nat) (a1 : Int32) (a2 : Int32) (a3 : Int32) (a4 : Int32) (σ : za_S)  : zMi l E yX6_touches cX6_touches 5 (Option.some Jvm.ClassFile.FieldType.boolean) 4 87 [za_O 2 w, za_I a1, za_I a2, za_I a3, za_I a4] σ (fun r σ' => (r = 0 ∨ r = 1) ∧ σ' = σ) := by
  refine zMi_of [(0, za_O 2 w), (1, za_I a1), (2, za_I a2), (3, za_I a3), (4, za_I a4)] (by decide) rfl rfl (Nat.le_of_ble_eq_true rfl) ?_
  intro ho p e s m args below meth c G hr
  have h_w : za_kd w = 2 := za_okO (by decide) (List.forall_mem_cons.mp ho).1
  refine zv_aload_n (j := 0) G dX6_touches_0 rfl rfl ?_
  refine zv_iload_n (j := 1) G dX6_touches_1 rfl rfl ?_
  refine zv_iconst (v := 0) G dX6_touches_2 (by decide) ?_
  refine zv_callVi (as := [za_I a1, za_I 0]) G (by decide) rfl rfl (zc_X6_cell l E w a1 (0 : Int32) σ ) zk_X6_cell zm_465 rfl ⟨(Nat.le_of_ble_eq_true rfl), (Nat.le_of_ble_eq_true rfl)⟩ ⟨Nat.zero_le _, Nat.zero_le _⟩ (Nat.le_of_ble_eq_true rfl) dX6_touches_3 (fun r_3 σ h_3 => ?_)
  subst h_3
  refine zv_iload_n (j := 2) G dX6_touches_6 rfl rfl ?_
  refine zv_icmp_ne (tgt := 25) G dX6_touches_7 (by decide) (fun c_7 => ?_) (fun c_7 => ?_)
  · refine zv_iconst (v := 0) G dX6_touches_25 (by decide) ?_
    exact zv_zret G hr dX6_touches_26 (by decide) ⟨(Or.inl rfl), rfl⟩
  · refine zv_aload_n (j := 0) G dX6_touches_10 rfl rfl ?_
    refine zv_iload_n (j := 1) G dX6_touches_11 rfl rfl ?_
    refine zv_iload_n (j := 3) G dX6_touches_12 rfl rfl ?_
    refine zv_iload (j := 4) G dX6_touches_13 rfl ?_
    refine zv_callVi (as := [za_I a1, za_I a3, za_I a4]) G (by decide) rfl rfl (zc_X6_daysOfRowWithin l E w a1 a3 a4 σ ) zk_X6_daysOfRowWithin zm_469 rfl ⟨(Nat.le_of_ble_eq_true rfl), (Nat.le_of_ble_eq_true rfl)⟩ ⟨Nat.zero_le _, Nat.zero_le _⟩ (Nat.le_of_ble_eq_true rfl) dX6_touches_15 (fun r_15 σ h_15 => ?_)
    subst h_15
    refine zv_if_le (tgt := 25) G dX6_touches_18 (by decide) (fun c_18 => ?_) (fun c_18 => ?_)
    · refine zv_iconst (v := 0) G dX6_touches_25 (by decide) ?_
      exact zv_zret G hr dX6_touches_26 (by decide) ⟨(Or.inl rfl), rfl⟩
    · refine zv_iconst (v := 1) G dX6_touches_21 (by decide) ?_
      refine zv_goto (tgt := 26) G dX6_touches_22 (by decide) ?_
      exact zv_zret G hr dX6_touches_26 (by decide) ⟨(Or.inr rfl), rfl⟩
set_option maxHeartbeats 4000000 in
set_option maxRecDepth 100000 in
theorem zc_X6_touching (l : Launch) (E : za_E) (w : Nat) (a1 : Int32) (a2 : Int32) (a3 : Int32) (σ : za_S)  : zMi l E yX6_touching cX6_touching 6 (Option.some Jvm.ClassFile.FieldType.int) 5 111 [za_O 2 w, za_I a1, za_I a2, za_I a3] σ (fun r σ' => σ' = σ) := by
  refine zMi_of [(0, za_O 2 w), (1, za_I a1), (2, za_I a2), (3, za_I a3)] (by decide) rfl rfl (Nat.le_of_ble_eq_true rfl) ?_
  intro ho p e s m args below meth c G hr
  have h_w : za_kd w = 2 := za_okO (by decide) (List.forall_mem_cons.mp ho).1
  refine zv_iconst (v := 0) G dX6_touching_0 (by decide) ?_
  refine zv_istore (lv' := [(4, za_I 0), (0, za_O 2 w), (1, za_I a1), (2, za_I a2), (3, za_I a3)]) G dX6_touching_1 (by decide) rfl ?_
  refine zv_iconst (v := 0) G dX6_touching_3 (by decide) ?_
  have J_6 : ∀ (n : Nat) (y4_6 : Int32) (y5_6 : Int32) (hn_6 : (2147483648 - y5_6.toInt).toNat < n), zV p l e (zRm 5 111) s m args below meth c E (za_A E) 6 0 0 (MQ below (va_Qi (fun r σ' => σ' = σ) (zB E) (za_A E)) args s 0 0 (za_A E)) 6 [(0, za_O 2 w), (1, za_I a1), (2, za_I a2), (3, za_I a3), (4, za_I y4_6), (5, za_I y5_6)] [] σ := by
    intro n
    induction n with
    | zero => intro y4_6 y5_6 hn; exact absurd hn (Nat.not_lt_zero _)
    | succ n ih_6 =>
      intro y4_6 y5_6 hn_6
      refine zv_iload (j := 5) G dX6_touching_6 rfl ?_
      refine zv_aload_n (j := 0) G dX6_touching_8 rfl rfl ?_
      refine zg_X6_15 G dX6_touching_9 ?_
      refine zv_icmp_ge (tgt := 36) G dX6_touching_12 (by decide) (fun c_12 => ?_) (fun c_12 => ?_)
      · refine zv_iload (j := 4) G dX6_touching_36 rfl ?_
        exact zv_iret G hr dX6_touching_38 rfl
      · refine zv_aload_n (j := 0) G dX6_touching_15 rfl rfl ?_
        refine zv_iload (j := 5) G dX6_touching_16 rfl ?_
        refine zv_iload_n (j := 1) G dX6_touching_18 rfl rfl ?_
        refine zv_iload_n (j := 2) G dX6_touching_19 rfl rfl ?_
        refine zv_iload_n (j := 3) G dX6_touching_20 rfl rfl ?_
        refine zv_callVi (as := [za_I y5_6, za_I a1, za_I a2, za_I a3]) G (by decide) rfl rfl (zc_X6_touches l E w y5_6 a1 a2 a3 σ ) zk_X6_touches zm_461 rfl ⟨(Nat.le_of_ble_eq_true rfl), (Nat.le_of_ble_eq_true rfl)⟩ ⟨Nat.zero_le _, Nat.zero_le _⟩ (Nat.le_of_ble_eq_true rfl) dX6_touching_21 (fun r_21 σ h_21 => ?_)
        obtain ⟨h_21, rfl⟩ := h_21
        refine zv_if_eq (tgt := 30) G dX6_touching_24 (by decide) (fun c_24 => ?_) (fun c_24 => ?_)
        · obtain ⟨x_30, e_30⟩ : ∃ y : Int32, y = y5_6 + 1 := ⟨_, rfl⟩
          refine zv_iinc (j := 5) (v := x_30) (lv' := [(5, za_I x_30), (0, za_O 2 w), (1, za_I a1), (2, za_I a2), (3, za_I a3), (4, za_I y4_6)]) G dX6_touching_30 rfl (by rw [e_30]; rfl) (by decide) rfl ?_
          refine zv_goto (tgt := 6) G dX6_touching_33 (by decide) ?_
          refine zv_sub [1, 2, 3, 4, 5, 0] (lv' := [(0, za_O 2 w), (1, za_I a1), (2, za_I a2), (3, za_I a3), (4, za_I y4_6), (5, za_I x_30)]) rfl ?_
          exact ih_6 y4_6 x_30 (z_meas c_12 e_30 hn_6)
        · obtain ⟨x_27, e_27⟩ : ∃ y : Int32, y = y4_6 + 1 := ⟨_, rfl⟩
          refine zv_iinc (j := 4) (v := x_27) (lv' := [(4, za_I x_27), (0, za_O 2 w), (1, za_I a1), (2, za_I a2), (3, za_I a3), (5, za_I y5_6)]) G dX6_touching_27 rfl (by rw [e_27]; rfl) (by decide) rfl ?_
          obtain ⟨x_30, e_30⟩ : ∃ y : Int32, y = y5_6 + 1 := ⟨_, rfl⟩
          refine zv_iinc (j := 5) (v := x_30) (lv' := [(5, za_I x_30), (4, za_I x_27), (0, za_O 2 w), (1, za_I a1), (2, za_I a2), (3, za_I a3)]) G dX6_touching_30 rfl (by rw [e_30]; rfl) (by decide) rfl ?_
          refine zv_goto (tgt := 6) G dX6_touching_33 (by decide) ?_
          refine zv_sub [2, 3, 4, 5, 1, 0] (lv' := [(0, za_O 2 w), (1, za_I a1), (2, za_I a2), (3, za_I a3), (4, za_I x_27), (5, za_I x_30)]) rfl ?_
          exact ih_6 x_27 x_30 (z_meas c_12 e_30 hn_6)
  refine zv_istore (lv' := [(5, za_I 0), (4, za_I 0), (0, za_O 2 w), (1, za_I a1), (2, za_I a2), (3, za_I a3)]) G dX6_touching_4 (by decide) rfl ?_
  refine zv_sub [2, 3, 4, 5, 1, 0] (lv' := [(0, za_O 2 w), (1, za_I a1), (2, za_I a2), (3, za_I a3), (4, za_I 0), (5, za_I 0)]) rfl ?_
  exact J_6 _ (0 : Int32) (0 : Int32) (Nat.lt_succ_self _)
set_option maxHeartbeats 4000000 in
set_option maxRecDepth 100000 in
theorem zc_X6_numberFor (l : Launch) (E : za_E) (w : Nat) (a1 : Int32) (a2 : Int32) (σ : za_S)  : zMi l E yX6_numberFor cX6_numberFor 5 (Option.some Jvm.ClassFile.FieldType.int) 3 64 [za_O 2 w, za_I a1, za_I a2] σ (fun r σ' => σ' = σ) := by
  refine zMi_of [(0, za_O 2 w), (1, za_I a1), (2, za_I a2)] (by decide) rfl rfl (Nat.le_of_ble_eq_true rfl) ?_
  intro ho p e s m args below meth c G hr
  have h_w : za_kd w = 2 := za_okO (by decide) (List.forall_mem_cons.mp ho).1
  refine zv_iconst (v := 0) G dX6_numberFor_0 (by decide) ?_
  refine zv_istore_n (lv' := [(3, za_I 0), (0, za_O 2 w), (1, za_I a1), (2, za_I a2)]) G dX6_numberFor_1 rfl (by decide) rfl ?_
  refine zv_iconst (v := 0) G dX6_numberFor_2 (by decide) ?_
  have J_5 : ∀ (n : Nat) (y3_5 : Int32) (y4_5 : Int32) (hn_5 : (2147483648 - y4_5.toInt).toNat < n), zV p l e (zRm 3 64) s m args below meth c E (za_A E) 5 0 0 (MQ below (va_Qi (fun r σ' => σ' = σ) (zB E) (za_A E)) args s 0 0 (za_A E)) 5 [(0, za_O 2 w), (1, za_I a1), (2, za_I a2), (3, za_I y3_5), (4, za_I y4_5)] [] σ := by
    intro n
    induction n with
    | zero => intro y3_5 y4_5 hn; exact absurd hn (Nat.not_lt_zero _)
    | succ n ih_5 =>
      intro y3_5 y4_5 hn_5
      refine zv_iload (j := 4) G dX6_numberFor_5 rfl ?_
      refine zv_aload_n (j := 0) G dX6_numberFor_7 rfl rfl ?_
      refine zg_X6_15 G dX6_numberFor_8 ?_
      refine zv_icmp_ge (tgt := 56) G dX6_numberFor_11 (by decide) (fun c_11 => ?_) (fun c_11 => ?_)
      · refine zv_iload_n (j := 3) G dX6_numberFor_56 rfl rfl ?_
        exact zv_iret G hr dX6_numberFor_57 rfl
      · refine zv_aload_n (j := 0) G dX6_numberFor_14 rfl rfl ?_
        refine zv_iload (j := 4) G dX6_numberFor_15 rfl ?_
        refine zv_iconst (v := 0) G dX6_numberFor_17 (by decide) ?_
        refine zv_callVi (as := [za_I y4_5, za_I 0]) G (by decide) rfl rfl (zc_X6_cell l E w y4_5 (0 : Int32) σ ) zk_X6_cell zm_465 rfl ⟨(Nat.le_of_ble_eq_true rfl), (Nat.le_of_ble_eq_true rfl)⟩ ⟨Nat.zero_le _, Nat.zero_le _⟩ (Nat.le_of_ble_eq_true rfl) dX6_numberFor_18 (fun r_18 σ h_18 => ?_)
        subst h_18
        refine zv_iload_n (j := 1) G dX6_numberFor_21 rfl rfl ?_
        refine zv_icmp_lt (tgt := 47) G dX6_numberFor_22 (by decide) (fun c_22 => ?_) (fun c_22 => ?_)
        · obtain ⟨x_47, e_47⟩ : ∃ y : Int32, y = y3_5 + 1 := ⟨_, rfl⟩
          refine zv_iinc (j := 3) (v := x_47) (lv' := [(3, za_I x_47), (0, za_O 2 w), (1, za_I a1), (2, za_I a2), (4, za_I y4_5)]) G dX6_numberFor_47 rfl (by rw [e_47]; rfl) (by decide) rfl ?_
          obtain ⟨x_50, e_50⟩ : ∃ y : Int32, y = y4_5 + 1 := ⟨_, rfl⟩
          refine zv_iinc (j := 4) (v := x_50) (lv' := [(4, za_I x_50), (3, za_I x_47), (0, za_O 2 w), (1, za_I a1), (2, za_I a2)]) G dX6_numberFor_50 rfl (by rw [e_50]; rfl) (by decide) rfl ?_
          refine zv_goto (tgt := 5) G dX6_numberFor_53 (by decide) ?_
          refine zv_sub [2, 3, 4, 1, 0] (lv' := [(0, za_O 2 w), (1, za_I a1), (2, za_I a2), (3, za_I x_47), (4, za_I x_50)]) rfl ?_
          exact ih_5 x_47 x_50 (z_meas c_11 e_50 hn_5)
        · refine zv_aload_n (j := 0) G dX6_numberFor_25 rfl rfl ?_
          refine zv_iload (j := 4) G dX6_numberFor_26 rfl ?_
          refine zv_iconst (v := 0) G dX6_numberFor_28 (by decide) ?_
          refine zv_callVi (as := [za_I y4_5, za_I 0]) G (by decide) rfl rfl (zc_X6_cell l E w y4_5 (0 : Int32) σ ) zk_X6_cell zm_465 rfl ⟨(Nat.le_of_ble_eq_true rfl), (Nat.le_of_ble_eq_true rfl)⟩ ⟨Nat.zero_le _, Nat.zero_le _⟩ (Nat.le_of_ble_eq_true rfl) dX6_numberFor_29 (fun r_29 σ h_29 => ?_)
          subst h_29
          refine zv_iload_n (j := 1) G dX6_numberFor_32 rfl rfl ?_
          refine zv_icmp_ne (tgt := 50) G dX6_numberFor_33 (by decide) (fun c_33 => ?_) (fun c_33 => ?_)
          · obtain ⟨x_50, e_50⟩ : ∃ y : Int32, y = y4_5 + 1 := ⟨_, rfl⟩
            refine zv_iinc (j := 4) (v := x_50) (lv' := [(4, za_I x_50), (0, za_O 2 w), (1, za_I a1), (2, za_I a2), (3, za_I y3_5)]) G dX6_numberFor_50 rfl (by rw [e_50]; rfl) (by decide) rfl ?_
            refine zv_goto (tgt := 5) G dX6_numberFor_53 (by decide) ?_
            refine zv_sub [1, 2, 3, 4, 0] (lv' := [(0, za_O 2 w), (1, za_I a1), (2, za_I a2), (3, za_I y3_5), (4, za_I x_50)]) rfl ?_
            exact ih_5 y3_5 x_50 (z_meas c_11 e_50 hn_5)
          · refine zv_aload_n (j := 0) G dX6_numberFor_36 rfl rfl ?_
            refine zv_iload (j := 4) G dX6_numberFor_37 rfl ?_
            refine zv_iconst (v := 2) G dX6_numberFor_39 (by decide) ?_
            refine zv_callVi (as := [za_I y4_5, za_I 2]) G (by decide) rfl rfl (zc_X6_cell l E w y4_5 (2 : Int32) σ ) zk_X6_cell zm_465 rfl ⟨(Nat.le_of_ble_eq_true rfl), (Nat.le_of_ble_eq_true rfl)⟩ ⟨Nat.zero_le _, Nat.zero_le _⟩ (Nat.le_of_ble_eq_true rfl) dX6_numberFor_40 (fun r_40 σ h_40 => ?_)
            subst h_40
            refine zv_iload_n (j := 2) G dX6_numberFor_43 rfl rfl ?_
            refine zv_icmp_ge (tgt := 50) G dX6_numberFor_44 (by decide) (fun c_44 => ?_) (fun c_44 => ?_)
            · obtain ⟨x_50, e_50⟩ : ∃ y : Int32, y = y4_5 + 1 := ⟨_, rfl⟩
              refine zv_iinc (j := 4) (v := x_50) (lv' := [(4, za_I x_50), (0, za_O 2 w), (1, za_I a1), (2, za_I a2), (3, za_I y3_5)]) G dX6_numberFor_50 rfl (by rw [e_50]; rfl) (by decide) rfl ?_
              refine zv_goto (tgt := 5) G dX6_numberFor_53 (by decide) ?_
              refine zv_sub [1, 2, 3, 4, 0] (lv' := [(0, za_O 2 w), (1, za_I a1), (2, za_I a2), (3, za_I y3_5), (4, za_I x_50)]) rfl ?_
              exact ih_5 y3_5 x_50 (z_meas c_11 e_50 hn_5)
            · obtain ⟨x_47, e_47⟩ : ∃ y : Int32, y = y3_5 + 1 := ⟨_, rfl⟩
              refine zv_iinc (j := 3) (v := x_47) (lv' := [(3, za_I x_47), (0, za_O 2 w), (1, za_I a1), (2, za_I a2), (4, za_I y4_5)]) G dX6_numberFor_47 rfl (by rw [e_47]; rfl) (by decide) rfl ?_
              obtain ⟨x_50, e_50⟩ : ∃ y : Int32, y = y4_5 + 1 := ⟨_, rfl⟩
              refine zv_iinc (j := 4) (v := x_50) (lv' := [(4, za_I x_50), (3, za_I x_47), (0, za_O 2 w), (1, za_I a1), (2, za_I a2)]) G dX6_numberFor_50 rfl (by rw [e_50]; rfl) (by decide) rfl ?_
              refine zv_goto (tgt := 5) G dX6_numberFor_53 (by decide) ?_
              refine zv_sub [2, 3, 4, 1, 0] (lv' := [(0, za_O 2 w), (1, za_I a1), (2, za_I a2), (3, za_I x_47), (4, za_I x_50)]) rfl ?_
              exact ih_5 x_47 x_50 (z_meas c_11 e_50 hn_5)
  refine zv_istore (lv' := [(4, za_I 0), (3, za_I 0), (0, za_O 2 w), (1, za_I a1), (2, za_I a2)]) G dX6_numberFor_3 (by decide) rfl ?_
  refine zv_sub [2, 3, 4, 1, 0] (lv' := [(0, za_O 2 w), (1, za_I a1), (2, za_I a2), (3, za_I 0), (4, za_I 0)]) rfl ?_
  exact J_5 _ (0 : Int32) (0 : Int32) (Nat.lt_succ_self _)
set_option maxHeartbeats 4000000 in
set_option maxRecDepth 100000 in
theorem zc_X6_append (l : Launch) (E : za_E) (w : Nat) (a1 : Int32) (a2 : Int32) (a3 : Int32) (a4 : Int32) (a5 : Int32) (σ0 : za_S)  : zMv l E yX6_append cX6_append 7 (Option.none : Option Jvm.ClassFile.FieldType) 1 21 [za_O 2 w, za_I a1, za_I a2, za_I a3, za_I a4, za_I a5] σ0 (fun σ' => zc σ0 σ') := by
  refine zMv_of [(0, za_O 2 w), (1, za_I a1), (2, za_I a2), (3, za_I a3), (4, za_I a4), (5, za_I a5)] (by decide) rfl rfl (Nat.le_of_ble_eq_true rfl) ?_
  intro ho p e s m args below meth c G hr
  have h_w : za_kd w = 2 := za_okO (by decide) (List.forall_mem_cons.mp ho).1
  refine zv_gen (R9 := zc σ0) (zc_r σ0) (fun σ hz => ?_)
  refine zv_aload_n (j := 0) G dX6_append_0 rfl rfl ?_
  refine zg_X6_15 G dX6_append_1 ?_
  refine zv_iconst (v := 5) G dX6_append_4 (by decide) ?_
  refine zv_imul G dX6_append_5 ?_
  refine zv_top (fun x_6 e_6 => ?_)
  refine zv_istore (lv' := [(6, za_I x_6), (0, za_O 2 w), (1, za_I a1), (2, za_I a2), (3, za_I a3), (4, za_I a4), (5, za_I a5)]) G dX6_append_6 (by decide) rfl ?_
  refine zv_aload_n (j := 1) G dX6_append_8 rfl rfl ?_
  refine zg_X6_15 G dX6_append_9 ?_
  refine zv_if_lt (tgt := 76) G dX6_append_12 (by decide) (fun c_12 => ?_) (fun c_12 => ?_)
  · refine zv_aload_n (j := 1) G dX6_append_76 rfl rfl ?_
    refine zv_dupO G dX6_append_77 ?_
    refine zg_X6_15 G dX6_append_78 ?_
    refine zv_iconst (v := 1) G dX6_append_81 (by decide) ?_
    refine zv_iadd G dX6_append_82 ?_
    refine zp_X6_15 G dX6_append_83 ?_
    refine zv_gen (R9 := zc σ0) (zc_t hz (zc_k2 h_w)) (fun σ hz => ?_)
    exact zv_vret G hr dX6_append_86 hz
  · refine zv_aload_n (j := 1) G dX6_append_15 rfl rfl ?_
    refine zg_X6_15 G dX6_append_16 ?_
    refine zv_bipush (v := 24) G dX6_append_19 (by decide) ?_
    refine zv_icmp_ge (tgt := 76) G dX6_append_21 (by decide) (fun c_21 => ?_) (fun c_21 => ?_)
    · refine zv_aload_n (j := 1) G dX6_append_76 rfl rfl ?_
      refine zv_dupO G dX6_append_77 ?_
      refine zg_X6_15 G dX6_append_78 ?_
      refine zv_iconst (v := 1) G dX6_append_81 (by decide) ?_
      refine zv_iadd G dX6_append_82 ?_
      refine zp_X6_15 G dX6_append_83 ?_
      refine zv_gen (R9 := zc σ0) (zc_t hz (zc_k2 h_w)) (fun σ hz => ?_)
      exact zv_vret G hr dX6_append_86 hz
    · have q_1 := z_ge0 c_12
      have q_2 := z_ltk c_21 (n := 24) rfl
      refine zv_aload_n (j := 1) G dX6_append_24 rfl rfl ?_
      refine zg_X6_11 G dX6_append_25 ?_
      refine zv_iload (j := 0) G dX6_append_28 rfl ?_
      refine zv_iconst (v := 0) G dX6_append_30 (by decide) ?_
      refine zv_iadd G dX6_append_31 ?_
      refine zv_iload_n (j := 2) G dX6_append_32 rfl rfl ?_
      refine zv_iast G (by decide) rfl (fun _ => rfl) (z_app (z_ge0 c_12) (z_ltk c_21 (n := 24) rfl) e_6 (d := 0) rfl (by decide)) dX6_append_33 ?_
      refine zv_gen (R9 := zc σ0) (zc_t hz (zc_k3 (zr_2_1 h_w))) (fun σ hz => ?_)
      refine zv_aload_n (j := 1) G dX6_append_34 rfl rfl ?_
      refine zg_X6_11 G dX6_append_35 ?_
      refine zv_iload (j := 0) G dX6_append_38 rfl ?_
      refine zv_iconst (v := 1) G dX6_append_40 (by decide) ?_
      refine zv_iadd G dX6_append_41 ?_
      refine zv_iload_n (j := 3) G dX6_append_42 rfl rfl ?_
      refine zv_iast G (by decide) rfl (fun _ => rfl) (z_app q_1 q_2 e_6 (d := 1) rfl (by decide)) dX6_append_43 ?_
      refine zv_gen (R9 := zc σ0) (zc_t hz (zc_k3 (zr_2_1 h_w))) (fun σ hz => ?_)
      refine zv_aload_n (j := 1) G dX6_append_44 rfl rfl ?_
      refine zg_X6_11 G dX6_append_45 ?_
      refine zv_iload (j := 0) G dX6_append_48 rfl ?_
      refine zv_iconst (v := 2) G dX6_append_50 (by decide) ?_
      refine zv_iadd G dX6_append_51 ?_
      refine zv_iload_n (j := 4) G dX6_append_52 rfl rfl ?_
      refine zv_iast G (by decide) rfl (fun _ => rfl) (z_app q_1 q_2 e_6 (d := 2) rfl (by decide)) dX6_append_53 ?_
      refine zv_gen (R9 := zc σ0) (zc_t hz (zc_k3 (zr_2_1 h_w))) (fun σ hz => ?_)
      refine zv_aload_n (j := 1) G dX6_append_54 rfl rfl ?_
      refine zg_X6_11 G dX6_append_55 ?_
      refine zv_iload (j := 0) G dX6_append_58 rfl ?_
      refine zv_iconst (v := 3) G dX6_append_60 (by decide) ?_
      refine zv_iadd G dX6_append_61 ?_
      refine zv_iload (j := 5) G dX6_append_62 rfl ?_
      refine zv_iast G (by decide) rfl (fun _ => rfl) (z_app q_1 q_2 e_6 (d := 3) rfl (by decide)) dX6_append_64 ?_
      refine zv_gen (R9 := zc σ0) (zc_t hz (zc_k3 (zr_2_1 h_w))) (fun σ hz => ?_)
      refine zv_aload_n (j := 1) G dX6_append_65 rfl rfl ?_
      refine zg_X6_11 G dX6_append_66 ?_
      refine zv_iload (j := 0) G dX6_append_69 rfl ?_
      refine zv_iconst (v := 4) G dX6_append_71 (by decide) ?_
      refine zv_iadd G dX6_append_72 ?_
      refine zv_iload (j := 6) G dX6_append_73 rfl ?_
      refine zv_iast G (by decide) rfl (fun _ => rfl) (z_app q_1 q_2 e_6 (d := 4) rfl (by decide)) dX6_append_75 ?_
      refine zv_gen (R9 := zc σ0) (zc_t hz (zc_k3 (zr_2_1 h_w))) (fun σ hz => ?_)
      refine zv_aload_n (j := 1) G dX6_append_76 rfl rfl ?_
      refine zv_dupO G dX6_append_77 ?_
      refine zg_X6_15 G dX6_append_78 ?_
      refine zv_iconst (v := 1) G dX6_append_81 (by decide) ?_
      refine zv_iadd G dX6_append_82 ?_
      refine zp_X6_15 G dX6_append_83 ?_
      refine zv_gen (R9 := zc σ0) (zc_t hz (zc_k2 h_w)) (fun σ hz => ?_)
      exact zv_vret G hr dX6_append_86 hz
set_option maxHeartbeats 4000000 in
set_option maxRecDepth 100000 in
theorem zc_X6_appendPart (l : Launch) (E : za_E) (w : Nat) (a1 : Nat) (a2 : Int32) (a3 : Int32) (a4 : Int32) (σ0 : za_S)  : zMv l E yX6_appendPart cX6_appendPart 7 (Option.none : Option Jvm.ClassFile.FieldType) 3 64 [za_O 2 w, za_O 2 a1, za_I a2, za_I a3, za_I a4] σ0 (fun σ' => zc σ0 σ') := by
  refine zMv_of [(0, za_O 2 w), (1, za_O 2 a1), (2, za_I a2), (3, za_I a3), (4, za_I a4)] (by decide) rfl rfl (Nat.le_of_ble_eq_true rfl) ?_
  intro ho p e s m args below meth c G hr
  have h_w : za_kd w = 2 := za_okO (by decide) (List.forall_mem_cons.mp ho).1
  have h_a1 : za_kd a1 = 2 := za_okO (by decide) (List.forall_mem_cons.mp (List.forall_mem_cons.mp ho).2).1
  refine zv_gen (R9 := zc σ0) (zc_r σ0) (fun σ hz => ?_)
  refine zv_iload_n (j := 3) G dX6_appendPart_0 rfl rfl ?_
  refine zv_aload_n (j := 1) G dX6_appendPart_1 rfl rfl ?_
  refine zv_iload_n (j := 2) G dX6_appendPart_2 rfl rfl ?_
  refine zv_iconst (v := 2) G dX6_appendPart_3 (by decide) ?_
  refine zv_callVi (as := [za_I a2, za_I 2]) G (by decide) rfl rfl (zc_X6_cell l E a1 a2 (2 : Int32) σ ) zk_X6_cell zm_465 rfl ⟨(Nat.le_of_ble_eq_true rfl), (Nat.le_of_ble_eq_true rfl)⟩ ⟨Nat.zero_le _, Nat.zero_le _⟩ (Nat.le_of_ble_eq_true rfl) dX6_appendPart_4 (fun r_4 σ h_4 => ?_)
  subst h_4
  refine zv_mmax G zm_474 zm_395 zm_147 zm_396 (Nat.le_of_ble_eq_true rfl) (Nat.le_of_ble_eq_true rfl) (Nat.zero_le _) (Nat.zero_le _) dX6_appendPart_7 ?_
  refine zv_top (fun x_7 e_7 => ?_)
  refine zv_istore (lv' := [(5, za_I x_7), (0, za_O 2 w), (1, za_O 2 a1), (2, za_I a2), (3, za_I a3), (4, za_I a4)]) G dX6_appendPart_10 (by decide) rfl ?_
  refine zv_iload (j := 5) G dX6_appendPart_12 rfl ?_
  refine zv_aload_n (j := 2) G dX6_appendPart_14 rfl rfl ?_
  refine zv_iload_n (j := 3) G dX6_appendPart_15 rfl rfl ?_
  refine zv_iconst (v := 3) G dX6_appendPart_16 (by decide) ?_
  refine zv_callVi (as := [za_I a2, za_I 3]) G (by decide) rfl rfl (zc_X6_cell l E a1 a2 (3 : Int32) σ ) zk_X6_cell zm_465 rfl ⟨(Nat.le_of_ble_eq_true rfl), (Nat.le_of_ble_eq_true rfl)⟩ ⟨Nat.zero_le _, Nat.zero_le _⟩ (Nat.le_of_ble_eq_true rfl) dX6_appendPart_17 (fun r_17 σ h_17 => ?_)
  subst h_17
  refine zv_mmin G zm_473 zm_392 zm_147 zm_393 (Nat.le_of_ble_eq_true rfl) (Nat.le_of_ble_eq_true rfl) (Nat.zero_le _) (Nat.zero_le _) dX6_appendPart_20 ?_
  refine zv_top (fun x_20 e_20 => ?_)
  refine zv_istore (lv' := [(6, za_I x_20), (5, za_I x_7), (0, za_O 2 w), (1, za_O 2 a1), (2, za_I a2), (3, za_I a3), (4, za_I a4)]) G dX6_appendPart_23 (by decide) rfl ?_
  refine zv_iload (j := 1) G dX6_appendPart_25 rfl ?_
  refine zv_iload (j := 0) G dX6_appendPart_27 rfl ?_
  refine zv_icmp_ge (tgt := 58) G dX6_appendPart_29 (by decide) (fun c_29 => ?_) (fun c_29 => ?_)
  · exact zv_vret G hr dX6_appendPart_58 hz
  · refine zv_aload_n (j := 2) G dX6_appendPart_32 rfl rfl ?_
    refine zv_aload_n (j := 3) G dX6_appendPart_33 rfl rfl ?_
    refine zv_iload_n (j := 4) G dX6_appendPart_34 rfl rfl ?_
    refine zv_iconst (v := 0) G dX6_appendPart_35 (by decide) ?_
    refine zv_callVi (as := [za_I a2, za_I 0]) G (by decide) rfl rfl (zc_X6_cell l E a1 a2 (0 : Int32) σ ) zk_X6_cell zm_465 rfl ⟨(Nat.le_of_ble_eq_true rfl), (Nat.le_of_ble_eq_true rfl)⟩ ⟨Nat.zero_le _, Nat.zero_le _⟩ (Nat.le_of_ble_eq_true rfl) dX6_appendPart_36 (fun r_36 σ h_36 => ?_)
    subst h_36
    refine zv_aload_n (j := 3) G dX6_appendPart_39 rfl rfl ?_
    refine zv_iload_n (j := 4) G dX6_appendPart_40 rfl rfl ?_
    refine zv_iconst (v := 1) G dX6_appendPart_41 (by decide) ?_
    refine zv_callVi (as := [za_I a2, za_I 1]) G (by decide) rfl rfl (zc_X6_cell l E a1 a2 (1 : Int32) σ ) zk_X6_cell zm_465 rfl ⟨(Nat.le_of_ble_eq_true rfl), (Nat.le_of_ble_eq_true rfl)⟩ ⟨Nat.zero_le _, Nat.zero_le _⟩ (Nat.le_of_ble_eq_true rfl) dX6_appendPart_42 (fun r_42 σ h_42 => ?_)
    subst h_42
    refine zv_iload (j := 1) G dX6_appendPart_45 rfl ?_
    refine zv_iload (j := 0) G dX6_appendPart_47 rfl ?_
    refine zv_aload_n (j := 3) G dX6_appendPart_49 rfl rfl ?_
    refine zv_iload_n (j := 4) G dX6_appendPart_50 rfl rfl ?_
    refine zv_iconst (v := 4) G dX6_appendPart_51 (by decide) ?_
    refine zv_callVi (as := [za_I a2, za_I 4]) G (by decide) rfl rfl (zc_X6_cell l E a1 a2 (4 : Int32) σ ) zk_X6_cell zm_465 rfl ⟨(Nat.le_of_ble_eq_true rfl), (Nat.le_of_ble_eq_true rfl)⟩ ⟨Nat.zero_le _, Nat.zero_le _⟩ (Nat.le_of_ble_eq_true rfl) dX6_appendPart_52 (fun r_52 σ h_52 => ?_)
    subst h_52
    refine zv_callVv (as := [za_I r_36, za_I r_42, za_I x_7, za_I x_20, za_I r_52]) G (by decide) rfl rfl (zc_X6_append l E w r_36 r_42 x_7 x_20 r_52 σ ) zk_X6_append zm_488 rfl ⟨(Nat.le_of_ble_eq_true rfl), (Nat.le_of_ble_eq_true rfl)⟩ ⟨Nat.zero_le _, Nat.zero_le _⟩ (Nat.le_of_ble_eq_true rfl) dX6_appendPart_55 (fun σ h_55 => ?_)
    have hz9 := h_55
    have hz := zc_t hz hz9
    exact zv_vret G hr dX6_appendPart_58 hz
set_option maxHeartbeats 4000000 in
set_option maxRecDepth 100000 in
theorem zc_X9_taken (l : Launch) (E : za_E) (a1 : Int32) (σ0 : za_S)  : zMi l E yX9_taken cX9_taken 2 (Option.some Jvm.ClassFile.FieldType.int) 3 102 [za_O 0 0, za_I a1] σ0 (fun r σ' => zc σ0 σ') := by
  refine zMi_of [(0, za_O 0 0), (1, za_I a1)] (by decide) rfl rfl (Nat.le_of_ble_eq_true rfl) ?_
  intro ho p e s m args below meth c G hr
  refine zv_gen (R9 := zc σ0) (zc_r σ0) (fun σ hz => ?_)
  refine zv_aload_n (j := 0) G dX9_taken_0 rfl rfl ?_
  refine zg_X9_16 G dX9_taken_1 ?_
  refine zg_X9_102 G dX9_taken_4 ?_
  refine zg_X9_106 G dX9_taken_7 ?_
  refine zv_bipush (v := 20) G dX9_taken_10 (by decide) ?_
  refine zv_icmp_gt (tgt := 30) G dX9_taken_12 (by decide) (fun c_12 => ?_) (fun c_12 => ?_)
  · refine zv_bipush (v := (-9)) G dX9_taken_30 (by decide) ?_
    exact zv_iret G hr dX9_taken_32 hz
  · refine zv_aload_n (j := 0) G dX9_taken_15 rfl rfl ?_
    refine zg_X9_16 G dX9_taken_16 ?_
    refine zg_X9_179 G dX9_taken_19 ?_
    refine zg_X9_106 G dX9_taken_22 ?_
    refine zv_bipush (v := 20) G dX9_taken_25 (by decide) ?_
    refine zv_icmp_le (tgt := 33) G dX9_taken_27 (by decide) (fun c_27 => ?_) (fun c_27 => ?_)
    · refine zv_aload_n (j := 0) G dX9_taken_33 rfl rfl ?_
      refine zg_X9_10 G dX9_taken_34 ?_
      refine zv_aload_n (j := 0) G dX9_taken_37 rfl rfl ?_
      refine zg_X9_16 G dX9_taken_38 ?_
      refine zv_callVNv (as := [za_O 1 6]) G (by decide) rfl rfl (zc_X4_copyOf l E 1 6 σ ) zk_X4_copyOf zm_475 rfl ⟨(Nat.le_of_ble_eq_true rfl), (Nat.le_of_ble_eq_true rfl)⟩ ⟨Nat.zero_le _, Nat.zero_le _⟩ (Nat.le_of_ble_eq_true rfl) dX9_taken_41 (fun σ h_41 => ?_)
      have hz9 := h_41
      have hz := zc_t hz hz9
      refine zv_iload_n (j := 1) G dX9_taken_44 rfl rfl ?_
      exact zv_iret G hr dX9_taken_45 hz
    · refine zv_bipush (v := (-9)) G dX9_taken_30 (by decide) ?_
      exact zv_iret G hr dX9_taken_32 hz
set_option maxHeartbeats 4000000 in
set_option maxRecDepth 100000 in
theorem zc_X9_addRow (l : Launch) (E : za_E) (a1 : Int32) (a2 : Int32) (a3 : Int32) (a4 : Int32) (a5 : Int32) (σ0 : za_S)  : zMi l E yX9_addRow cX9_addRow 10 (Option.some Jvm.ClassFile.FieldType.int) 6 136 [za_O 0 0, za_I a1, za_I a2, za_I a3, za_I a4, za_I a5] σ0 (fun r σ' => zc σ0 σ') := by
  refine zMi_of [(0, za_O 0 0), (1, za_I a1), (2, za_I a2), (3, za_I a3), (4, za_I a4), (5, za_I a5)] (by decide) rfl rfl (Nat.le_of_ble_eq_true rfl) ?_
  intro ho p e s m args below meth c G hr
  refine zv_gen (R9 := zc σ0) (zc_r σ0) (fun σ hz => ?_)
  refine zv_iload_n (j := 1) G dX9_addRow_0 rfl rfl ?_
  refine zv_iload_n (j := 2) G dX9_addRow_1 rfl rfl ?_
  refine zv_iload (j := 4) G dX9_addRow_2 rfl ?_
  refine zv_iload (j := 5) G dX9_addRow_4 rfl ?_
  refine zv_callSi (as := [za_I a1, za_I a2, za_I a4, za_I a5]) G (zc_X9_isPortion l E a1 a2 a4 a5 σ ) zk_X9_isPortion zm_435 rfl ⟨(Nat.le_of_ble_eq_true rfl), (Nat.le_of_ble_eq_true rfl)⟩ ⟨Nat.zero_le _, Nat.zero_le _⟩ (Nat.le_of_ble_eq_true rfl) dX9_addRow_6 (fun r_6 σ h_6 => ?_)
  obtain ⟨h_6, rfl⟩ := h_6
  refine zv_if_eq (tgt := 19) G dX9_addRow_9 (by decide) (fun c_9 => ?_) (fun c_9 => ?_)
  · refine zv_iconst (v := (-1)) G dX9_addRow_19 (by decide) ?_
    exact zv_iret G hr dX9_addRow_20 hz
  · refine zv_iload_n (j := 3) G dX9_addRow_12 rfl rfl ?_
    refine zv_callSi (as := [za_I a3]) G (zc_X9_isValue l E a3 σ ) zk_X9_isValue zm_450 rfl ⟨(Nat.le_of_ble_eq_true rfl), (Nat.le_of_ble_eq_true rfl)⟩ ⟨Nat.zero_le _, Nat.zero_le _⟩ (Nat.le_of_ble_eq_true rfl) dX9_addRow_13 (fun r_13 σ h_13 => ?_)
    obtain ⟨h_13, rfl⟩ := h_13
    refine zv_if_ne (tgt := 21) G dX9_addRow_16 (by decide) (fun c_16 => ?_) (fun c_16 => ?_)
    · refine zv_aload_n (j := 0) G dX9_addRow_21 rfl rfl ?_
      refine zg_X9_10 G dX9_addRow_22 ?_
      refine zv_iload_n (j := 1) G dX9_addRow_25 rfl rfl ?_
      refine zv_callVNr (as := [za_I a1]) G (by decide) rfl rfl (zc_X4_table l E 1 a1 σ ) zk_X4_table zm_453 rfl ⟨(Nat.le_of_ble_eq_true rfl), (Nat.le_of_ble_eq_true rfl)⟩ ⟨Nat.zero_le _, Nat.zero_le _⟩ (Nat.le_of_ble_eq_true rfl) dX9_addRow_26 (fun r_26 σ h_26 => ?_)
      obtain ⟨w_26, rfl, h_w_26, t_26, rfl⟩ := h_26
      refine zv_astore (lv' := [(6, za_O 2 w_26), (0, za_O 0 0), (1, za_I a1), (2, za_I a2), (3, za_I a3), (4, za_I a4), (5, za_I a5)]) G dX9_addRow_29 (by decide) rfl ?_
      refine zv_aload (j := 0) G dX9_addRow_31 rfl ?_
      refine zv_iload_n (j := 3) G dX9_addRow_33 rfl rfl ?_
      refine zv_iload (j := 5) G dX9_addRow_34 rfl ?_
      refine zv_iload (j := 6) G dX9_addRow_36 rfl ?_
      refine zv_callVNi (as := [za_I a2, za_I a4, za_I a5]) G (by decide) rfl rfl (zc_X6_touching l E w_26 a2 a4 a5 σ ) zk_X6_touching zm_457 rfl ⟨(Nat.le_of_ble_eq_true rfl), (Nat.le_of_ble_eq_true rfl)⟩ ⟨Nat.zero_le _, Nat.zero_le _⟩ (Nat.le_of_ble_eq_true rfl) dX9_addRow_38 (fun r_38 σ h_38 => ?_)
      subst h_38
      refine zv_if_le (tgt := 47) G dX9_addRow_41 (by decide) (fun c_41 => ?_) (fun c_41 => ?_)
      · refine zv_aload_n (j := 1) G dX9_addRow_47 rfl rfl ?_
        refine zg_X9_16 G dX9_addRow_48 ?_
        refine zv_aload_n (j := 1) G dX9_addRow_51 rfl rfl ?_
        refine zg_X9_10 G dX9_addRow_52 ?_
        refine zv_callVNv (as := [za_O 1 1]) G (by decide) rfl rfl (zc_X4_copyOf l E 6 1 σ ) zk_X4_copyOf zm_475 rfl ⟨(Nat.le_of_ble_eq_true rfl), (Nat.le_of_ble_eq_true rfl)⟩ ⟨Nat.zero_le _, Nat.zero_le _⟩ (Nat.le_of_ble_eq_true rfl) dX9_addRow_55 (fun σ h_55 => ?_)
        have hz9 := h_55
        have hz := zc_t hz hz9
        refine zv_aload_n (j := 1) G dX9_addRow_58 rfl rfl ?_
        refine zg_X9_16 G dX9_addRow_59 ?_
        refine zv_iload_n (j := 2) G dX9_addRow_62 rfl rfl ?_
        refine zv_callVNr (as := [za_I a1]) G (by decide) rfl rfl (zc_X4_table l E 6 a1 σ ) zk_X4_table zm_453 rfl ⟨(Nat.le_of_ble_eq_true rfl), (Nat.le_of_ble_eq_true rfl)⟩ ⟨Nat.zero_le _, Nat.zero_le _⟩ (Nat.le_of_ble_eq_true rfl) dX9_addRow_63 (fun r_63 σ h_63 => ?_)
        obtain ⟨w_63, rfl, h_w_63, t_63, rfl⟩ := h_63
        refine zv_astore (lv' := [(7, za_O 2 w_63), (6, za_O 2 w_26), (0, za_O 0 0), (1, za_I a1), (2, za_I a2), (3, za_I a3), (4, za_I a4), (5, za_I a5)]) G dX9_addRow_66 (by decide) rfl ?_
        refine zv_aload (j := 1) G dX9_addRow_68 rfl ?_
        refine zv_iload_n (j := 4) G dX9_addRow_70 rfl rfl ?_
        refine zv_iload (j := 6) G dX9_addRow_71 rfl ?_
        refine zv_callVNi (as := [za_I a2, za_I a4]) G (by decide) rfl rfl (zc_X6_numberFor l E w_26 a2 a4 σ ) zk_X6_numberFor zm_476 rfl ⟨(Nat.le_of_ble_eq_true rfl), (Nat.le_of_ble_eq_true rfl)⟩ ⟨Nat.zero_le _, Nat.zero_le _⟩ (Nat.le_of_ble_eq_true rfl) dX9_addRow_73 (fun r_73 σ h_73 => ?_)
        subst h_73
        refine zv_istore (lv' := [(8, za_I r_73), (7, za_O 2 w_63), (6, za_O 2 w_26), (0, za_O 0 0), (1, za_I a1), (2, za_I a2), (3, za_I a3), (4, za_I a4), (5, za_I a5)]) G dX9_addRow_76 (by decide) rfl ?_
        refine zv_aload (j := 1) G dX9_addRow_78 rfl ?_
        refine zv_iload (j := 0) G dX9_addRow_80 rfl ?_
        refine zp_X9_106 G dX9_addRow_82 ?_
        refine zv_gen (R9 := zc σ0) (zc_t hz (zc_k2 h_w_63)) (fun σ hz => ?_)
        refine zv_aload (j := 1) G dX9_addRow_85 rfl ?_
        refine zv_iload_n (j := 5) G dX9_addRow_87 rfl rfl ?_
        refine zv_iload_n (j := 6) G dX9_addRow_88 rfl rfl ?_
        refine zv_iload (j := 7) G dX9_addRow_89 rfl ?_
        refine zv_iload (j := 8) G dX9_addRow_91 rfl ?_
        refine zv_bipush (v := 10) G dX9_addRow_93 (by decide) ?_
        refine zv_callVNv (as := [za_I a2, za_I a3, za_I a4, za_I a5, za_I 10]) G (by decide) rfl rfl (zc_X6_append l E w_63 a2 a3 a4 a5 (10 : Int32) σ ) zk_X6_append zm_480 rfl ⟨(Nat.le_of_ble_eq_true rfl), (Nat.le_of_ble_eq_true rfl)⟩ ⟨Nat.zero_le _, Nat.zero_le _⟩ (Nat.le_of_ble_eq_true rfl) dX9_addRow_95 (fun σ h_95 => ?_)
        have hz9 := h_95
        have hz := zc_t hz hz9
        refine zv_iload (j := 0) G dX9_addRow_98 rfl ?_
        have J_102 : ∀ (n : Nat) (y9_102 : Int32) (σ : za_S) (hz : zc σ0 σ) (hn_102 : (2147483648 - y9_102.toInt).toNat < n), zV p l e (zRm 6 136) s m args below meth c E (za_A E) 10 0 0 (MQ below (va_Qi (fun r σ' => zc σ0 σ') (zB E) (za_A E)) args s 0 0 (za_A E)) 102 [(0, za_O 0 0), (6, za_O 2 w_26), (7, za_O 2 w_63), (8, za_I r_73), (9, za_I y9_102)] [] σ := by
          intro n
          induction n with
          | zero => intro y9_102 σ hz hn; exact absurd hn (Nat.not_lt_zero _)
          | succ n ih_102 =>
            intro y9_102 σ hz hn_102
            refine zv_iload (j := 4) G dX9_addRow_102 rfl ?_
            refine zv_aload (j := 1) G dX9_addRow_104 rfl ?_
            refine zg_X9_106 G dX9_addRow_106 ?_
            refine zv_icmp_ge (tgt := 130) G dX9_addRow_109 (by decide) (fun c_109 => ?_) (fun c_109 => ?_)
            · refine zv_aload_n (j := 0) G dX9_addRow_130 rfl rfl ?_
              refine zv_iload (j := 3) G dX9_addRow_131 rfl ?_
              refine zv_callVi (as := [za_I r_73]) G (by decide) rfl rfl (zc_X9_taken l E r_73 σ ) zk_X9_taken zm_489 rfl ⟨(Nat.le_of_ble_eq_true rfl), (Nat.le_of_ble_eq_true rfl)⟩ ⟨Nat.zero_le _, Nat.zero_le _⟩ (Nat.le_of_ble_eq_true rfl) dX9_addRow_133 (fun r_133 σ h_133 => ?_)
              have hz9 := h_133
              have hz := zc_t hz hz9
              exact zv_iret G hr dX9_addRow_136 hz
            · refine zv_aload (j := 2) G dX9_addRow_112 rfl ?_
              refine zv_aload (j := 1) G dX9_addRow_114 rfl ?_
              refine zv_iload (j := 4) G dX9_addRow_116 rfl ?_
              refine zv_iconst (v := 0) G dX9_addRow_118 (by decide) ?_
              refine zv_bipush (v := 100) G dX9_addRow_119 (by decide) ?_
              refine zv_callVNv (as := [za_O 2 w_26, za_I y9_102, za_I 0, za_I 100]) G (by decide) rfl rfl (zc_X6_appendPart l E w_63 w_26 y9_102 (0 : Int32) (100 : Int32) σ ) zk_X6_appendPart zm_484 rfl ⟨(Nat.le_of_ble_eq_true rfl), (Nat.le_of_ble_eq_true rfl)⟩ ⟨Nat.zero_le _, Nat.zero_le _⟩ (Nat.le_of_ble_eq_true rfl) dX9_addRow_121 (fun σ h_121 => ?_)
              have hz9 := h_121
              have hz := zc_t hz hz9
              obtain ⟨x_124, e_124⟩ : ∃ y : Int32, y = y9_102 + 1 := ⟨_, rfl⟩
              refine zv_iinc (j := 4) (v := x_124) (lv' := [(9, za_I x_124), (0, za_O 0 0), (6, za_O 2 w_26), (7, za_O 2 w_63), (8, za_I r_73)]) G dX9_addRow_124 rfl (by rw [e_124]; rfl) (by decide) rfl ?_
              refine zv_goto (tgt := 102) G dX9_addRow_127 (by decide) ?_
              refine zv_sub [1, 2, 3, 4, 0] (lv' := [(0, za_O 0 0), (6, za_O 2 w_26), (7, za_O 2 w_63), (8, za_I r_73), (9, za_I x_124)]) rfl ?_
              exact ih_102 x_124 σ hz (z_meas c_109 e_124 hn_102)
        refine zv_istore (lv' := [(9, za_I r_73), (8, za_I r_73), (7, za_O 2 w_63), (6, za_O 2 w_26), (0, za_O 0 0), (1, za_I a1), (2, za_I a2), (3, za_I a3), (4, za_I a4), (5, za_I a5)]) G dX9_addRow_100 (by decide) rfl ?_
        refine zv_sub [4, 3, 2, 1, 0] (lv' := [(0, za_O 0 0), (6, za_O 2 w_26), (7, za_O 2 w_63), (8, za_I r_73), (9, za_I r_73)]) rfl ?_
        exact J_102 _ r_73 σ hz (Nat.lt_succ_self _)
      · refine zv_bipush (v := (-2)) G dX9_addRow_44 (by decide) ?_
        exact zv_iret G hr dX9_addRow_46 hz
    · refine zv_iconst (v := (-1)) G dX9_addRow_19 (by decide) ?_
      exact zv_iret G hr dX9_addRow_20 hz
set_option maxHeartbeats 4000000 in
set_option maxRecDepth 100000 in
theorem zc_X2_confirm (l : Launch) (E : za_E)  (σ0 : za_S)  : zMv l E yX2_confirm cX2_confirm 1 (Option.none : Option Jvm.ClassFile.FieldType) 2 43 [za_O 4 11] σ0 (fun σ' => zc σ0 σ') := by
  refine zMv_of [(0, za_O 4 11)] (by decide) rfl rfl (Nat.le_of_ble_eq_true rfl) ?_
  intro ho p e s m args below meth c G hr
  refine zv_gen (R9 := zc σ0) (zc_r σ0) (fun σ hz => ?_)
  refine zv_aload_n (j := 0) G dX2_confirm_0 rfl rfl ?_
  refine zg_X2_26 G dX2_confirm_1 ?_
  refine zv_bipush (v := 10) G dX2_confirm_4 (by decide) ?_
  refine zv_icmp_ge (tgt := 22) G dX2_confirm_6 (by decide) (fun c_6 => ?_) (fun c_6 => ?_)
  · refine zv_aload_n (j := 0) G dX2_confirm_22 rfl rfl ?_
    refine zv_aload_n (j := 0) G dX2_confirm_23 rfl rfl ?_
    refine zg_X2_16 G dX2_confirm_24 ?_
    refine zv_iconst (v := 1) G dX2_confirm_27 (by decide) ?_
    refine zv_iadd G dX2_confirm_28 ?_
    refine zv_bipush (v := 11) G dX2_confirm_29 (by decide) ?_
    refine zv_callSi (as := [za_I ((σ.1 11 1) + 1), za_I 11]) G (zc_J9_floorMod_7cf53 l E ((σ.1 11 1) + 1) σ ) zk_J9_floorMod_7cf53 zm_417 rfl ⟨(Nat.le_of_ble_eq_true rfl), (Nat.le_of_ble_eq_true rfl)⟩ ⟨Nat.zero_le _, Nat.zero_le _⟩ (Nat.le_of_ble_eq_true rfl) dX2_confirm_31 (fun r_31 σ h_31 => ?_)
    obtain ⟨h_31, rfl⟩ := h_31
    refine zp_X2_16 G dX2_confirm_34 ?_
    refine zv_gen (R9 := zc σ0) (zc_t hz (zc_k4 rfl)) (fun σ hz => ?_)
    exact zv_vret G hr dX2_confirm_37 hz
  · refine zv_aload_n (j := 0) G dX2_confirm_9 rfl rfl ?_
    refine zv_dupO G dX2_confirm_10 ?_
    refine zg_X2_26 G dX2_confirm_11 ?_
    refine zv_iconst (v := 1) G dX2_confirm_14 (by decide) ?_
    refine zv_iadd G dX2_confirm_15 ?_
    refine zp_X2_26 G dX2_confirm_16 ?_
    refine zv_gen (R9 := zc σ0) (zc_t hz (zc_k4 rfl)) (fun σ hz => ?_)
    refine zv_goto (tgt := 37) G dX2_confirm_19 (by decide) ?_
    exact zv_vret G hr dX2_confirm_37 hz
set_option maxHeartbeats 4000000 in
set_option maxRecDepth 100000 in
theorem zc_X9_noted (l : Launch) (E : za_E) (a1 : Int32) (σ0 : za_S)  : zMi l E yX9_noted cX9_noted 2 (Option.some Jvm.ClassFile.FieldType.int) 3 63 [za_O 0 0, za_I a1] σ0 (fun r σ' => zc σ0 σ') := by
  refine zMi_of [(0, za_O 0 0), (1, za_I a1)] (by decide) rfl rfl (Nat.le_of_ble_eq_true rfl) ?_
  intro ho p e s m args below meth c G hr
  refine zv_gen (R9 := zc σ0) (zc_r σ0) (fun σ hz => ?_)
  refine zv_iload_n (j := 1) G dX9_noted_0 rfl rfl ?_
  refine zv_if_lt (tgt := 11) G dX9_noted_1 (by decide) (fun c_1 => ?_) (fun c_1 => ?_)
  · refine zv_iload_n (j := 1) G dX9_noted_11 rfl rfl ?_
    exact zv_iret G hr dX9_noted_12 hz
  · refine zv_aload_n (j := 0) G dX9_noted_4 rfl rfl ?_
    refine zg_X9_22 G dX9_noted_5 ?_
    refine zv_callVNv (as := []) G (by decide) rfl rfl (zc_X2_confirm l E  σ ) zk_X2_confirm zm_497 rfl ⟨(Nat.le_of_ble_eq_true rfl), (Nat.le_of_ble_eq_true rfl)⟩ ⟨Nat.zero_le _, Nat.zero_le _⟩ (Nat.le_of_ble_eq_true rfl) dX9_noted_8 (fun σ h_8 => ?_)
    have hz9 := h_8
    have hz := zc_t hz hz9
    refine zv_iload_n (j := 1) G dX9_noted_11 rfl rfl ?_
    exact zv_iret G hr dX9_noted_12 hz
set_option maxHeartbeats 4000000 in
set_option maxRecDepth 100000 in
theorem zc_X9_adds (l : Launch) (E : za_E) (a1 : Int32) (a2 : Int32) (a3 : Int32) (a4 : Int32) (a5 : Int32) (σ0 : za_S)  : zMi l E yX9_adds cX9_adds 6 (Option.some Jvm.ClassFile.FieldType.int) 7 165 [za_O 0 0, za_I a1, za_I a2, za_I a3, za_I a4, za_I a5] σ0 (fun r σ' => zc σ0 σ') := by
  refine zMi_of [(0, za_O 0 0), (1, za_I a1), (2, za_I a2), (3, za_I a3), (4, za_I a4), (5, za_I a5)] (by decide) rfl rfl (Nat.le_of_ble_eq_true rfl) ?_
  intro ho p e s m args below meth c G hr
  refine zv_gen (R9 := zc σ0) (zc_r σ0) (fun σ hz => ?_)
  refine zv_aload_n (j := 0) G dX9_adds_0 rfl rfl ?_
  refine zg_X9_22 G dX9_adds_1 ?_
  refine zv_aload_n (j := 0) G dX9_adds_4 rfl rfl ?_
  refine zg_X9_10 G dX9_adds_5 ?_
  refine zv_callVNv (as := [za_O 1 1]) G (by decide) rfl rfl (zc_X2_prepare l E 1 σ ) zk_X2_prepare zm_409 rfl ⟨(Nat.le_of_ble_eq_true rfl), (Nat.le_of_ble_eq_true rfl)⟩ ⟨Nat.zero_le _, Nat.zero_le _⟩ (Nat.le_of_ble_eq_true rfl) dX9_adds_8 (fun σ h_8 => ?_)
  have hz9 := h_8
  have hz := zc_t hz hz9
  refine zv_aload_n (j := 0) G dX9_adds_11 rfl rfl ?_
  refine zv_aload_n (j := 0) G dX9_adds_12 rfl rfl ?_
  refine zv_iload_n (j := 1) G dX9_adds_13 rfl rfl ?_
  refine zv_iload_n (j := 2) G dX9_adds_14 rfl rfl ?_
  refine zv_iload_n (j := 3) G dX9_adds_15 rfl rfl ?_
  refine zv_iload (j := 4) G dX9_adds_16 rfl ?_
  refine zv_iload (j := 5) G dX9_adds_18 rfl ?_
  refine zv_callVi (as := [za_I a1, za_I a2, za_I a3, za_I a4, za_I a5]) G (by decide) rfl rfl (zc_X9_addRow l E a1 a2 a3 a4 a5 σ ) zk_X9_addRow zm_431 rfl ⟨(Nat.le_of_ble_eq_true rfl), (Nat.le_of_ble_eq_true rfl)⟩ ⟨Nat.zero_le _, Nat.zero_le _⟩ (Nat.le_of_ble_eq_true rfl) dX9_adds_20 (fun r_20 σ h_20 => ?_)
  have hz9 := h_20
  have hz := zc_t hz hz9
  refine zv_callVi (as := [za_I r_20]) G (by decide) rfl rfl (zc_X9_noted l E r_20 σ ) zk_X9_noted zm_493 rfl ⟨(Nat.le_of_ble_eq_true rfl), (Nat.le_of_ble_eq_true rfl)⟩ ⟨Nat.zero_le _, Nat.zero_le _⟩ (Nat.le_of_ble_eq_true rfl) dX9_adds_23 (fun r_23 σ h_23 => ?_)
  have hz9 := h_23
  have hz := zc_t hz hz9
  exact zv_iret G hr dX9_adds_26 hz
set_option maxHeartbeats 4000000 in
set_option maxRecDepth 100000 in
theorem zc_X6_clear (l : Launch) (E : za_E) (w : Nat) (σ0 : za_S)  : zMv l E yX6_clear cX6_clear 1 (Option.none : Option Jvm.ClassFile.FieldType) 1 21 [za_O 2 w] σ0 (fun σ' => zc σ0 σ') := by
  refine zMv_of [(0, za_O 2 w)] (by decide) rfl rfl (Nat.le_of_ble_eq_true rfl) ?_
  intro ho p e s m args below meth c G hr
  have h_w : za_kd w = 2 := za_okO (by decide) (List.forall_mem_cons.mp ho).1
  refine zv_gen (R9 := zc σ0) (zc_r σ0) (fun σ hz => ?_)
  refine zv_aload_n (j := 0) G dX6_clear_0 rfl rfl ?_
  refine zv_iconst (v := 0) G dX6_clear_1 (by decide) ?_
  refine zp_X6_15 G dX6_clear_2 ?_
  refine zv_gen (R9 := zc σ0) (zc_t hz (zc_k2 h_w)) (fun σ hz => ?_)
  exact zv_vret G hr dX6_clear_5 hz
set_option maxHeartbeats 4000000 in
set_option maxRecDepth 100000 in
theorem zc_X6_changeLast (l : Launch) (E : za_E) (w : Nat) (a1 : Int32) (a2 : Int32) (σ0 : za_S)  : zMv l E yX6_changeLast cX6_changeLast 3 (Option.none : Option Jvm.ClassFile.FieldType) 3 65 [za_O 2 w, za_I a1, za_I a2] σ0 (fun σ' => zc σ0 σ') := by
  refine zMv_of [(0, za_O 2 w), (1, za_I a1), (2, za_I a2)] (by decide) rfl rfl (Nat.le_of_ble_eq_true rfl) ?_
  intro ho p e s m args below meth c G hr
  have h_w : za_kd w = 2 := za_okO (by decide) (List.forall_mem_cons.mp ho).1
  refine zv_gen (R9 := zc σ0) (zc_r σ0) (fun σ hz => ?_)
  refine zv_aload_n (j := 0) G dX6_changeLast_0 rfl rfl ?_
  refine zv_aload_n (j := 0) G dX6_changeLast_1 rfl rfl ?_
  refine zg_X6_15 G dX6_changeLast_2 ?_
  refine zv_iconst (v := 1) G dX6_changeLast_5 (by decide) ?_
  refine zv_isub G dX6_changeLast_6 ?_
  refine zv_iload_n (j := 1) G dX6_changeLast_7 rfl rfl ?_
  refine zv_iload_n (j := 2) G dX6_changeLast_8 rfl rfl ?_
  refine zv_callVv (as := [za_I ((σ.1 w 1) - 1), za_I a1, za_I a2]) G (by decide) rfl rfl (zc_X6_put l E w ((σ.1 w 1) - 1) a1 a2 σ ) zk_X6_put zm_522 rfl ⟨(Nat.le_of_ble_eq_true rfl), (Nat.le_of_ble_eq_true rfl)⟩ ⟨Nat.zero_le _, Nat.zero_le _⟩ (Nat.le_of_ble_eq_true rfl) dX6_changeLast_9 (fun σ h_9 => ?_)
  have hz9 := h_9
  have hz := zc_t hz hz9
  exact zv_vret G hr dX6_changeLast_12 hz
set_option maxHeartbeats 4000000 in
set_option maxRecDepth 100000 in
theorem zc_X6_fillChanged (l : Launch) (E : za_E) (w : Nat) (a1 : Nat) (a2 : Int32) (a3 : Int32) (a4 : Int32) (a5 : Int32) (a6 : Int32) (σ0 : za_S)  : zMv l E yX6_fillChanged cX6_fillChanged 8 (Option.none : Option Jvm.ClassFile.FieldType) 5 111 [za_O 2 w, za_O 2 a1, za_I a2, za_I a3, za_I a4, za_I a5, za_I a6] σ0 (fun σ' => zc σ0 σ') := by
  refine zMv_of [(0, za_O 2 w), (1, za_O 2 a1), (2, za_I a2), (3, za_I a3), (4, za_I a4), (5, za_I a5), (6, za_I a6)] (by decide) rfl rfl (Nat.le_of_ble_eq_true rfl) ?_
  intro ho p e s m args below meth c G hr
  have h_w : za_kd w = 2 := za_okO (by decide) (List.forall_mem_cons.mp ho).1
  have h_a1 : za_kd a1 = 2 := za_okO (by decide) (List.forall_mem_cons.mp (List.forall_mem_cons.mp ho).2).1
  refine zv_gen (R9 := zc σ0) (zc_r σ0) (fun σ hz => ?_)
  refine zv_aload_n (j := 0) G dX6_fillChanged_0 rfl rfl ?_
  refine zv_callVv (as := []) G (by decide) rfl rfl (zc_X6_clear l E w σ ) zk_X6_clear zm_513 rfl ⟨(Nat.le_of_ble_eq_true rfl), (Nat.le_of_ble_eq_true rfl)⟩ ⟨Nat.zero_le _, Nat.zero_le _⟩ (Nat.le_of_ble_eq_true rfl) dX6_fillChanged_1 (fun σ h_1 => ?_)
  have hz9 := h_1
  have hz := zc_t hz hz9
  refine zv_iconst (v := 0) G dX6_fillChanged_4 (by decide) ?_
  have J_7 : ∀ (n : Nat) (y7_7 : Int32) (σ : za_S) (hz : zc σ0 σ) (hn_7 : (2147483648 - y7_7.toInt).toNat < n), zV p l e (zRm 5 111) s m args below meth c E (za_A E) 8 0 0 (MQ below (va_Qv (fun σ' => zc σ0 σ') (zB E) (za_A E)) args s 0 0 (za_A E)) 7 [(0, za_O 2 w), (1, za_O 2 a1), (2, za_I a2), (3, za_I a3), (4, za_I a4), (5, za_I a5), (6, za_I a6), (7, za_I y7_7)] [] σ := by
    intro n
    induction n with
    | zero => intro y7_7 σ hz hn; exact absurd hn (Nat.not_lt_zero _)
    | succ n ih_7 =>
      intro y7_7 σ hz hn_7
      refine zv_iload (j := 7) G dX6_fillChanged_7 rfl ?_
      refine zv_aload_n (j := 1) G dX6_fillChanged_9 rfl rfl ?_
      refine zg_X6_15 G dX6_fillChanged_10 ?_
      refine zv_icmp_ge (tgt := 99) G dX6_fillChanged_13 (by decide) (fun c_13 => ?_) (fun c_13 => ?_)
      · exact zv_vret G hr dX6_fillChanged_99 hz
      · refine zv_aload_n (j := 1) G dX6_fillChanged_16 rfl rfl ?_
        refine zv_iload (j := 7) G dX6_fillChanged_17 rfl ?_
        refine zv_iload_n (j := 2) G dX6_fillChanged_19 rfl rfl ?_
        refine zv_iload_n (j := 3) G dX6_fillChanged_20 rfl rfl ?_
        refine zv_iload (j := 4) G dX6_fillChanged_21 rfl ?_
        refine zv_callVi (as := [za_I y7_7, za_I a2, za_I a3, za_I a4]) G (by decide) rfl rfl (zc_X6_touches l E a1 y7_7 a2 a3 a4 σ ) zk_X6_touches zm_461 rfl ⟨(Nat.le_of_ble_eq_true rfl), (Nat.le_of_ble_eq_true rfl)⟩ ⟨Nat.zero_le _, Nat.zero_le _⟩ (Nat.le_of_ble_eq_true rfl) dX6_fillChanged_23 (fun r_23 σ h_23 => ?_)
        obtain ⟨h_23, rfl⟩ := h_23
        have J_83 : ∀  (σ : za_S) (hz : zc σ0 σ), zV p l e (zRm 5 111) s m args below meth c E (za_A E) 8 0 0 (MQ below (va_Qv (fun σ' => zc σ0 σ') (zB E) (za_A E)) args s 0 0 (za_A E)) 83 [(0, za_O 2 w), (1, za_O 2 a1), (2, za_I a2), (3, za_I a3), (4, za_I a4), (5, za_I a5), (6, za_I a6), (7, za_I y7_7)] [] σ := by
          intro σ hz
          refine zv_aload_n (j := 0) G dX6_fillChanged_83 rfl rfl ?_
          refine zv_aload_n (j := 1) G dX6_fillChanged_84 rfl rfl ?_
          refine zv_iload (j := 7) G dX6_fillChanged_85 rfl ?_
          refine zv_iconst (v := 0) G dX6_fillChanged_87 (by decide) ?_
          refine zv_bipush (v := 100) G dX6_fillChanged_88 (by decide) ?_
          refine zv_callVv (as := [za_O 2 a1, za_I y7_7, za_I 0, za_I 100]) G (by decide) rfl rfl (zc_X6_appendPart l E w a1 y7_7 (0 : Int32) (100 : Int32) σ ) zk_X6_appendPart zm_517 rfl ⟨(Nat.le_of_ble_eq_true rfl), (Nat.le_of_ble_eq_true rfl)⟩ ⟨Nat.zero_le _, Nat.zero_le _⟩ (Nat.le_of_ble_eq_true rfl) dX6_fillChanged_90 (fun σ h_90 => ?_)
          have hz9 := h_90
          have hz := zc_t hz hz9
          obtain ⟨x_93, e_93⟩ : ∃ y : Int32, y = y7_7 + 1 := ⟨_, rfl⟩
          refine zv_iinc (j := 7) (v := x_93) (lv' := [(7, za_I x_93), (0, za_O 2 w), (1, za_O 2 a1), (2, za_I a2), (3, za_I a3), (4, za_I a4), (5, za_I a5), (6, za_I a6)]) G dX6_fillChanged_93 rfl (by rw [e_93]; rfl) (by decide) rfl ?_
          refine zv_goto (tgt := 7) G dX6_fillChanged_96 (by decide) ?_
          refine zv_sub [1, 2, 3, 4, 5, 6, 7, 0] (lv' := [(0, za_O 2 w), (1, za_O 2 a1), (2, za_I a2), (3, za_I a3), (4, za_I a4), (5, za_I a5), (6, za_I a6), (7, za_I x_93)]) rfl ?_
          exact ih_7 x_93 σ hz (z_meas c_13 e_93 hn_7)
        refine zv_if_eq (tgt := 83) G dX6_fillChanged_26 (by decide) (fun c_26 => ?_) (fun c_26 => ?_)
        · refine zv_sub [0, 1, 2, 3, 4, 5, 6, 7] (lv' := [(0, za_O 2 w), (1, za_O 2 a1), (2, za_I a2), (3, za_I a3), (4, za_I a4), (5, za_I a5), (6, za_I a6), (7, za_I y7_7)]) rfl ?_
          exact J_83 σ hz
        · refine zv_aload_n (j := 1) G dX6_fillChanged_29 rfl rfl ?_
          refine zv_iload (j := 7) G dX6_fillChanged_30 rfl ?_
          refine zv_iload (j := 5) G dX6_fillChanged_32 rfl ?_
          refine zv_callVi (as := [za_I y7_7, za_I a5]) G (by decide) rfl rfl (zc_X6_cell l E a1 y7_7 a5 σ ) zk_X6_cell zm_465 rfl ⟨(Nat.le_of_ble_eq_true rfl), (Nat.le_of_ble_eq_true rfl)⟩ ⟨Nat.zero_le _, Nat.zero_le _⟩ (Nat.le_of_ble_eq_true rfl) dX6_fillChanged_34 (fun r_34 σ h_34 => ?_)
          subst h_34
          refine zv_iload (j := 6) G dX6_fillChanged_37 rfl ?_
          refine zv_icmp_eq (tgt := 83) G dX6_fillChanged_39 (by decide) (fun c_39 => ?_) (fun c_39 => ?_)
          · refine zv_sub [0, 1, 2, 3, 4, 5, 6, 7] (lv' := [(0, za_O 2 w), (1, za_O 2 a1), (2, za_I a2), (3, za_I a3), (4, za_I a4), (5, za_I a5), (6, za_I a6), (7, za_I y7_7)]) rfl ?_
            exact J_83 σ hz
          · refine zv_aload_n (j := 0) G dX6_fillChanged_42 rfl rfl ?_
            refine zv_aload_n (j := 1) G dX6_fillChanged_43 rfl rfl ?_
            refine zv_iload (j := 7) G dX6_fillChanged_44 rfl ?_
            refine zv_iconst (v := 0) G dX6_fillChanged_46 (by decide) ?_
            refine zv_iload_n (j := 3) G dX6_fillChanged_47 rfl rfl ?_
            refine zv_callVv (as := [za_O 2 a1, za_I y7_7, za_I 0, za_I a3]) G (by decide) rfl rfl (zc_X6_appendPart l E w a1 y7_7 (0 : Int32) a3 σ ) zk_X6_appendPart zm_517 rfl ⟨(Nat.le_of_ble_eq_true rfl), (Nat.le_of_ble_eq_true rfl)⟩ ⟨Nat.zero_le _, Nat.zero_le _⟩ (Nat.le_of_ble_eq_true rfl) dX6_fillChanged_48 (fun σ h_48 => ?_)
            have hz9 := h_48
            have hz := zc_t hz hz9
            refine zv_aload_n (j := 0) G dX6_fillChanged_51 rfl rfl ?_
            refine zv_aload_n (j := 1) G dX6_fillChanged_52 rfl rfl ?_
            refine zv_iload (j := 7) G dX6_fillChanged_53 rfl ?_
            refine zv_iload_n (j := 3) G dX6_fillChanged_55 rfl rfl ?_
            refine zv_iload (j := 4) G dX6_fillChanged_56 rfl ?_
            refine zv_callVv (as := [za_O 2 a1, za_I y7_7, za_I a3, za_I a4]) G (by decide) rfl rfl (zc_X6_appendPart l E w a1 y7_7 a3 a4 σ ) zk_X6_appendPart zm_517 rfl ⟨(Nat.le_of_ble_eq_true rfl), (Nat.le_of_ble_eq_true rfl)⟩ ⟨Nat.zero_le _, Nat.zero_le _⟩ (Nat.le_of_ble_eq_true rfl) dX6_fillChanged_58 (fun σ h_58 => ?_)
            have hz9 := h_58
            have hz := zc_t hz hz9
            refine zv_aload_n (j := 0) G dX6_fillChanged_61 rfl rfl ?_
            refine zv_iload (j := 5) G dX6_fillChanged_62 rfl ?_
            refine zv_iload (j := 6) G dX6_fillChanged_64 rfl ?_
            refine zv_callVv (as := [za_I a5, za_I a6]) G (by decide) rfl rfl (zc_X6_changeLast l E w a5 a6 σ ) zk_X6_changeLast zm_518 rfl ⟨(Nat.le_of_ble_eq_true rfl), (Nat.le_of_ble_eq_true rfl)⟩ ⟨Nat.zero_le _, Nat.zero_le _⟩ (Nat.le_of_ble_eq_true rfl) dX6_fillChanged_66 (fun σ h_66 => ?_)
            have hz9 := h_66
            have hz := zc_t hz hz9
            refine zv_aload_n (j := 0) G dX6_fillChanged_69 rfl rfl ?_
            refine zv_aload_n (j := 1) G dX6_fillChanged_70 rfl rfl ?_
            refine zv_iload (j := 7) G dX6_fillChanged_71 rfl ?_
            refine zv_iload (j := 4) G dX6_fillChanged_73 rfl ?_
            refine zv_bipush (v := 100) G dX6_fillChanged_75 (by decide) ?_
            refine zv_callVv (as := [za_O 2 a1, za_I y7_7, za_I a4, za_I 100]) G (by decide) rfl rfl (zc_X6_appendPart l E w a1 y7_7 a4 (100 : Int32) σ ) zk_X6_appendPart zm_517 rfl ⟨(Nat.le_of_ble_eq_true rfl), (Nat.le_of_ble_eq_true rfl)⟩ ⟨Nat.zero_le _, Nat.zero_le _⟩ (Nat.le_of_ble_eq_true rfl) dX6_fillChanged_77 (fun σ h_77 => ?_)
            have hz9 := h_77
            have hz := zc_t hz hz9
            refine zv_goto (tgt := 93) G dX6_fillChanged_80 (by decide) ?_
            obtain ⟨x_93, e_93⟩ : ∃ y : Int32, y = y7_7 + 1 := ⟨_, rfl⟩
            refine zv_iinc (j := 7) (v := x_93) (lv' := [(7, za_I x_93), (0, za_O 2 w), (1, za_O 2 a1), (2, za_I a2), (3, za_I a3), (4, za_I a4), (5, za_I a5), (6, za_I a6)]) G dX6_fillChanged_93 rfl (by rw [e_93]; rfl) (by decide) rfl ?_
            refine zv_goto (tgt := 7) G dX6_fillChanged_96 (by decide) ?_
            refine zv_sub [1, 2, 3, 4, 5, 6, 7, 0] (lv' := [(0, za_O 2 w), (1, za_O 2 a1), (2, za_I a2), (3, za_I a3), (4, za_I a4), (5, za_I a5), (6, za_I a6), (7, za_I x_93)]) rfl ?_
            exact ih_7 x_93 σ hz (z_meas c_13 e_93 hn_7)
  refine zv_istore (lv' := [(7, za_I 0), (0, za_O 2 w), (1, za_O 2 a1), (2, za_I a2), (3, za_I a3), (4, za_I a4), (5, za_I a5), (6, za_I a6)]) G dX6_fillChanged_5 (by decide) rfl ?_
  refine zv_sub [1, 2, 3, 4, 5, 6, 7, 0] (lv' := [(0, za_O 2 w), (1, za_O 2 a1), (2, za_I a2), (3, za_I a3), (4, za_I a4), (5, za_I a5), (6, za_I a6), (7, za_I 0)]) rfl ?_
  exact J_7 _ (0 : Int32) σ hz (Nat.lt_succ_self _)
set_option maxHeartbeats 4000000 in
set_option maxRecDepth 100000 in
theorem zc_X8_clear (l : Launch) (E : za_E)  (σ0 : za_S)  : zMv l E yX8_clear cX8_clear 1 (Option.none : Option Jvm.ClassFile.FieldType) 1 21 [za_O 9 81] σ0 (fun σ' => zc σ0 σ') := by
  refine zMv_of [(0, za_O 9 81)] (by decide) rfl rfl (Nat.le_of_ble_eq_true rfl) ?_
  intro ho p e s m args below meth c G hr
  refine zv_gen (R9 := zc σ0) (zc_r σ0) (fun σ hz => ?_)
  refine zv_aload_n (j := 0) G dX8_clear_0 rfl rfl ?_
  refine zv_iconst (v := 0) G dX8_clear_1 (by decide) ?_
  refine zp_X8_13 G dX8_clear_2 ?_
  refine zv_gen (R9 := zc σ0) (zc_t hz (zc_k9 rfl)) (fun σ hz => ?_)
  exact zv_vret G hr dX8_clear_5 hz
set_option maxHeartbeats 4000000 in
set_option maxRecDepth 100000 in
theorem zc_X8_add (l : Launch) (E : za_E) (a1 : Int64) (σ0 : za_S)  : zMv l E yX8_add cX8_add 3 (Option.none : Option Jvm.ClassFile.FieldType) 1 21 [za_O 9 81, za_L a1] σ0 (fun σ' => zc σ0 σ') := by
  refine zMv_of [(0, za_O 9 81), (1, za_L a1)] (by decide) rfl rfl (Nat.le_of_ble_eq_true rfl) ?_
  intro ho p e s m args below meth c G hr
  refine zv_gen (R9 := zc σ0) (zc_r σ0) (fun σ hz => ?_)
  refine zv_aload_n (j := 0) G dX8_add_0 rfl rfl ?_
  refine zg_X8_13 G dX8_add_1 ?_
  refine zv_if_lt (tgt := 36) G dX8_add_4 (by decide) (fun c_4 => ?_) (fun c_4 => ?_)
  · exact zv_vret G hr dX8_add_36 hz
  · refine zv_aload_n (j := 0) G dX8_add_7 rfl rfl ?_
    refine zg_X8_13 G dX8_add_8 ?_
    refine zv_bipush (v := 12) G dX8_add_11 (by decide) ?_
    refine zv_icmp_ge (tgt := 36) G dX8_add_13 (by decide) (fun c_13 => ?_) (fun c_13 => ?_)
    · exact zv_vret G hr dX8_add_36 hz
    · refine zv_aload_n (j := 0) G dX8_add_16 rfl rfl ?_
      refine zg_X8_9 G dX8_add_17 ?_
      refine zv_aload_n (j := 0) G dX8_add_20 rfl rfl ?_
      refine zg_X8_13 G dX8_add_21 ?_
      refine zv_lload_n (j := 1) G dX8_add_24 rfl rfl ?_
      refine zv_last G (by decide) rfl (fun _ => rfl) (z_in (z_ge0 c_4) (z_ltk c_13 (n := 12) rfl)) dX8_add_25 ?_
      refine zv_gen (R9 := zc σ0) (zc_t hz (zc_sl (by decide))) (fun σ hz => ?_)
      refine zv_aload_n (j := 0) G dX8_add_26 rfl rfl ?_
      refine zv_dupO G dX8_add_27 ?_
      refine zg_X8_13 G dX8_add_28 ?_
      refine zv_iconst (v := 1) G dX8_add_31 (by decide) ?_
      refine zv_iadd G dX8_add_32 ?_
      refine zp_X8_13 G dX8_add_33 ?_
      refine zv_gen (R9 := zc σ0) (zc_t hz (zc_k9 rfl)) (fun σ hz => ?_)
      exact zv_vret G hr dX8_add_36 hz
set_option maxHeartbeats 4000000 in
set_option maxRecDepth 100000 in
theorem zc_X8_tell (l : Launch) (E : za_E) (a1 : Int64) (σ0 : za_S)  : zMv l E yX8_tell cX8_tell 3 (Option.none : Option Jvm.ClassFile.FieldType) 2 43 [za_O 9 81, za_L a1] σ0 (fun σ' => zc σ0 σ') := by
  refine zMv_of [(0, za_O 9 81), (1, za_L a1)] (by decide) rfl rfl (Nat.le_of_ble_eq_true rfl) ?_
  intro ho p e s m args below meth c G hr
  refine zv_gen (R9 := zc σ0) (zc_r σ0) (fun σ hz => ?_)
  refine zv_aload_n (j := 0) G dX8_tell_0 rfl rfl ?_
  refine zv_callVv (as := []) G (by decide) rfl rfl (zc_X8_clear l E  σ ) zk_X8_clear zm_531 rfl ⟨(Nat.le_of_ble_eq_true rfl), (Nat.le_of_ble_eq_true rfl)⟩ ⟨Nat.zero_le _, Nat.zero_le _⟩ (Nat.le_of_ble_eq_true rfl) dX8_tell_1 (fun σ h_1 => ?_)
  have hz9 := h_1
  have hz := zc_t hz hz9
  refine zv_aload_n (j := 0) G dX8_tell_4 rfl rfl ?_
  refine zv_lload_n (j := 1) G dX8_tell_5 rfl rfl ?_
  refine zv_callVv (as := [za_L a1]) G (by decide) rfl rfl (zc_X8_add l E a1 σ ) zk_X8_add zm_535 rfl ⟨(Nat.le_of_ble_eq_true rfl), (Nat.le_of_ble_eq_true rfl)⟩ ⟨Nat.zero_le _, Nat.zero_le _⟩ (Nat.le_of_ble_eq_true rfl) dX8_tell_6 (fun σ h_6 => ?_)
  have hz9 := h_6
  have hz := zc_t hz hz9
  exact zv_vret G hr dX8_tell_9 hz
set_option maxHeartbeats 4000000 in
set_option maxRecDepth 100000 in
theorem zc_X9_takenAndTold (l : Launch) (E : za_E) (a1 : Int32) (a2 : Int32) (σ0 : za_S)  : zMi l E yX9_takenAndTold cX9_takenAndTold 4 (Option.some Jvm.ClassFile.FieldType.int) 4 123 [za_O 0 0, za_I a1, za_I a2] σ0 (fun r σ' => zc σ0 σ') := by
  refine zMi_of [(0, za_O 0 0), (1, za_I a1), (2, za_I a2)] (by decide) rfl rfl (Nat.le_of_ble_eq_true rfl) ?_
  intro ho p e s m args below meth c G hr
  refine zv_gen (R9 := zc σ0) (zc_r σ0) (fun σ hz => ?_)
  refine zv_aload_n (j := 0) G dX9_takenAndTold_0 rfl rfl ?_
  refine zv_iload_n (j := 1) G dX9_takenAndTold_1 rfl rfl ?_
  refine zv_callVi (as := [za_I a1]) G (by decide) rfl rfl (zc_X9_taken l E a1 σ ) zk_X9_taken zm_489 rfl ⟨(Nat.le_of_ble_eq_true rfl), (Nat.le_of_ble_eq_true rfl)⟩ ⟨Nat.zero_le _, Nat.zero_le _⟩ (Nat.le_of_ble_eq_true rfl) dX9_takenAndTold_2 (fun r_2 σ h_2 => ?_)
  have hz9 := h_2
  have hz := zc_t hz hz9
  refine zv_istore_n (lv' := [(3, za_I r_2), (0, za_O 0 0), (1, za_I a1), (2, za_I a2)]) G dX9_takenAndTold_5 rfl (by decide) rfl ?_
  refine zv_iload_n (j := 0) G dX9_takenAndTold_6 rfl rfl ?_
  refine zv_if_lt (tgt := 29) G dX9_takenAndTold_7 (by decide) (fun c_7 => ?_) (fun c_7 => ?_)
  · refine zv_iload_n (j := 0) G dX9_takenAndTold_29 rfl rfl ?_
    exact zv_iret G hr dX9_takenAndTold_30 hz
  · refine zv_aload_n (j := 1) G dX9_takenAndTold_10 rfl rfl ?_
    refine zg_X9_40 G dX9_takenAndTold_11 ?_
    refine zv_aload_n (j := 1) G dX9_takenAndTold_14 rfl rfl ?_
    refine zg_X9_10 G dX9_takenAndTold_15 ?_
    refine zv_iload_n (j := 3) G dX9_takenAndTold_18 rfl rfl ?_
    refine zv_callVNr (as := [za_I a2]) G (by decide) rfl rfl (zc_X4_table l E 1 a2 σ ) zk_X4_table zm_453 rfl ⟨(Nat.le_of_ble_eq_true rfl), (Nat.le_of_ble_eq_true rfl)⟩ ⟨Nat.zero_le _, Nat.zero_le _⟩ (Nat.le_of_ble_eq_true rfl) dX9_takenAndTold_19 (fun r_19 σ h_19 => ?_)
    obtain ⟨w_19, rfl, h_w_19, t_19, rfl⟩ := h_19
    refine zg_X9_106 G dX9_takenAndTold_22 ?_
    refine zv_i2l G dX9_takenAndTold_25 ?_
    refine zv_callVNv (as := [za_L ((σ.1 w_19 1).toInt64)]) G (by decide) rfl rfl (zc_X8_tell l E ((σ.1 w_19 1).toInt64) σ ) zk_X8_tell zm_527 rfl ⟨(Nat.le_of_ble_eq_true rfl), (Nat.le_of_ble_eq_true rfl)⟩ ⟨Nat.zero_le _, Nat.zero_le _⟩ (Nat.le_of_ble_eq_true rfl) dX9_takenAndTold_26 (fun σ h_26 => ?_)
    have hz9 := h_26
    have hz := zc_t hz hz9
    refine zv_iload_n (j := 0) G dX9_takenAndTold_29 rfl rfl ?_
    exact zv_iret G hr dX9_takenAndTold_30 hz
set_option maxHeartbeats 4000000 in
set_option maxRecDepth 100000 in
theorem zc_X9_setValue (l : Launch) (E : za_E) (a1 : Int32) (a2 : Int32) (a3 : Int32) (a4 : Int32) (a5 : Int32) (σ0 : za_S)  : zMi l E yX9_setValue cX9_setValue 8 (Option.some Jvm.ClassFile.FieldType.int) 6 146 [za_O 0 0, za_I a1, za_I a2, za_I a3, za_I a4, za_I a5] σ0 (fun r σ' => zc σ0 σ') := by
  refine zMi_of [(0, za_O 0 0), (1, za_I a1), (2, za_I a2), (3, za_I a3), (4, za_I a4), (5, za_I a5)] (by decide) rfl rfl (Nat.le_of_ble_eq_true rfl) ?_
  intro ho p e s m args below meth c G hr
  refine zv_gen (R9 := zc σ0) (zc_r σ0) (fun σ hz => ?_)
  refine zv_iload_n (j := 1) G dX9_setValue_0 rfl rfl ?_
  refine zv_iload_n (j := 2) G dX9_setValue_1 rfl rfl ?_
  refine zv_iload (j := 4) G dX9_setValue_2 rfl ?_
  refine zv_iload (j := 5) G dX9_setValue_4 rfl ?_
  refine zv_callSi (as := [za_I a1, za_I a2, za_I a4, za_I a5]) G (zc_X9_isPortion l E a1 a2 a4 a5 σ ) zk_X9_isPortion zm_435 rfl ⟨(Nat.le_of_ble_eq_true rfl), (Nat.le_of_ble_eq_true rfl)⟩ ⟨Nat.zero_le _, Nat.zero_le _⟩ (Nat.le_of_ble_eq_true rfl) dX9_setValue_6 (fun r_6 σ h_6 => ?_)
  obtain ⟨h_6, rfl⟩ := h_6
  refine zv_if_eq (tgt := 19) G dX9_setValue_9 (by decide) (fun c_9 => ?_) (fun c_9 => ?_)
  · refine zv_iconst (v := (-1)) G dX9_setValue_19 (by decide) ?_
    exact zv_iret G hr dX9_setValue_20 hz
  · refine zv_iload_n (j := 3) G dX9_setValue_12 rfl rfl ?_
    refine zv_callSi (as := [za_I a3]) G (zc_X9_isValue l E a3 σ ) zk_X9_isValue zm_450 rfl ⟨(Nat.le_of_ble_eq_true rfl), (Nat.le_of_ble_eq_true rfl)⟩ ⟨Nat.zero_le _, Nat.zero_le _⟩ (Nat.le_of_ble_eq_true rfl) dX9_setValue_13 (fun r_13 σ h_13 => ?_)
    obtain ⟨h_13, rfl⟩ := h_13
    refine zv_if_ne (tgt := 21) G dX9_setValue_16 (by decide) (fun c_16 => ?_) (fun c_16 => ?_)
    · refine zv_aload_n (j := 0) G dX9_setValue_21 rfl rfl ?_
      refine zg_X9_10 G dX9_setValue_22 ?_
      refine zv_iload_n (j := 1) G dX9_setValue_25 rfl rfl ?_
      refine zv_callVNr (as := [za_I a1]) G (by decide) rfl rfl (zc_X4_table l E 1 a1 σ ) zk_X4_table zm_453 rfl ⟨(Nat.le_of_ble_eq_true rfl), (Nat.le_of_ble_eq_true rfl)⟩ ⟨Nat.zero_le _, Nat.zero_le _⟩ (Nat.le_of_ble_eq_true rfl) dX9_setValue_26 (fun r_26 σ h_26 => ?_)
      obtain ⟨w_26, rfl, h_w_26, t_26, rfl⟩ := h_26
      refine zv_astore (lv' := [(6, za_O 2 w_26), (0, za_O 0 0), (1, za_I a1), (2, za_I a2), (3, za_I a3), (4, za_I a4), (5, za_I a5)]) G dX9_setValue_29 (by decide) rfl ?_
      refine zv_aload (j := 0) G dX9_setValue_31 rfl ?_
      refine zv_iload_n (j := 3) G dX9_setValue_33 rfl rfl ?_
      refine zv_iload (j := 5) G dX9_setValue_34 rfl ?_
      refine zv_iload (j := 6) G dX9_setValue_36 rfl ?_
      refine zv_callVNi (as := [za_I a2, za_I a4, za_I a5]) G (by decide) rfl rfl (zc_X6_touching l E w_26 a2 a4 a5 σ ) zk_X6_touching zm_457 rfl ⟨(Nat.le_of_ble_eq_true rfl), (Nat.le_of_ble_eq_true rfl)⟩ ⟨Nat.zero_le _, Nat.zero_le _⟩ (Nat.le_of_ble_eq_true rfl) dX9_setValue_38 (fun r_38 σ h_38 => ?_)
      subst h_38
      refine zv_istore (lv' := [(7, za_I r_38), (6, za_O 2 w_26), (0, za_O 0 0), (1, za_I a1), (2, za_I a2), (3, za_I a3), (4, za_I a4), (5, za_I a5)]) G dX9_setValue_41 (by decide) rfl ?_
      refine zv_iload (j := 0) G dX9_setValue_43 rfl ?_
      refine zv_if_ne (tgt := 51) G dX9_setValue_45 (by decide) (fun c_45 => ?_) (fun c_45 => ?_)
      · refine zv_aload_n (j := 2) G dX9_setValue_51 rfl rfl ?_
        refine zg_X9_16 G dX9_setValue_52 ?_
        refine zv_aload_n (j := 2) G dX9_setValue_55 rfl rfl ?_
        refine zg_X9_10 G dX9_setValue_56 ?_
        refine zv_callVNv (as := [za_O 1 1]) G (by decide) rfl rfl (zc_X4_copyOf l E 6 1 σ ) zk_X4_copyOf zm_475 rfl ⟨(Nat.le_of_ble_eq_true rfl), (Nat.le_of_ble_eq_true rfl)⟩ ⟨Nat.zero_le _, Nat.zero_le _⟩ (Nat.le_of_ble_eq_true rfl) dX9_setValue_59 (fun σ h_59 => ?_)
        have hz9 := h_59
        have hz := zc_t hz hz9
        refine zv_aload_n (j := 2) G dX9_setValue_62 rfl rfl ?_
        refine zg_X9_16 G dX9_setValue_63 ?_
        refine zv_iload_n (j := 3) G dX9_setValue_66 rfl rfl ?_
        refine zv_callVNr (as := [za_I a1]) G (by decide) rfl rfl (zc_X4_table l E 6 a1 σ ) zk_X4_table zm_453 rfl ⟨(Nat.le_of_ble_eq_true rfl), (Nat.le_of_ble_eq_true rfl)⟩ ⟨Nat.zero_le _, Nat.zero_le _⟩ (Nat.le_of_ble_eq_true rfl) dX9_setValue_67 (fun r_67 σ h_67 => ?_)
        obtain ⟨w_67, rfl, h_w_67, t_67, rfl⟩ := h_67
        refine zv_aload (j := 1) G dX9_setValue_70 rfl ?_
        refine zv_iload_n (j := 4) G dX9_setValue_72 rfl rfl ?_
        refine zv_iload (j := 6) G dX9_setValue_73 rfl ?_
        refine zv_iload (j := 7) G dX9_setValue_75 rfl ?_
        refine zv_iconst (v := 1) G dX9_setValue_77 (by decide) ?_
        refine zv_iload_n (j := 5) G dX9_setValue_78 rfl rfl ?_
        refine zv_callVNv (as := [za_O 2 w_26, za_I a2, za_I a4, za_I a5, za_I 1, za_I a3]) G (by decide) rfl rfl (zc_X6_fillChanged l E w_67 w_26 a2 a4 a5 (1 : Int32) a3 σ ) zk_X6_fillChanged zm_509 rfl ⟨(Nat.le_of_ble_eq_true rfl), (Nat.le_of_ble_eq_true rfl)⟩ ⟨Nat.zero_le _, Nat.zero_le _⟩ (Nat.le_of_ble_eq_true rfl) dX9_setValue_79 (fun σ h_79 => ?_)
        have hz9 := h_79
        have hz := zc_t hz hz9
        refine zv_aload_n (j := 2) G dX9_setValue_82 rfl rfl ?_
        refine zv_iload (j := 0) G dX9_setValue_83 rfl ?_
        refine zv_iload_n (j := 3) G dX9_setValue_85 rfl rfl ?_
        refine zv_callVi (as := [za_I r_38, za_I a1]) G (by decide) rfl rfl (zc_X9_takenAndTold l E r_38 a1 σ ) zk_X9_takenAndTold zm_523 rfl ⟨(Nat.le_of_ble_eq_true rfl), (Nat.le_of_ble_eq_true rfl)⟩ ⟨Nat.zero_le _, Nat.zero_le _⟩ (Nat.le_of_ble_eq_true rfl) dX9_setValue_86 (fun r_86 σ h_86 => ?_)
        have hz9 := h_86
        have hz := zc_t hz hz9
        exact zv_iret G hr dX9_setValue_89 hz
      · refine zv_bipush (v := (-2)) G dX9_setValue_48 (by decide) ?_
        exact zv_iret G hr dX9_setValue_50 hz
    · refine zv_iconst (v := (-1)) G dX9_setValue_19 (by decide) ?_
      exact zv_iret G hr dX9_setValue_20 hz
set_option maxHeartbeats 4000000 in
set_option maxRecDepth 100000 in
theorem zc_X9_sets (l : Launch) (E : za_E) (a1 : Int32) (a2 : Int32) (a3 : Int32) (a4 : Int32) (a5 : Int32) (σ0 : za_S)  : zMi l E yX9_sets cX9_sets 6 (Option.some Jvm.ClassFile.FieldType.int) 7 173 [za_O 0 0, za_I a1, za_I a2, za_I a3, za_I a4, za_I a5] σ0 (fun r σ' => zc σ0 σ') := by
  refine zMi_of [(0, za_O 0 0), (1, za_I a1), (2, za_I a2), (3, za_I a3), (4, za_I a4), (5, za_I a5)] (by decide) rfl rfl (Nat.le_of_ble_eq_true rfl) ?_
  intro ho p e s m args below meth c G hr
  refine zv_gen (R9 := zc σ0) (zc_r σ0) (fun σ hz => ?_)
  refine zv_aload_n (j := 0) G dX9_sets_0 rfl rfl ?_
  refine zg_X9_22 G dX9_sets_1 ?_
  refine zv_aload_n (j := 0) G dX9_sets_4 rfl rfl ?_
  refine zg_X9_10 G dX9_sets_5 ?_
  refine zv_callVNv (as := [za_O 1 1]) G (by decide) rfl rfl (zc_X2_prepare l E 1 σ ) zk_X2_prepare zm_409 rfl ⟨(Nat.le_of_ble_eq_true rfl), (Nat.le_of_ble_eq_true rfl)⟩ ⟨Nat.zero_le _, Nat.zero_le _⟩ (Nat.le_of_ble_eq_true rfl) dX9_sets_8 (fun σ h_8 => ?_)
  have hz9 := h_8
  have hz := zc_t hz hz9
  refine zv_aload_n (j := 0) G dX9_sets_11 rfl rfl ?_
  refine zv_aload_n (j := 0) G dX9_sets_12 rfl rfl ?_
  refine zv_iload_n (j := 1) G dX9_sets_13 rfl rfl ?_
  refine zv_iload_n (j := 2) G dX9_sets_14 rfl rfl ?_
  refine zv_iload_n (j := 3) G dX9_sets_15 rfl rfl ?_
  refine zv_iload (j := 4) G dX9_sets_16 rfl ?_
  refine zv_iload (j := 5) G dX9_sets_18 rfl ?_
  refine zv_callVi (as := [za_I a1, za_I a2, za_I a3, za_I a4, za_I a5]) G (by decide) rfl rfl (zc_X9_setValue l E a1 a2 a3 a4 a5 σ ) zk_X9_setValue zm_505 rfl ⟨(Nat.le_of_ble_eq_true rfl), (Nat.le_of_ble_eq_true rfl)⟩ ⟨Nat.zero_le _, Nat.zero_le _⟩ (Nat.le_of_ble_eq_true rfl) dX9_sets_20 (fun r_20 σ h_20 => ?_)
  have hz9 := h_20
  have hz := zc_t hz hz9
  refine zv_callVi (as := [za_I r_20]) G (by decide) rfl rfl (zc_X9_noted l E r_20 σ ) zk_X9_noted zm_493 rfl ⟨(Nat.le_of_ble_eq_true rfl), (Nat.le_of_ble_eq_true rfl)⟩ ⟨Nat.zero_le _, Nat.zero_le _⟩ (Nat.le_of_ble_eq_true rfl) dX9_sets_23 (fun r_23 σ h_23 => ?_)
  have hz9 := h_23
  have hz := zc_t hz hz9
  exact zv_iret G hr dX9_sets_26 hz
set_option maxHeartbeats 4000000 in
set_option maxRecDepth 100000 in
theorem zc_X6_daysWithin (l : Launch) (E : za_E) (w : Nat) (a1 : Int32) (a2 : Int32) (a3 : Int32) (σ : za_S)  : zMi l E yX6_daysWithin cX6_daysWithin 6 (Option.some Jvm.ClassFile.FieldType.int) 4 87 [za_O 2 w, za_I a1, za_I a2, za_I a3] σ (fun r σ' => σ' = σ) := by
  refine zMi_of [(0, za_O 2 w), (1, za_I a1), (2, za_I a2), (3, za_I a3)] (by decide) rfl rfl (Nat.le_of_ble_eq_true rfl) ?_
  intro ho p e s m args below meth c G hr
  have h_w : za_kd w = 2 := za_okO (by decide) (List.forall_mem_cons.mp ho).1
  refine zv_iconst (v := 0) G dX6_daysWithin_0 (by decide) ?_
  refine zv_istore (lv' := [(4, za_I 0), (0, za_O 2 w), (1, za_I a1), (2, za_I a2), (3, za_I a3)]) G dX6_daysWithin_1 (by decide) rfl ?_
  refine zv_iconst (v := 0) G dX6_daysWithin_3 (by decide) ?_
  have J_6 : ∀ (n : Nat) (y4_6 : Int32) (y5_6 : Int32) (hn_6 : (2147483648 - y5_6.toInt).toNat < n), zV p l e (zRm 4 87) s m args below meth c E (za_A E) 6 0 0 (MQ below (va_Qi (fun r σ' => σ' = σ) (zB E) (za_A E)) args s 0 0 (za_A E)) 6 [(0, za_O 2 w), (1, za_I a1), (2, za_I a2), (3, za_I a3), (4, za_I y4_6), (5, za_I y5_6)] [] σ := by
    intro n
    induction n with
    | zero => intro y4_6 y5_6 hn; exact absurd hn (Nat.not_lt_zero _)
    | succ n ih_6 =>
      intro y4_6 y5_6 hn_6
      refine zv_iload (j := 5) G dX6_daysWithin_6 rfl ?_
      refine zv_aload_n (j := 0) G dX6_daysWithin_8 rfl rfl ?_
      refine zg_X6_15 G dX6_daysWithin_9 ?_
      refine zv_icmp_ge (tgt := 45) G dX6_daysWithin_12 (by decide) (fun c_12 => ?_) (fun c_12 => ?_)
      · refine zv_iload (j := 4) G dX6_daysWithin_45 rfl ?_
        exact zv_iret G hr dX6_daysWithin_47 rfl
      · refine zv_aload_n (j := 0) G dX6_daysWithin_15 rfl rfl ?_
        refine zv_iload (j := 5) G dX6_daysWithin_16 rfl ?_
        refine zv_iconst (v := 0) G dX6_daysWithin_18 (by decide) ?_
        refine zv_callVi (as := [za_I y5_6, za_I 0]) G (by decide) rfl rfl (zc_X6_cell l E w y5_6 (0 : Int32) σ ) zk_X6_cell zm_465 rfl ⟨(Nat.le_of_ble_eq_true rfl), (Nat.le_of_ble_eq_true rfl)⟩ ⟨Nat.zero_le _, Nat.zero_le _⟩ (Nat.le_of_ble_eq_true rfl) dX6_daysWithin_19 (fun r_19 σ h_19 => ?_)
        subst h_19
        refine zv_iload_n (j := 1) G dX6_daysWithin_22 rfl rfl ?_
        refine zv_icmp_ne (tgt := 39) G dX6_daysWithin_23 (by decide) (fun c_23 => ?_) (fun c_23 => ?_)
        · obtain ⟨x_39, e_39⟩ : ∃ y : Int32, y = y5_6 + 1 := ⟨_, rfl⟩
          refine zv_iinc (j := 5) (v := x_39) (lv' := [(5, za_I x_39), (0, za_O 2 w), (1, za_I a1), (2, za_I a2), (3, za_I a3), (4, za_I y4_6)]) G dX6_daysWithin_39 rfl (by rw [e_39]; rfl) (by decide) rfl ?_
          refine zv_goto (tgt := 6) G dX6_daysWithin_42 (by decide) ?_
          refine zv_sub [1, 2, 3, 4, 5, 0] (lv' := [(0, za_O 2 w), (1, za_I a1), (2, za_I a2), (3, za_I a3), (4, za_I y4_6), (5, za_I x_39)]) rfl ?_
          exact ih_6 y4_6 x_39 (z_meas c_12 e_39 hn_6)
        · refine zv_iload (j := 4) G dX6_daysWithin_26 rfl ?_
          refine zv_aload_n (j := 0) G dX6_daysWithin_28 rfl rfl ?_
          refine zv_iload (j := 5) G dX6_daysWithin_29 rfl ?_
          refine zv_iload_n (j := 2) G dX6_daysWithin_31 rfl rfl ?_
          refine zv_iload_n (j := 3) G dX6_daysWithin_32 rfl rfl ?_
          refine zv_callVi (as := [za_I y5_6, za_I a2, za_I a3]) G (by decide) rfl rfl (zc_X6_daysOfRowWithin l E w y5_6 a2 a3 σ ) zk_X6_daysOfRowWithin zm_469 rfl ⟨(Nat.le_of_ble_eq_true rfl), (Nat.le_of_ble_eq_true rfl)⟩ ⟨Nat.zero_le _, Nat.zero_le _⟩ (Nat.le_of_ble_eq_true rfl) dX6_daysWithin_33 (fun r_33 σ h_33 => ?_)
          subst h_33
          refine zv_iadd G dX6_daysWithin_36 ?_
          refine zv_top (fun x_37 e_37 => ?_)
          refine zv_istore (lv' := [(4, za_I x_37), (0, za_O 2 w), (1, za_I a1), (2, za_I a2), (3, za_I a3), (5, za_I y5_6)]) G dX6_daysWithin_37 (by decide) rfl ?_
          obtain ⟨x_39, e_39⟩ : ∃ y : Int32, y = y5_6 + 1 := ⟨_, rfl⟩
          refine zv_iinc (j := 5) (v := x_39) (lv' := [(5, za_I x_39), (4, za_I x_37), (0, za_O 2 w), (1, za_I a1), (2, za_I a2), (3, za_I a3)]) G dX6_daysWithin_39 rfl (by rw [e_39]; rfl) (by decide) rfl ?_
          refine zv_goto (tgt := 6) G dX6_daysWithin_42 (by decide) ?_
          refine zv_sub [2, 3, 4, 5, 1, 0] (lv' := [(0, za_O 2 w), (1, za_I a1), (2, za_I a2), (3, za_I a3), (4, za_I x_37), (5, za_I x_39)]) rfl ?_
          exact ih_6 x_37 x_39 (z_meas c_12 e_39 hn_6)
  refine zv_istore (lv' := [(5, za_I 0), (4, za_I 0), (0, za_O 2 w), (1, za_I a1), (2, za_I a2), (3, za_I a3)]) G dX6_daysWithin_4 (by decide) rfl ?_
  refine zv_sub [2, 3, 4, 5, 1, 0] (lv' := [(0, za_O 2 w), (1, za_I a1), (2, za_I a2), (3, za_I a3), (4, za_I 0), (5, za_I 0)]) rfl ?_
  exact J_6 _ (0 : Int32) (0 : Int32) (Nat.lt_succ_self _)
set_option maxHeartbeats 4000000 in
set_option maxRecDepth 100000 in
theorem zc_X6_daysOfRow (l : Launch) (E : za_E) (w : Nat) (a1 : Int32) (σ : za_S)  : zMi l E yX6_daysOfRow cX6_daysOfRow 2 (Option.some Jvm.ClassFile.FieldType.int) 3 64 [za_O 2 w, za_I a1] σ (fun r σ' => σ' = σ) := by
  refine zMi_of [(0, za_O 2 w), (1, za_I a1)] (by decide) rfl rfl (Nat.le_of_ble_eq_true rfl) ?_
  intro ho p e s m args below meth c G hr
  have h_w : za_kd w = 2 := za_okO (by decide) (List.forall_mem_cons.mp ho).1
  refine zv_aload_n (j := 0) G dX6_daysOfRow_0 rfl rfl ?_
  refine zv_iload_n (j := 1) G dX6_daysOfRow_1 rfl rfl ?_
  refine zv_iconst (v := 3) G dX6_daysOfRow_2 (by decide) ?_
  refine zv_callVi (as := [za_I a1, za_I 3]) G (by decide) rfl rfl (zc_X6_cell l E w a1 (3 : Int32) σ ) zk_X6_cell zm_465 rfl ⟨(Nat.le_of_ble_eq_true rfl), (Nat.le_of_ble_eq_true rfl)⟩ ⟨Nat.zero_le _, Nat.zero_le _⟩ (Nat.le_of_ble_eq_true rfl) dX6_daysOfRow_3 (fun r_3 σ h_3 => ?_)
  subst h_3
  refine zv_aload_n (j := 0) G dX6_daysOfRow_6 rfl rfl ?_
  refine zv_iload_n (j := 1) G dX6_daysOfRow_7 rfl rfl ?_
  refine zv_iconst (v := 2) G dX6_daysOfRow_8 (by decide) ?_
  refine zv_callVi (as := [za_I a1, za_I 2]) G (by decide) rfl rfl (zc_X6_cell l E w a1 (2 : Int32) σ ) zk_X6_cell zm_465 rfl ⟨(Nat.le_of_ble_eq_true rfl), (Nat.le_of_ble_eq_true rfl)⟩ ⟨Nat.zero_le _, Nat.zero_le _⟩ (Nat.le_of_ble_eq_true rfl) dX6_daysOfRow_9 (fun r_9 σ h_9 => ?_)
  subst h_9
  refine zv_isub G dX6_daysOfRow_12 ?_
  exact zv_iret G hr dX6_daysOfRow_13 rfl
set_option maxHeartbeats 4000000 in
set_option maxRecDepth 100000 in
theorem zc_X4_isHeld (l : Launch) (E : za_E) (w : Nat) (σ : za_S)  : zMi l E yX4_isHeld cX4_isHeld 5 (Option.some Jvm.ClassFile.FieldType.boolean) 5 112 [za_O 1 w] σ (fun r σ' => (r = 0 ∨ r = 1) ∧ σ' = σ) := by
  refine zMi_of [(0, za_O 1 w)] (by decide) rfl rfl (Nat.le_of_ble_eq_true rfl) ?_
  intro ho p e s m args below meth c G hr
  have h_w : za_kd w = 1 := za_okO (by decide) (List.forall_mem_cons.mp ho).1
  refine zv_iconst (v := 1) G dX4_isHeld_0 (by decide) ?_
  refine zv_istore_n (lv' := [(1, za_I 1), (0, za_O 1 w)]) G dX4_isHeld_1 rfl (by decide) rfl ?_
  refine zv_iconst (v := 0) G dX4_isHeld_2 (by decide) ?_
  have J_4 : ∀ (n : Nat) (y1_4 : Int32) (y2_4 : Int32) (b1_4 : y1_4 = 0 ∨ y1_4 = 1) (hn_4 : (2147483648 - y2_4.toInt).toNat < n), zV p l e (zRm 5 112) s m args below meth c E (za_A E) 5 0 0 (MQ below (va_Qi (fun r σ' => (r = 0 ∨ r = 1) ∧ σ' = σ) (zB E) (za_A E)) args s 0 0 (za_A E)) 4 [(0, za_O 1 w), (1, za_I y1_4), (2, za_I y2_4)] [] σ := by
    intro n
    induction n with
    | zero => intro y1_4 y2_4 b1_4 hn; exact absurd hn (Nat.not_lt_zero _)
    | succ n ih_4 =>
      intro y1_4 y2_4 b1_4 hn_4
      refine zv_iload_n (j := 2) G dX4_isHeld_4 rfl rfl ?_
      refine zv_aload_n (j := 0) G dX4_isHeld_5 rfl rfl ?_
      refine zg_X4_12 G dX4_isHeld_6 ?_
      refine zg_X4_29 G dX4_isHeld_9 ?_
      refine zv_icmp_ge (tgt := 88) G dX4_isHeld_12 (by decide) (fun c_12 => ?_) (fun c_12 => ?_)
      · refine zv_iload_n (j := 1) G dX4_isHeld_88 rfl rfl ?_
        exact zv_zret G hr dX4_isHeld_89 (z_nar b1_4) ⟨b1_4, rfl⟩
      · refine zv_aload_n (j := 0) G dX4_isHeld_15 rfl rfl ?_
        refine zg_X4_12 G dX4_isHeld_16 ?_
        refine zv_iload_n (j := 2) G dX4_isHeld_19 rfl rfl ?_
        refine zv_iconst (v := 4) G dX4_isHeld_20 (by decide) ?_
        refine zv_callVNi (as := [za_I y2_4, za_I 4]) G (by decide) rfl rfl (zc_X6_cell l E (w + 1) y2_4 (4 : Int32) σ ) zk_X6_cell zm_551 rfl ⟨(Nat.le_of_ble_eq_true rfl), (Nat.le_of_ble_eq_true rfl)⟩ ⟨Nat.zero_le _, Nat.zero_le _⟩ (Nat.le_of_ble_eq_true rfl) dX4_isHeld_21 (fun r_21 σ h_21 => ?_)
        subst h_21
        refine zv_istore_n (lv' := [(3, za_I r_21), (0, za_O 1 w), (1, za_I y1_4), (2, za_I y2_4)]) G dX4_isHeld_24 rfl (by decide) rfl ?_
        refine zv_aload_n (j := 1) G dX4_isHeld_25 rfl rfl ?_
        refine zg_X4_18 G dX4_isHeld_26 ?_
        refine zv_iload_n (j := 0) G dX4_isHeld_29 rfl rfl ?_
        refine zv_aload_n (j := 1) G dX4_isHeld_30 rfl rfl ?_
        refine zg_X4_12 G dX4_isHeld_31 ?_
        refine zv_iload_n (j := 3) G dX4_isHeld_34 rfl rfl ?_
        refine zv_iconst (v := 2) G dX4_isHeld_35 (by decide) ?_
        refine zv_callVNi (as := [za_I y2_4, za_I 2]) G (by decide) rfl rfl (zc_X6_cell l E (w + 1) y2_4 (2 : Int32) σ ) zk_X6_cell zm_551 rfl ⟨(Nat.le_of_ble_eq_true rfl), (Nat.le_of_ble_eq_true rfl)⟩ ⟨Nat.zero_le _, Nat.zero_le _⟩ (Nat.le_of_ble_eq_true rfl) dX4_isHeld_36 (fun r_36 σ h_36 => ?_)
        subst h_36
        refine zv_aload_n (j := 1) G dX4_isHeld_39 rfl rfl ?_
        refine zg_X4_12 G dX4_isHeld_40 ?_
        refine zv_iload_n (j := 3) G dX4_isHeld_43 rfl rfl ?_
        refine zv_iconst (v := 3) G dX4_isHeld_44 (by decide) ?_
        refine zv_callVNi (as := [za_I y2_4, za_I 3]) G (by decide) rfl rfl (zc_X6_cell l E (w + 1) y2_4 (3 : Int32) σ ) zk_X6_cell zm_551 rfl ⟨(Nat.le_of_ble_eq_true rfl), (Nat.le_of_ble_eq_true rfl)⟩ ⟨Nat.zero_le _, Nat.zero_le _⟩ (Nat.le_of_ble_eq_true rfl) dX4_isHeld_45 (fun r_45 σ h_45 => ?_)
        subst h_45
        refine zv_callVNi (as := [za_I r_21, za_I r_36, za_I r_45]) G (by decide) rfl rfl (zc_X6_daysWithin l E (w + 3) r_21 r_36 r_45 σ ) zk_X6_daysWithin zm_552 rfl ⟨(Nat.le_of_ble_eq_true rfl), (Nat.le_of_ble_eq_true rfl)⟩ ⟨Nat.zero_le _, Nat.zero_le _⟩ (Nat.le_of_ble_eq_true rfl) dX4_isHeld_48 (fun r_48 σ h_48 => ?_)
        subst h_48
        refine zv_istore (lv' := [(4, za_I r_48), (3, za_I r_21), (0, za_O 1 w), (1, za_I y1_4), (2, za_I y2_4)]) G dX4_isHeld_51 (by decide) rfl ?_
        refine zv_iload_n (j := 3) G dX4_isHeld_53 rfl rfl ?_
        refine zv_if_eq (tgt := 80) G dX4_isHeld_54 (by decide) (fun c_54 => ?_) (fun c_54 => ?_)
        · refine zv_iconst (v := 0) G dX4_isHeld_80 (by decide) ?_
          refine zv_istore_n (lv' := [(1, za_I 0), (4, za_I r_48), (3, za_I r_21), (0, za_O 1 w), (2, za_I y2_4)]) G dX4_isHeld_81 rfl (by decide) rfl ?_
          obtain ⟨x_82, e_82⟩ : ∃ y : Int32, y = y2_4 + 1 := ⟨_, rfl⟩
          refine zv_iinc (j := 4) (v := x_82) (lv' := [(2, za_I x_82), (1, za_I 0), (4, za_I r_48), (3, za_I r_21), (0, za_O 1 w)]) G dX4_isHeld_82 rfl (by rw [e_82]; rfl) (by decide) rfl ?_
          refine zv_goto (tgt := 4) G dX4_isHeld_85 (by decide) ?_
          refine zv_sub [4, 1, 0] (lv' := [(0, za_O 1 w), (1, za_I 0), (2, za_I x_82)]) rfl ?_
          exact ih_4 (0 : Int32) x_82 (Or.inl rfl) (z_meas c_12 e_82 hn_4)
        · refine zv_iload_n (j := 1) G dX4_isHeld_57 rfl rfl ?_
          refine zv_bipush (v := 10) G dX4_isHeld_58 (by decide) ?_
          refine zv_icmp_eq (tgt := 76) G dX4_isHeld_60 (by decide) (fun c_60 => ?_) (fun c_60 => ?_)
          · refine zv_iconst (v := 1) G dX4_isHeld_76 (by decide) ?_
            refine zv_goto (tgt := 81) G dX4_isHeld_77 (by decide) ?_
            refine zv_istore_n (lv' := [(1, za_I 1), (4, za_I r_48), (3, za_I r_21), (0, za_O 1 w), (2, za_I y2_4)]) G dX4_isHeld_81 rfl (by decide) rfl ?_
            obtain ⟨x_82, e_82⟩ : ∃ y : Int32, y = y2_4 + 1 := ⟨_, rfl⟩
            refine zv_iinc (j := 4) (v := x_82) (lv' := [(2, za_I x_82), (1, za_I 1), (4, za_I r_48), (3, za_I r_21), (0, za_O 1 w)]) G dX4_isHeld_82 rfl (by rw [e_82]; rfl) (by decide) rfl ?_
            refine zv_goto (tgt := 4) G dX4_isHeld_85 (by decide) ?_
            refine zv_sub [4, 1, 0] (lv' := [(0, za_O 1 w), (1, za_I 1), (2, za_I x_82)]) rfl ?_
            exact ih_4 (1 : Int32) x_82 (Or.inr rfl) (z_meas c_12 e_82 hn_4)
          · refine zv_iload (j := 0) G dX4_isHeld_63 rfl ?_
            refine zv_aload_n (j := 2) G dX4_isHeld_65 rfl rfl ?_
            refine zg_X4_12 G dX4_isHeld_66 ?_
            refine zv_iload_n (j := 4) G dX4_isHeld_69 rfl rfl ?_
            refine zv_callVNi (as := [za_I y2_4]) G (by decide) rfl rfl (zc_X6_daysOfRow l E (w + 1) y2_4 σ ) zk_X6_daysOfRow zm_556 rfl ⟨(Nat.le_of_ble_eq_true rfl), (Nat.le_of_ble_eq_true rfl)⟩ ⟨Nat.zero_le _, Nat.zero_le _⟩ (Nat.le_of_ble_eq_true rfl) dX4_isHeld_70 (fun r_70 σ h_70 => ?_)
            subst h_70
            refine zv_icmp_ne (tgt := 80) G dX4_isHeld_73 (by decide) (fun c_73 => ?_) (fun c_73 => ?_)
            · refine zv_iconst (v := 0) G dX4_isHeld_80 (by decide) ?_
              refine zv_istore_n (lv' := [(1, za_I 0), (4, za_I r_48), (3, za_I r_21), (0, za_O 1 w), (2, za_I y2_4)]) G dX4_isHeld_81 rfl (by decide) rfl ?_
              obtain ⟨x_82, e_82⟩ : ∃ y : Int32, y = y2_4 + 1 := ⟨_, rfl⟩
              refine zv_iinc (j := 4) (v := x_82) (lv' := [(2, za_I x_82), (1, za_I 0), (4, za_I r_48), (3, za_I r_21), (0, za_O 1 w)]) G dX4_isHeld_82 rfl (by rw [e_82]; rfl) (by decide) rfl ?_
              refine zv_goto (tgt := 4) G dX4_isHeld_85 (by decide) ?_
              refine zv_sub [4, 1, 0] (lv' := [(0, za_O 1 w), (1, za_I 0), (2, za_I x_82)]) rfl ?_
              exact ih_4 (0 : Int32) x_82 (Or.inl rfl) (z_meas c_12 e_82 hn_4)
            · refine zv_iconst (v := 1) G dX4_isHeld_76 (by decide) ?_
              refine zv_goto (tgt := 81) G dX4_isHeld_77 (by decide) ?_
              refine zv_istore_n (lv' := [(1, za_I 1), (4, za_I r_48), (3, za_I r_21), (0, za_O 1 w), (2, za_I y2_4)]) G dX4_isHeld_81 rfl (by decide) rfl ?_
              obtain ⟨x_82, e_82⟩ : ∃ y : Int32, y = y2_4 + 1 := ⟨_, rfl⟩
              refine zv_iinc (j := 4) (v := x_82) (lv' := [(2, za_I x_82), (1, za_I 1), (4, za_I r_48), (3, za_I r_21), (0, za_O 1 w)]) G dX4_isHeld_82 rfl (by rw [e_82]; rfl) (by decide) rfl ?_
              refine zv_goto (tgt := 4) G dX4_isHeld_85 (by decide) ?_
              refine zv_sub [4, 1, 0] (lv' := [(0, za_O 1 w), (1, za_I 1), (2, za_I x_82)]) rfl ?_
              exact ih_4 (1 : Int32) x_82 (Or.inr rfl) (z_meas c_12 e_82 hn_4)
  refine zv_istore_n (lv' := [(2, za_I 0), (1, za_I 1), (0, za_O 1 w)]) G dX4_isHeld_3 rfl (by decide) rfl ?_
  refine zv_sub [2, 1, 0] (lv' := [(0, za_O 1 w), (1, za_I 1), (2, za_I 0)]) rfl ?_
  exact J_4 _ (1 : Int32) (0 : Int32) (Or.inr rfl) (Nat.lt_succ_self _)
set_option maxHeartbeats 4000000 in
set_option maxRecDepth 100000 in
theorem zc_X9_setRef (l : Launch) (E : za_E) (a1 : Int32) (a2 : Int32) (a3 : Int32) (a4 : Int32) (σ0 : za_S)  : zMi l E yX9_setRef cX9_setRef 6 (Option.some Jvm.ClassFile.FieldType.int) 6 146 [za_O 0 0, za_I a1, za_I a2, za_I a3, za_I a4] σ0 (fun r σ' => zc σ0 σ') := by
  refine zMi_of [(0, za_O 0 0), (1, za_I a1), (2, za_I a2), (3, za_I a3), (4, za_I a4)] (by decide) rfl rfl (Nat.le_of_ble_eq_true rfl) ?_
  intro ho p e s m args below meth c G hr
  refine zv_gen (R9 := zc σ0) (zc_r σ0) (fun σ hz => ?_)
  refine zv_iconst (v := 0) G dX9_setRef_0 (by decide) ?_
  refine zv_iload_n (j := 1) G dX9_setRef_1 rfl rfl ?_
  refine zv_iload_n (j := 3) G dX9_setRef_2 rfl rfl ?_
  refine zv_iload (j := 4) G dX9_setRef_3 rfl ?_
  refine zv_callSi (as := [za_I 0, za_I a1, za_I a3, za_I a4]) G (zc_X9_isPortion l E (0 : Int32) a1 a3 a4 σ ) zk_X9_isPortion zm_435 rfl ⟨(Nat.le_of_ble_eq_true rfl), (Nat.le_of_ble_eq_true rfl)⟩ ⟨Nat.zero_le _, Nat.zero_le _⟩ (Nat.le_of_ble_eq_true rfl) dX9_setRef_5 (fun r_5 σ h_5 => ?_)
  obtain ⟨h_5, rfl⟩ := h_5
  refine zv_if_eq (tgt := 21) G dX9_setRef_8 (by decide) (fun c_8 => ?_) (fun c_8 => ?_)
  · refine zv_iconst (v := (-1)) G dX9_setRef_21 (by decide) ?_
    exact zv_iret G hr dX9_setRef_22 hz
  · refine zv_iload_n (j := 2) G dX9_setRef_11 rfl rfl ?_
    refine zv_if_lt (tgt := 21) G dX9_setRef_12 (by decide) (fun c_12 => ?_) (fun c_12 => ?_)
    · refine zv_iconst (v := (-1)) G dX9_setRef_21 (by decide) ?_
      exact zv_iret G hr dX9_setRef_22 hz
    · refine zv_iload_n (j := 2) G dX9_setRef_15 rfl rfl ?_
      refine zv_bipush (v := 10) G dX9_setRef_16 (by decide) ?_
      refine zv_icmp_le (tgt := 23) G dX9_setRef_18 (by decide) (fun c_18 => ?_) (fun c_18 => ?_)
      · refine zv_aload_n (j := 0) G dX9_setRef_23 rfl rfl ?_
        refine zg_X9_10 G dX9_setRef_24 ?_
        refine zg_X9_102 G dX9_setRef_27 ?_
        refine zv_iload_n (j := 1) G dX9_setRef_30 rfl rfl ?_
        refine zv_iload_n (j := 3) G dX9_setRef_31 rfl rfl ?_
        refine zv_iload (j := 4) G dX9_setRef_32 rfl ?_
        refine zv_callVNi (as := [za_I a1, za_I a3, za_I a4]) G (by decide) rfl rfl (zc_X6_touching l E 2 a1 a3 a4 σ ) zk_X6_touching zm_457 rfl ⟨(Nat.le_of_ble_eq_true rfl), (Nat.le_of_ble_eq_true rfl)⟩ ⟨Nat.zero_le _, Nat.zero_le _⟩ (Nat.le_of_ble_eq_true rfl) dX9_setRef_34 (fun r_34 σ h_34 => ?_)
        subst h_34
        refine zv_istore (lv' := [(5, za_I r_34), (0, za_O 0 0), (1, za_I a1), (2, za_I a2), (3, za_I a3), (4, za_I a4)]) G dX9_setRef_37 (by decide) rfl ?_
        refine zv_iload (j := 0) G dX9_setRef_39 rfl ?_
        refine zv_if_ne (tgt := 47) G dX9_setRef_41 (by decide) (fun c_41 => ?_) (fun c_41 => ?_)
        · refine zv_aload_n (j := 1) G dX9_setRef_47 rfl rfl ?_
          refine zg_X9_16 G dX9_setRef_48 ?_
          refine zv_aload_n (j := 1) G dX9_setRef_51 rfl rfl ?_
          refine zg_X9_10 G dX9_setRef_52 ?_
          refine zv_callVNv (as := [za_O 1 1]) G (by decide) rfl rfl (zc_X4_copyOf l E 6 1 σ ) zk_X4_copyOf zm_475 rfl ⟨(Nat.le_of_ble_eq_true rfl), (Nat.le_of_ble_eq_true rfl)⟩ ⟨Nat.zero_le _, Nat.zero_le _⟩ (Nat.le_of_ble_eq_true rfl) dX9_setRef_55 (fun σ h_55 => ?_)
          have hz9 := h_55
          have hz := zc_t hz hz9
          refine zv_aload_n (j := 1) G dX9_setRef_58 rfl rfl ?_
          refine zg_X9_16 G dX9_setRef_59 ?_
          refine zg_X9_102 G dX9_setRef_62 ?_
          refine zv_aload_n (j := 1) G dX9_setRef_65 rfl rfl ?_
          refine zg_X9_10 G dX9_setRef_66 ?_
          refine zg_X9_102 G dX9_setRef_69 ?_
          refine zv_iload_n (j := 2) G dX9_setRef_72 rfl rfl ?_
          refine zv_iload_n (j := 4) G dX9_setRef_73 rfl rfl ?_
          refine zv_iload (j := 5) G dX9_setRef_74 rfl ?_
          refine zv_iconst (v := 4) G dX9_setRef_76 (by decide) ?_
          refine zv_iload_n (j := 3) G dX9_setRef_77 rfl rfl ?_
          refine zv_callVNv (as := [za_O 2 2, za_I a1, za_I a3, za_I a4, za_I 4, za_I a2]) G (by decide) rfl rfl (zc_X6_fillChanged l E 7 2 a1 a3 a4 (4 : Int32) a2 σ ) zk_X6_fillChanged zm_509 rfl ⟨(Nat.le_of_ble_eq_true rfl), (Nat.le_of_ble_eq_true rfl)⟩ ⟨Nat.zero_le _, Nat.zero_le _⟩ (Nat.le_of_ble_eq_true rfl) dX9_setRef_78 (fun σ h_78 => ?_)
          have hz9 := h_78
          have hz := zc_t hz hz9
          refine zv_aload_n (j := 1) G dX9_setRef_81 rfl rfl ?_
          refine zg_X9_16 G dX9_setRef_82 ?_
          refine zv_callVNi (as := []) G (by decide) rfl rfl (zc_X4_isHeld l E 6 σ ) zk_X4_isHeld zm_547 rfl ⟨(Nat.le_of_ble_eq_true rfl), (Nat.le_of_ble_eq_true rfl)⟩ ⟨Nat.zero_le _, Nat.zero_le _⟩ (Nat.le_of_ble_eq_true rfl) dX9_setRef_85 (fun r_85 σ h_85 => ?_)
          obtain ⟨h_85, rfl⟩ := h_85
          refine zv_if_eq (tgt := 101) G dX9_setRef_88 (by decide) (fun c_88 => ?_) (fun c_88 => ?_)
          · refine zv_bipush (v := (-3)) G dX9_setRef_101 (by decide) ?_
            exact zv_iret G hr dX9_setRef_103 hz
          · refine zv_aload_n (j := 1) G dX9_setRef_91 rfl rfl ?_
            refine zv_iload (j := 0) G dX9_setRef_92 rfl ?_
            refine zv_iconst (v := 0) G dX9_setRef_94 (by decide) ?_
            refine zv_callVi (as := [za_I r_34, za_I 0]) G (by decide) rfl rfl (zc_X9_takenAndTold l E r_34 (0 : Int32) σ ) zk_X9_takenAndTold zm_523 rfl ⟨(Nat.le_of_ble_eq_true rfl), (Nat.le_of_ble_eq_true rfl)⟩ ⟨Nat.zero_le _, Nat.zero_le _⟩ (Nat.le_of_ble_eq_true rfl) dX9_setRef_95 (fun r_95 σ h_95 => ?_)
            have hz9 := h_95
            have hz := zc_t hz hz9
            refine zv_goto (tgt := 103) G dX9_setRef_98 (by decide) ?_
            exact zv_iret G hr dX9_setRef_103 hz
        · refine zv_bipush (v := (-2)) G dX9_setRef_44 (by decide) ?_
          exact zv_iret G hr dX9_setRef_46 hz
      · refine zv_iconst (v := (-1)) G dX9_setRef_21 (by decide) ?_
        exact zv_iret G hr dX9_setRef_22 hz
set_option maxHeartbeats 4000000 in
set_option maxRecDepth 100000 in
theorem zc_X9_refers (l : Launch) (E : za_E) (a1 : Int32) (a2 : Int32) (a3 : Int32) (a4 : Int32) (σ0 : za_S)  : zMi l E yX9_refers cX9_refers 5 (Option.some Jvm.ClassFile.FieldType.int) 7 171 [za_O 0 0, za_I a1, za_I a2, za_I a3, za_I a4] σ0 (fun r σ' => zc σ0 σ') := by
  refine zMi_of [(0, za_O 0 0), (1, za_I a1), (2, za_I a2), (3, za_I a3), (4, za_I a4)] (by decide) rfl rfl (Nat.le_of_ble_eq_true rfl) ?_
  intro ho p e s m args below meth c G hr
  refine zv_gen (R9 := zc σ0) (zc_r σ0) (fun σ hz => ?_)
  refine zv_aload_n (j := 0) G dX9_refers_0 rfl rfl ?_
  refine zg_X9_22 G dX9_refers_1 ?_
  refine zv_aload_n (j := 0) G dX9_refers_4 rfl rfl ?_
  refine zg_X9_10 G dX9_refers_5 ?_
  refine zv_callVNv (as := [za_O 1 1]) G (by decide) rfl rfl (zc_X2_prepare l E 1 σ ) zk_X2_prepare zm_409 rfl ⟨(Nat.le_of_ble_eq_true rfl), (Nat.le_of_ble_eq_true rfl)⟩ ⟨Nat.zero_le _, Nat.zero_le _⟩ (Nat.le_of_ble_eq_true rfl) dX9_refers_8 (fun σ h_8 => ?_)
  have hz9 := h_8
  have hz := zc_t hz hz9
  refine zv_aload_n (j := 0) G dX9_refers_11 rfl rfl ?_
  refine zv_aload_n (j := 0) G dX9_refers_12 rfl rfl ?_
  refine zv_iload_n (j := 1) G dX9_refers_13 rfl rfl ?_
  refine zv_iload_n (j := 2) G dX9_refers_14 rfl rfl ?_
  refine zv_iload_n (j := 3) G dX9_refers_15 rfl rfl ?_
  refine zv_iload (j := 4) G dX9_refers_16 rfl ?_
  refine zv_callVi (as := [za_I a1, za_I a2, za_I a3, za_I a4]) G (by decide) rfl rfl (zc_X9_setRef l E a1 a2 a3 a4 σ ) zk_X9_setRef zm_543 rfl ⟨(Nat.le_of_ble_eq_true rfl), (Nat.le_of_ble_eq_true rfl)⟩ ⟨Nat.zero_le _, Nat.zero_le _⟩ (Nat.le_of_ble_eq_true rfl) dX9_refers_18 (fun r_18 σ h_18 => ?_)
  have hz9 := h_18
  have hz := zc_t hz hz9
  refine zv_callVi (as := [za_I r_18]) G (by decide) rfl rfl (zc_X9_noted l E r_18 σ ) zk_X9_noted zm_493 rfl ⟨(Nat.le_of_ble_eq_true rfl), (Nat.le_of_ble_eq_true rfl)⟩ ⟨Nat.zero_le _, Nat.zero_le _⟩ (Nat.le_of_ble_eq_true rfl) dX9_refers_21 (fun r_21 σ h_21 => ?_)
  have hz9 := h_21
  have hz := zc_t hz hz9
  exact zv_iret G hr dX9_refers_24 hz
set_option maxHeartbeats 4000000 in
set_option maxRecDepth 100000 in
theorem zc_X6_fillCut (l : Launch) (E : za_E) (w : Nat) (a1 : Nat) (a2 : Int32) (a3 : Int32) (a4 : Int32) (σ0 : za_S)  : zMv l E yX6_fillCut cX6_fillCut 6 (Option.none : Option Jvm.ClassFile.FieldType) 4 90 [za_O 2 w, za_O 2 a1, za_I a2, za_I a3, za_I a4] σ0 (fun σ' => zc σ0 σ') := by
  refine zMv_of [(0, za_O 2 w), (1, za_O 2 a1), (2, za_I a2), (3, za_I a3), (4, za_I a4)] (by decide) rfl rfl (Nat.le_of_ble_eq_true rfl) ?_
  intro ho p e s m args below meth c G hr
  have h_w : za_kd w = 2 := za_okO (by decide) (List.forall_mem_cons.mp ho).1
  have h_a1 : za_kd a1 = 2 := za_okO (by decide) (List.forall_mem_cons.mp (List.forall_mem_cons.mp ho).2).1
  refine zv_gen (R9 := zc σ0) (zc_r σ0) (fun σ hz => ?_)
  refine zv_aload_n (j := 0) G dX6_fillCut_0 rfl rfl ?_
  refine zv_callVv (as := []) G (by decide) rfl rfl (zc_X6_clear l E w σ ) zk_X6_clear zm_513 rfl ⟨(Nat.le_of_ble_eq_true rfl), (Nat.le_of_ble_eq_true rfl)⟩ ⟨Nat.zero_le _, Nat.zero_le _⟩ (Nat.le_of_ble_eq_true rfl) dX6_fillCut_1 (fun σ h_1 => ?_)
  have hz9 := h_1
  have hz := zc_t hz hz9
  refine zv_iconst (v := 0) G dX6_fillCut_4 (by decide) ?_
  have J_7 : ∀ (n : Nat) (y5_7 : Int32) (σ : za_S) (hz : zc σ0 σ) (hn_7 : (2147483648 - y5_7.toInt).toNat < n), zV p l e (zRm 4 90) s m args below meth c E (za_A E) 6 0 0 (MQ below (va_Qv (fun σ' => zc σ0 σ') (zB E) (za_A E)) args s 0 0 (za_A E)) 7 [(0, za_O 2 w), (1, za_O 2 a1), (2, za_I a2), (3, za_I a3), (4, za_I a4), (5, za_I y5_7)] [] σ := by
    intro n
    induction n with
    | zero => intro y5_7 σ hz hn; exact absurd hn (Nat.not_lt_zero _)
    | succ n ih_7 =>
      intro y5_7 σ hz hn_7
      refine zv_iload (j := 5) G dX6_fillCut_7 rfl ?_
      refine zv_aload_n (j := 1) G dX6_fillCut_9 rfl rfl ?_
      refine zg_X6_15 G dX6_fillCut_10 ?_
      refine zv_icmp_ge (tgt := 66) G dX6_fillCut_13 (by decide) (fun c_13 => ?_) (fun c_13 => ?_)
      · exact zv_vret G hr dX6_fillCut_66 hz
      · refine zv_aload_n (j := 1) G dX6_fillCut_16 rfl rfl ?_
        refine zv_iload (j := 5) G dX6_fillCut_17 rfl ?_
        refine zv_iconst (v := 0) G dX6_fillCut_19 (by decide) ?_
        refine zv_callVi (as := [za_I y5_7, za_I 0]) G (by decide) rfl rfl (zc_X6_cell l E a1 y5_7 (0 : Int32) σ ) zk_X6_cell zm_465 rfl ⟨(Nat.le_of_ble_eq_true rfl), (Nat.le_of_ble_eq_true rfl)⟩ ⟨Nat.zero_le _, Nat.zero_le _⟩ (Nat.le_of_ble_eq_true rfl) dX6_fillCut_20 (fun r_20 σ h_20 => ?_)
        subst h_20
        refine zv_iload_n (j := 2) G dX6_fillCut_23 rfl rfl ?_
        refine zv_icmp_ne (tgt := 50) G dX6_fillCut_24 (by decide) (fun c_24 => ?_) (fun c_24 => ?_)
        · refine zv_aload_n (j := 0) G dX6_fillCut_50 rfl rfl ?_
          refine zv_aload_n (j := 1) G dX6_fillCut_51 rfl rfl ?_
          refine zv_iload (j := 5) G dX6_fillCut_52 rfl ?_
          refine zv_iconst (v := 0) G dX6_fillCut_54 (by decide) ?_
          refine zv_bipush (v := 100) G dX6_fillCut_55 (by decide) ?_
          refine zv_callVv (as := [za_O 2 a1, za_I y5_7, za_I 0, za_I 100]) G (by decide) rfl rfl (zc_X6_appendPart l E w a1 y5_7 (0 : Int32) (100 : Int32) σ ) zk_X6_appendPart zm_517 rfl ⟨(Nat.le_of_ble_eq_true rfl), (Nat.le_of_ble_eq_true rfl)⟩ ⟨Nat.zero_le _, Nat.zero_le _⟩ (Nat.le_of_ble_eq_true rfl) dX6_fillCut_57 (fun σ h_57 => ?_)
          have hz9 := h_57
          have hz := zc_t hz hz9
          obtain ⟨x_60, e_60⟩ : ∃ y : Int32, y = y5_7 + 1 := ⟨_, rfl⟩
          refine zv_iinc (j := 5) (v := x_60) (lv' := [(5, za_I x_60), (0, za_O 2 w), (1, za_O 2 a1), (2, za_I a2), (3, za_I a3), (4, za_I a4)]) G dX6_fillCut_60 rfl (by rw [e_60]; rfl) (by decide) rfl ?_
          refine zv_goto (tgt := 7) G dX6_fillCut_63 (by decide) ?_
          refine zv_sub [1, 2, 3, 4, 5, 0] (lv' := [(0, za_O 2 w), (1, za_O 2 a1), (2, za_I a2), (3, za_I a3), (4, za_I a4), (5, za_I x_60)]) rfl ?_
          exact ih_7 x_60 σ hz (z_meas c_13 e_60 hn_7)
        · refine zv_aload_n (j := 0) G dX6_fillCut_27 rfl rfl ?_
          refine zv_aload_n (j := 1) G dX6_fillCut_28 rfl rfl ?_
          refine zv_iload (j := 5) G dX6_fillCut_29 rfl ?_
          refine zv_iconst (v := 0) G dX6_fillCut_31 (by decide) ?_
          refine zv_iload_n (j := 3) G dX6_fillCut_32 rfl rfl ?_
          refine zv_callVv (as := [za_O 2 a1, za_I y5_7, za_I 0, za_I a3]) G (by decide) rfl rfl (zc_X6_appendPart l E w a1 y5_7 (0 : Int32) a3 σ ) zk_X6_appendPart zm_517 rfl ⟨(Nat.le_of_ble_eq_true rfl), (Nat.le_of_ble_eq_true rfl)⟩ ⟨Nat.zero_le _, Nat.zero_le _⟩ (Nat.le_of_ble_eq_true rfl) dX6_fillCut_33 (fun σ h_33 => ?_)
          have hz9 := h_33
          have hz := zc_t hz hz9
          refine zv_aload_n (j := 0) G dX6_fillCut_36 rfl rfl ?_
          refine zv_aload_n (j := 1) G dX6_fillCut_37 rfl rfl ?_
          refine zv_iload (j := 5) G dX6_fillCut_38 rfl ?_
          refine zv_iload (j := 4) G dX6_fillCut_40 rfl ?_
          refine zv_bipush (v := 100) G dX6_fillCut_42 (by decide) ?_
          refine zv_callVv (as := [za_O 2 a1, za_I y5_7, za_I a4, za_I 100]) G (by decide) rfl rfl (zc_X6_appendPart l E w a1 y5_7 a4 (100 : Int32) σ ) zk_X6_appendPart zm_517 rfl ⟨(Nat.le_of_ble_eq_true rfl), (Nat.le_of_ble_eq_true rfl)⟩ ⟨Nat.zero_le _, Nat.zero_le _⟩ (Nat.le_of_ble_eq_true rfl) dX6_fillCut_44 (fun σ h_44 => ?_)
          have hz9 := h_44
          have hz := zc_t hz hz9
          refine zv_goto (tgt := 60) G dX6_fillCut_47 (by decide) ?_
          obtain ⟨x_60, e_60⟩ : ∃ y : Int32, y = y5_7 + 1 := ⟨_, rfl⟩
          refine zv_iinc (j := 5) (v := x_60) (lv' := [(5, za_I x_60), (0, za_O 2 w), (1, za_O 2 a1), (2, za_I a2), (3, za_I a3), (4, za_I a4)]) G dX6_fillCut_60 rfl (by rw [e_60]; rfl) (by decide) rfl ?_
          refine zv_goto (tgt := 7) G dX6_fillCut_63 (by decide) ?_
          refine zv_sub [1, 2, 3, 4, 5, 0] (lv' := [(0, za_O 2 w), (1, za_O 2 a1), (2, za_I a2), (3, za_I a3), (4, za_I a4), (5, za_I x_60)]) rfl ?_
          exact ih_7 x_60 σ hz (z_meas c_13 e_60 hn_7)
  refine zv_istore (lv' := [(5, za_I 0), (0, za_O 2 w), (1, za_O 2 a1), (2, za_I a2), (3, za_I a3), (4, za_I a4)]) G dX6_fillCut_5 (by decide) rfl ?_
  refine zv_sub [1, 2, 3, 4, 5, 0] (lv' := [(0, za_O 2 w), (1, za_O 2 a1), (2, za_I a2), (3, za_I a3), (4, za_I a4), (5, za_I 0)]) rfl ?_
  exact J_7 _ (0 : Int32) σ hz (Nat.lt_succ_self _)
set_option maxHeartbeats 4000000 in
set_option maxRecDepth 100000 in
theorem zc_X1_clear (l : Launch) (E : za_E) (w : Nat) (σ0 : za_S)  : zMv l E yX1_clear cX1_clear 2 (Option.none : Option Jvm.ClassFile.FieldType) 1 21 [za_O 13 w] σ0 (fun σ' => zc σ0 σ') := by
  refine zMv_of [(0, za_O 13 w)] (by decide) rfl rfl (Nat.le_of_ble_eq_true rfl) ?_
  intro ho p e s m args below meth c G hr
  have h_w : za_kd w = 13 := za_okO (by decide) (List.forall_mem_cons.mp ho).1
  refine zv_gen (R9 := zc σ0) (zc_r σ0) (fun σ hz => ?_)
  refine zv_iconst (v := 0) G dX1_clear_0 (by decide) ?_
  have J_2 : ∀ (n : Nat) (y1_2 : Int32) (σ : za_S) (hz : zc σ0 σ) (i1_2 : 0 ≤ y1_2.toInt) (hn_2 : (2147483648 - y1_2.toInt).toNat < n), zV p l e (zRm 1 21) s m args below meth c E (za_A E) 2 0 0 (MQ below (va_Qv (fun σ' => zc σ0 σ') (zB E) (za_A E)) args s 0 0 (za_A E)) 2 [(0, za_O 13 w), (1, za_I y1_2)] [] σ := by
    intro n
    induction n with
    | zero => intro y1_2 σ hz i1_2 hn; exact absurd hn (Nat.not_lt_zero _)
    | succ n ih_2 =>
      intro y1_2 σ hz i1_2 hn_2
      refine zv_iload_n (j := 1) G dX1_clear_2 rfl rfl ?_
      refine zv_bipush (v := 100) G dX1_clear_3 (by decide) ?_
      refine zv_icmp_ge (tgt := 21) G dX1_clear_5 (by decide) (fun c_5 => ?_) (fun c_5 => ?_)
      · exact zv_vret G hr dX1_clear_21 hz
      · have b_5 : 0 ≤ y1_2.toInt ∧ y1_2.toInt < 100 := ⟨i1_2, z_ltk c_5 rfl⟩
        refine zv_aload_n (j := 0) G dX1_clear_8 rfl rfl ?_
        refine zg_X1_9 G dX1_clear_9 ?_
        refine zv_iload_n (j := 1) G dX1_clear_12 rfl rfl ?_
        refine zv_iconst (v := 0) G dX1_clear_13 (by decide) ?_
        refine zv_iast G (by decide) rfl (fun _ => rfl) (z_in i1_2 (z_ltk c_5 (n := 100) rfl)) dX1_clear_14 ?_
        refine zv_gen (R9 := zc σ0) (zc_t hz (zc_k14 (zr_13_1 h_w))) (fun σ hz => ?_)
        obtain ⟨x_15, e_15⟩ : ∃ y : Int32, y = y1_2 + 1 := ⟨_, rfl⟩
        refine zv_iinc (j := 1) (v := x_15) (lv' := [(1, za_I x_15), (0, za_O 13 w)]) G dX1_clear_15 rfl (by rw [e_15]; rfl) (by decide) rfl ?_
        refine zv_goto (tgt := 2) G dX1_clear_18 (by decide) ?_
        refine zv_sub [1, 0] (lv' := [(0, za_O 13 w), (1, za_I x_15)]) rfl ?_
        exact ih_2 x_15 σ hz (by have := z_inc c_5 e_15; omega) (z_meas c_5 e_15 hn_2)
  refine zv_istore_n (lv' := [(1, za_I 0), (0, za_O 13 w)]) G dX1_clear_1 rfl (by decide) rfl ?_
  refine zv_sub [1, 0] (lv' := [(0, za_O 13 w), (1, za_I 0)]) rfl ?_
  exact J_2 _ (0 : Int32) σ hz (by decide) (Nat.lt_succ_self _)
set_option maxHeartbeats 4000000 in
set_option maxRecDepth 100000 in
theorem zc_X1_add (l : Launch) (E : za_E) (w : Nat) (a1 : Int32) (a2 : Int32) (a3 : Int32) (σ0 : za_S)  : zMv l E yX1_add cX1_add 5 (Option.none : Option Jvm.ClassFile.FieldType) 1 21 [za_O 13 w, za_I a1, za_I a2, za_I a3] σ0 (fun σ' => zc σ0 σ') := by
  refine zMv_of [(0, za_O 13 w), (1, za_I a1), (2, za_I a2), (3, za_I a3)] (by decide) rfl rfl (Nat.le_of_ble_eq_true rfl) ?_
  intro ho p e s m args below meth c G hr
  have h_w : za_kd w = 13 := za_okO (by decide) (List.forall_mem_cons.mp ho).1
  refine zv_gen (R9 := zc σ0) (zc_r σ0) (fun σ hz => ?_)
  refine zv_iconst (v := 0) G dX1_add_0 (by decide) ?_
  refine zv_iload_n (j := 1) G dX1_add_1 rfl rfl ?_
  refine zv_mmax G zm_590 zm_395 zm_147 zm_396 (Nat.le_of_ble_eq_true rfl) (Nat.le_of_ble_eq_true rfl) (Nat.zero_le _) (Nat.zero_le _) dX1_add_2 ?_
  refine zv_top (fun x_2 e_2 => ?_)
  have J_7 : ∀ (n : Nat) (y4_7 : Int32) (σ : za_S) (hz : zc σ0 σ) (i4_7 : 0 ≤ y4_7.toInt) (hn_7 : (2147483648 - y4_7.toInt).toNat < n), zV p l e (zRm 1 21) s m args below meth c E (za_A E) 5 0 0 (MQ below (va_Qv (fun σ' => zc σ0 σ') (zB E) (za_A E)) args s 0 0 (za_A E)) 7 [(0, za_O 13 w), (2, za_I a2), (3, za_I a3), (4, za_I y4_7)] [] σ := by
    intro n
    induction n with
    | zero => intro y4_7 σ hz i4_7 hn; exact absurd hn (Nat.not_lt_zero _)
    | succ n ih_7 =>
      intro y4_7 σ hz i4_7 hn_7
      refine zv_iload (j := 3) G dX1_add_7 rfl ?_
      refine zv_iload_n (j := 1) G dX1_add_9 rfl rfl ?_
      refine zv_icmp_ge (tgt := 37) G dX1_add_10 (by decide) (fun c_10 => ?_) (fun c_10 => ?_)
      · exact zv_vret G hr dX1_add_37 hz
      · refine zv_iload (j := 3) G dX1_add_13 rfl ?_
        refine zv_bipush (v := 100) G dX1_add_15 (by decide) ?_
        refine zv_icmp_ge (tgt := 37) G dX1_add_17 (by decide) (fun c_17 => ?_) (fun c_17 => ?_)
        · exact zv_vret G hr dX1_add_37 hz
        · have b_17 : 0 ≤ y4_7.toInt ∧ y4_7.toInt < 100 := ⟨i4_7, z_ltk c_17 rfl⟩
          refine zv_aload_n (j := 0) G dX1_add_20 rfl rfl ?_
          refine zg_X1_9 G dX1_add_21 ?_
          refine zv_iload (j := 3) G dX1_add_24 rfl ?_
          refine zv_dup2 G dX1_add_26 ?_
          refine zv_iald G (by decide) rfl (z_in i4_7 (z_ltk c_17 (n := 100) rfl)) dX1_add_27 ?_
          refine zv_iload_n (j := 2) G dX1_add_28 rfl rfl ?_
          refine zv_iadd G dX1_add_29 ?_
          refine zv_iast G (by decide) rfl (fun _ => rfl) (z_in i4_7 (z_ltk c_17 (n := 100) rfl)) dX1_add_30 ?_
          refine zv_gen (R9 := zc σ0) (zc_t hz (zc_k14 (zr_13_1 h_w))) (fun σ hz => ?_)
          obtain ⟨x_31, e_31⟩ : ∃ y : Int32, y = y4_7 + 1 := ⟨_, rfl⟩
          refine zv_iinc (j := 3) (v := x_31) (lv' := [(4, za_I x_31), (0, za_O 13 w), (2, za_I a2), (3, za_I a3)]) G dX1_add_31 rfl (by rw [e_31]; rfl) (by decide) rfl ?_
          refine zv_goto (tgt := 7) G dX1_add_34 (by decide) ?_
          refine zv_sub [1, 2, 3, 0] (lv' := [(0, za_O 13 w), (2, za_I a2), (3, za_I a3), (4, za_I x_31)]) rfl ?_
          exact ih_7 x_31 σ hz (by have := z_inc c_10 e_31; omega) (z_meas c_10 e_31 hn_7)
  refine zv_istore (lv' := [(4, za_I x_2), (0, za_O 13 w), (1, za_I a1), (2, za_I a2), (3, za_I a3)]) G dX1_add_5 (by decide) rfl ?_
  refine zv_sub [1, 3, 4, 0] (lv' := [(0, za_O 13 w), (2, za_I a2), (3, za_I a3), (4, za_I x_2)]) rfl ?_
  exact J_7 _ x_2 σ hz (z_max0 e_2) (Nat.lt_succ_self _)
set_option maxHeartbeats 4000000 in
set_option maxRecDepth 100000 in
theorem zc_X1_addRows (l : Launch) (E : za_E) (w : Nat) (a1 : Nat) (a2 : Int32) (a3 : Int32) (σ0 : za_S)  : zMv l E yX1_addRows cX1_addRows 5 (Option.none : Option Jvm.ClassFile.FieldType) 3 64 [za_O 13 w, za_O 2 a1, za_I a2, za_I a3] σ0 (fun σ' => zc σ0 σ') := by
  refine zMv_of [(0, za_O 13 w), (1, za_O 2 a1), (2, za_I a2), (3, za_I a3)] (by decide) rfl rfl (Nat.le_of_ble_eq_true rfl) ?_
  intro ho p e s m args below meth c G hr
  have h_w : za_kd w = 13 := za_okO (by decide) (List.forall_mem_cons.mp ho).1
  have h_a1 : za_kd a1 = 2 := za_okO (by decide) (List.forall_mem_cons.mp (List.forall_mem_cons.mp ho).2).1
  refine zv_gen (R9 := zc σ0) (zc_r σ0) (fun σ hz => ?_)
  refine zv_iconst (v := 0) G dX1_addRows_0 (by decide) ?_
  have J_3 : ∀ (n : Nat) (y4_3 : Int32) (σ : za_S) (hz : zc σ0 σ) (hn_3 : (2147483648 - y4_3.toInt).toNat < n), zV p l e (zRm 3 64) s m args below meth c E (za_A E) 5 0 0 (MQ below (va_Qv (fun σ' => zc σ0 σ') (zB E) (za_A E)) args s 0 0 (za_A E)) 3 [(0, za_O 13 w), (1, za_O 2 a1), (2, za_I a2), (3, za_I a3), (4, za_I y4_3)] [] σ := by
    intro n
    induction n with
    | zero => intro y4_3 σ hz hn; exact absurd hn (Nat.not_lt_zero _)
    | succ n ih_3 =>
      intro y4_3 σ hz hn_3
      refine zv_iload (j := 4) G dX1_addRows_3 rfl ?_
      refine zv_aload_n (j := 1) G dX1_addRows_5 rfl rfl ?_
      refine zg_X1_25 G dX1_addRows_6 ?_
      refine zv_icmp_ge (tgt := 48) G dX1_addRows_9 (by decide) (fun c_9 => ?_) (fun c_9 => ?_)
      · exact zv_vret G hr dX1_addRows_48 hz
      · refine zv_aload_n (j := 1) G dX1_addRows_12 rfl rfl ?_
        refine zv_iload (j := 4) G dX1_addRows_13 rfl ?_
        refine zv_iconst (v := 0) G dX1_addRows_15 (by decide) ?_
        refine zv_callVNi (as := [za_I y4_3, za_I 0]) G (by decide) rfl rfl (zc_X6_cell l E a1 y4_3 (0 : Int32) σ ) zk_X6_cell zm_585 rfl ⟨(Nat.le_of_ble_eq_true rfl), (Nat.le_of_ble_eq_true rfl)⟩ ⟨Nat.zero_le _, Nat.zero_le _⟩ (Nat.le_of_ble_eq_true rfl) dX1_addRows_16 (fun r_16 σ h_16 => ?_)
        subst h_16
        refine zv_iload_n (j := 2) G dX1_addRows_19 rfl rfl ?_
        refine zv_icmp_ne (tgt := 42) G dX1_addRows_20 (by decide) (fun c_20 => ?_) (fun c_20 => ?_)
        · obtain ⟨x_42, e_42⟩ : ∃ y : Int32, y = y4_3 + 1 := ⟨_, rfl⟩
          refine zv_iinc (j := 4) (v := x_42) (lv' := [(4, za_I x_42), (0, za_O 13 w), (1, za_O 2 a1), (2, za_I a2), (3, za_I a3)]) G dX1_addRows_42 rfl (by rw [e_42]; rfl) (by decide) rfl ?_
          refine zv_goto (tgt := 3) G dX1_addRows_45 (by decide) ?_
          refine zv_sub [1, 2, 3, 4, 0] (lv' := [(0, za_O 13 w), (1, za_O 2 a1), (2, za_I a2), (3, za_I a3), (4, za_I x_42)]) rfl ?_
          exact ih_3 x_42 σ hz (z_meas c_9 e_42 hn_3)
        · refine zv_aload_n (j := 0) G dX1_addRows_23 rfl rfl ?_
          refine zv_aload_n (j := 1) G dX1_addRows_24 rfl rfl ?_
          refine zv_iload (j := 4) G dX1_addRows_25 rfl ?_
          refine zv_iconst (v := 2) G dX1_addRows_27 (by decide) ?_
          refine zv_callVNi (as := [za_I y4_3, za_I 2]) G (by decide) rfl rfl (zc_X6_cell l E a1 y4_3 (2 : Int32) σ ) zk_X6_cell zm_585 rfl ⟨(Nat.le_of_ble_eq_true rfl), (Nat.le_of_ble_eq_true rfl)⟩ ⟨Nat.zero_le _, Nat.zero_le _⟩ (Nat.le_of_ble_eq_true rfl) dX1_addRows_28 (fun r_28 σ h_28 => ?_)
          subst h_28
          refine zv_aload_n (j := 1) G dX1_addRows_31 rfl rfl ?_
          refine zv_iload (j := 4) G dX1_addRows_32 rfl ?_
          refine zv_iconst (v := 3) G dX1_addRows_34 (by decide) ?_
          refine zv_callVNi (as := [za_I y4_3, za_I 3]) G (by decide) rfl rfl (zc_X6_cell l E a1 y4_3 (3 : Int32) σ ) zk_X6_cell zm_585 rfl ⟨(Nat.le_of_ble_eq_true rfl), (Nat.le_of_ble_eq_true rfl)⟩ ⟨Nat.zero_le _, Nat.zero_le _⟩ (Nat.le_of_ble_eq_true rfl) dX1_addRows_35 (fun r_35 σ h_35 => ?_)
          subst h_35
          refine zv_iload_n (j := 3) G dX1_addRows_38 rfl rfl ?_
          refine zv_callVv (as := [za_I r_28, za_I r_35, za_I a3]) G (by decide) rfl rfl (zc_X1_add l E w r_28 r_35 a3 σ ) zk_X1_add zm_586 rfl ⟨(Nat.le_of_ble_eq_true rfl), (Nat.le_of_ble_eq_true rfl)⟩ ⟨Nat.zero_le _, Nat.zero_le _⟩ (Nat.le_of_ble_eq_true rfl) dX1_addRows_39 (fun σ h_39 => ?_)
          have hz9 := h_39
          have hz := zc_t hz hz9
          obtain ⟨x_42, e_42⟩ : ∃ y : Int32, y = y4_3 + 1 := ⟨_, rfl⟩
          refine zv_iinc (j := 4) (v := x_42) (lv' := [(4, za_I x_42), (0, za_O 13 w), (1, za_O 2 a1), (2, za_I a2), (3, za_I a3)]) G dX1_addRows_42 rfl (by rw [e_42]; rfl) (by decide) rfl ?_
          refine zv_goto (tgt := 3) G dX1_addRows_45 (by decide) ?_
          refine zv_sub [1, 2, 3, 4, 0] (lv' := [(0, za_O 13 w), (1, za_O 2 a1), (2, za_I a2), (3, za_I a3), (4, za_I x_42)]) rfl ?_
          exact ih_3 x_42 σ hz (z_meas c_9 e_42 hn_3)
  refine zv_istore (lv' := [(4, za_I 0), (0, za_O 13 w), (1, za_O 2 a1), (2, za_I a2), (3, za_I a3)]) G dX1_addRows_1 (by decide) rfl ?_
  refine zv_sub [1, 2, 3, 4, 0] (lv' := [(0, za_O 13 w), (1, za_O 2 a1), (2, za_I a2), (3, za_I a3), (4, za_I 0)]) rfl ?_
  exact J_3 _ (0 : Int32) σ hz (Nat.lt_succ_self _)
set_option maxHeartbeats 4000000 in
set_option maxRecDepth 100000 in
theorem zc_X1_amount (l : Launch) (E : za_E) (w : Nat) (a1 : Int32) (σ : za_S)  : zMi l E yX1_amount cX1_amount 2 (Option.some Jvm.ClassFile.FieldType.int) 2 41 [za_O 13 w, za_I a1] σ (fun r σ' => σ' = σ) := by
  refine zMi_of [(0, za_O 13 w), (1, za_I a1)] (by decide) rfl rfl (Nat.le_of_ble_eq_true rfl) ?_
  intro ho p e s m args below meth c G hr
  have h_w : za_kd w = 13 := za_okO (by decide) (List.forall_mem_cons.mp ho).1
  refine zv_iload_n (j := 1) G dX1_amount_0 rfl rfl ?_
  refine zv_callSNi (as := [za_I a1]) G (zc_X9_isDay l E a1 σ ) zk_X9_isDay zm_605 rfl ⟨(Nat.le_of_ble_eq_true rfl), (Nat.le_of_ble_eq_true rfl)⟩ ⟨Nat.zero_le _, Nat.zero_le _⟩ (Nat.le_of_ble_eq_true rfl) dX1_amount_1 (fun r_1 σ h_1 => ?_)
  obtain ⟨h_1, rfl⟩ := h_1
  refine zv_if_eq (tgt := 16) G dX1_amount_4 (by decide) (fun c_4 => ?_) (fun c_4 => ?_)
  · refine zv_iconst (v := 0) G dX1_amount_16 (by decide) ?_
    exact zv_iret G hr dX1_amount_17 rfl
  · refine zv_aload_n (j := 0) G dX1_amount_7 rfl rfl ?_
    refine zg_X1_9 G dX1_amount_8 ?_
    refine zv_iload_n (j := 1) G dX1_amount_11 rfl rfl ?_
    refine zv_iald G (by decide) rfl (z_in (h_1.2 c_4).1 (h_1.2 c_4).2) dX1_amount_12 ?_
    refine zv_goto (tgt := 17) G dX1_amount_13 (by decide) ?_
    exact zv_iret G hr dX1_amount_17 rfl
set_option maxHeartbeats 4000000 in
set_option maxRecDepth 100000 in
theorem zc_X1_stretchEnd (l : Launch) (E : za_E) (w : Nat) (a1 : Int32) (a2 : Int32) (σ : za_S)  : zMi l E yX1_stretchEnd cX1_stretchEnd 5 (Option.some Jvm.ClassFile.FieldType.int) 3 62 [za_O 13 w, za_I a1, za_I a2] σ (fun r σ' => σ' = σ) := by
  refine zMi_of [(0, za_O 13 w), (1, za_I a1), (2, za_I a2)] (by decide) rfl rfl (Nat.le_of_ble_eq_true rfl) ?_
  intro ho p e s m args below meth c G hr
  have h_w : za_kd w = 13 := za_okO (by decide) (List.forall_mem_cons.mp ho).1
  refine zv_iload_n (j := 1) G dX1_stretchEnd_0 rfl rfl ?_
  refine zv_iconst (v := 1) G dX1_stretchEnd_1 (by decide) ?_
  refine zv_iadd G dX1_stretchEnd_2 ?_
  refine zv_top (fun x_3 e_3 => ?_)
  refine zv_istore_n (lv' := [(3, za_I x_3), (0, za_O 13 w), (1, za_I a1), (2, za_I a2)]) G dX1_stretchEnd_3 rfl (by decide) rfl ?_
  refine zv_iload_n (j := 2) G dX1_stretchEnd_4 rfl rfl ?_
  refine zv_iconst (v := 1) G dX1_stretchEnd_5 (by decide) ?_
  refine zv_iadd G dX1_stretchEnd_6 ?_
  have J_9 : ∀ (n : Nat) (y3_9 : Int32) (y4_9 : Int32) (hn_9 : (2147483648 - y4_9.toInt).toNat < n), zV p l e (zRm 3 62) s m args below meth c E (za_A E) 5 0 0 (MQ below (va_Qi (fun r σ' => σ' = σ) (zB E) (za_A E)) args s 0 0 (za_A E)) 9 [(0, za_O 13 w), (1, za_I a1), (2, za_I a2), (3, za_I y3_9), (4, za_I y4_9)] [] σ := by
    intro n
    induction n with
    | zero => intro y3_9 y4_9 hn; exact absurd hn (Nat.not_lt_zero _)
    | succ n ih_9 =>
      intro y3_9 y4_9 hn_9
      refine zv_iload (j := 4) G dX1_stretchEnd_9 rfl ?_
      refine zv_iload_n (j := 2) G dX1_stretchEnd_11 rfl rfl ?_
      refine zv_icmp_ge (tgt := 40) G dX1_stretchEnd_12 (by decide) (fun c_12 => ?_) (fun c_12 => ?_)
      · refine zv_iload_n (j := 3) G dX1_stretchEnd_40 rfl rfl ?_
        exact zv_iret G hr dX1_stretchEnd_41 rfl
      · refine zv_aload_n (j := 0) G dX1_stretchEnd_15 rfl rfl ?_
        refine zv_iload (j := 4) G dX1_stretchEnd_16 rfl ?_
        refine zv_callVi (as := [za_I y4_9]) G (by decide) rfl rfl (zc_X1_amount l E w y4_9 σ ) zk_X1_amount zm_601 rfl ⟨(Nat.le_of_ble_eq_true rfl), (Nat.le_of_ble_eq_true rfl)⟩ ⟨Nat.zero_le _, Nat.zero_le _⟩ (Nat.le_of_ble_eq_true rfl) dX1_stretchEnd_18 (fun r_18 σ h_18 => ?_)
        subst h_18
        refine zv_aload_n (j := 0) G dX1_stretchEnd_21 rfl rfl ?_
        refine zv_iload_n (j := 1) G dX1_stretchEnd_22 rfl rfl ?_
        refine zv_callVi (as := [za_I a1]) G (by decide) rfl rfl (zc_X1_amount l E w a1 σ ) zk_X1_amount zm_601 rfl ⟨(Nat.le_of_ble_eq_true rfl), (Nat.le_of_ble_eq_true rfl)⟩ ⟨Nat.zero_le _, Nat.zero_le _⟩ (Nat.le_of_ble_eq_true rfl) dX1_stretchEnd_23 (fun r_23 σ h_23 => ?_)
        subst h_23
        refine zv_icmp_ne (tgt := 40) G dX1_stretchEnd_26 (by decide) (fun c_26 => ?_) (fun c_26 => ?_)
        · refine zv_iload_n (j := 3) G dX1_stretchEnd_40 rfl rfl ?_
          exact zv_iret G hr dX1_stretchEnd_41 rfl
        · refine zv_iload (j := 4) G dX1_stretchEnd_29 rfl ?_
          refine zv_iconst (v := 1) G dX1_stretchEnd_31 (by decide) ?_
          refine zv_iadd G dX1_stretchEnd_32 ?_
          refine zv_top (fun x_33 e_33 => ?_)
          refine zv_istore_n (lv' := [(3, za_I x_33), (0, za_O 13 w), (1, za_I a1), (2, za_I a2), (4, za_I y4_9)]) G dX1_stretchEnd_33 rfl (by decide) rfl ?_
          obtain ⟨x_34, e_34⟩ : ∃ y : Int32, y = y4_9 + 1 := ⟨_, rfl⟩
          refine zv_iinc (j := 4) (v := x_34) (lv' := [(4, za_I x_34), (3, za_I x_33), (0, za_O 13 w), (1, za_I a1), (2, za_I a2)]) G dX1_stretchEnd_34 rfl (by rw [e_34]; rfl) (by decide) rfl ?_
          refine zv_goto (tgt := 9) G dX1_stretchEnd_37 (by decide) ?_
          refine zv_sub [2, 3, 4, 1, 0] (lv' := [(0, za_O 13 w), (1, za_I a1), (2, za_I a2), (3, za_I x_33), (4, za_I x_34)]) rfl ?_
          exact ih_9 x_33 x_34 (z_meas c_12 e_34 hn_9)
  refine zv_top (fun x_7 e_7 => ?_)
  refine zv_istore (lv' := [(4, za_I x_7), (3, za_I x_3), (0, za_O 13 w), (1, za_I a1), (2, za_I a2)]) G dX1_stretchEnd_7 (by decide) rfl ?_
  refine zv_sub [2, 3, 4, 1, 0] (lv' := [(0, za_O 13 w), (1, za_I a1), (2, za_I a2), (3, za_I x_3), (4, za_I x_7)]) rfl ?_
  exact J_9 _ x_3 x_7 (Nat.lt_succ_self _)
set_option maxHeartbeats 4000000 in
set_option maxRecDepth 100000 in
theorem zc_X9_followWayInRow (l : Launch) (E : za_E) (a1 : Nat) (a2 : Int32) (σ0 : za_S)  : zMi l E yX9_followWayInRow cX9_followWayInRow 9 (Option.some Jvm.ClassFile.FieldType.int) 4 90 [za_O 0 0, za_O 2 a1, za_I a2] σ0 (fun r σ' => zc σ0 σ') := by
  refine zMi_of [(0, za_O 0 0), (1, za_O 2 a1), (2, za_I a2)] (by decide) rfl rfl (Nat.le_of_ble_eq_true rfl) ?_
  intro ho p e s m args below meth c G hr
  have h_a1 : za_kd a1 = 2 := za_okO (by decide) (List.forall_mem_cons.mp (List.forall_mem_cons.mp ho).2).1
  refine zv_gen (R9 := zc σ0) (zc_r σ0) (fun σ hz => ?_)
  refine zv_iconst (v := 0) G dX9_followWayInRow_0 (by decide) ?_
  refine zv_istore_n (lv' := [(3, za_I 0), (0, za_O 0 0), (1, za_O 2 a1), (2, za_I a2)]) G dX9_followWayInRow_1 rfl (by decide) rfl ?_
  refine zv_aload_n (j := 2) G dX9_followWayInRow_2 rfl rfl ?_
  refine zv_iload_n (j := 3) G dX9_followWayInRow_3 rfl rfl ?_
  refine zv_iconst (v := 2) G dX9_followWayInRow_4 (by decide) ?_
  refine zv_callVNi (as := [za_I a2, za_I 2]) G (by decide) rfl rfl (zc_X6_cell l E a1 a2 (2 : Int32) σ ) zk_X6_cell zm_592 rfl ⟨(Nat.le_of_ble_eq_true rfl), (Nat.le_of_ble_eq_true rfl)⟩ ⟨Nat.zero_le _, Nat.zero_le _⟩ (Nat.le_of_ble_eq_true rfl) dX9_followWayInRow_5 (fun r_5 σ h_5 => ?_)
  subst h_5
  refine zv_istore (lv' := [(4, za_I r_5), (3, za_I 0), (0, za_O 0 0), (1, za_O 2 a1), (2, za_I a2)]) G dX9_followWayInRow_8 (by decide) rfl ?_
  refine zv_aload_n (j := 3) G dX9_followWayInRow_10 rfl rfl ?_
  refine zv_iload_n (j := 4) G dX9_followWayInRow_11 rfl rfl ?_
  refine zv_iconst (v := 3) G dX9_followWayInRow_12 (by decide) ?_
  refine zv_callVNi (as := [za_I a2, za_I 3]) G (by decide) rfl rfl (zc_X6_cell l E a1 a2 (3 : Int32) σ ) zk_X6_cell zm_592 rfl ⟨(Nat.le_of_ble_eq_true rfl), (Nat.le_of_ble_eq_true rfl)⟩ ⟨Nat.zero_le _, Nat.zero_le _⟩ (Nat.le_of_ble_eq_true rfl) dX9_followWayInRow_13 (fun r_13 σ h_13 => ?_)
  subst h_13
  refine zv_istore (lv' := [(5, za_I r_13), (4, za_I r_5), (3, za_I 0), (0, za_O 0 0), (1, za_O 2 a1), (2, za_I a2)]) G dX9_followWayInRow_16 (by decide) rfl ?_
  refine zv_iconst (v := 0) G dX9_followWayInRow_18 (by decide) ?_
  have J_21 : ∀ (n : Nat) (y3_21 : Int32) (y4_21 : Int32) (y6_21 : Int32) (σ : za_S) (hz : zc σ0 σ) (hn_21 : (2147483648 - y6_21.toInt).toNat < n), zV p l e (zRm 4 90) s m args below meth c E (za_A E) 9 0 0 (MQ below (va_Qi (fun r σ' => zc σ0 σ') (zB E) (za_A E)) args s 0 0 (za_A E)) 21 [(0, za_O 0 0), (1, za_O 2 a1), (2, za_I a2), (3, za_I y3_21), (4, za_I y4_21), (5, za_I r_13), (6, za_I y6_21)] [] σ := by
    intro n
    induction n with
    | zero => intro y3_21 y4_21 y6_21 σ hz hn; exact absurd hn (Nat.not_lt_zero _)
    | succ n ih_21 =>
      intro y3_21 y4_21 y6_21 σ hz hn_21
      refine zv_iload (j := 6) G dX9_followWayInRow_21 rfl ?_
      refine zv_bipush (v := 100) G dX9_followWayInRow_23 (by decide) ?_
      refine zv_icmp_ge (tgt := 151) G dX9_followWayInRow_25 (by decide) (fun c_25 => ?_) (fun c_25 => ?_)
      · refine zv_iload_n (j := 3) G dX9_followWayInRow_151 rfl rfl ?_
        exact zv_iret G hr dX9_followWayInRow_152 hz
      · refine zv_iload (j := 4) G dX9_followWayInRow_28 rfl ?_
        refine zv_iload (j := 5) G dX9_followWayInRow_30 rfl ?_
        refine zv_icmp_ge (tgt := 151) G dX9_followWayInRow_32 (by decide) (fun c_32 => ?_) (fun c_32 => ?_)
        · refine zv_iload_n (j := 3) G dX9_followWayInRow_151 rfl rfl ?_
          exact zv_iret G hr dX9_followWayInRow_152 hz
        · refine zv_aload_n (j := 0) G dX9_followWayInRow_35 rfl rfl ?_
          refine zg_X9_54 G dX9_followWayInRow_36 ?_
          refine zv_iload (j := 4) G dX9_followWayInRow_39 rfl ?_
          refine zv_iload (j := 5) G dX9_followWayInRow_41 rfl ?_
          refine zv_callVNi (as := [za_I y4_21, za_I r_13]) G (by decide) rfl rfl (zc_X1_stretchEnd l E 85 y4_21 r_13 σ ) zk_X1_stretchEnd zm_597 rfl ⟨(Nat.le_of_ble_eq_true rfl), (Nat.le_of_ble_eq_true rfl)⟩ ⟨Nat.zero_le _, Nat.zero_le _⟩ (Nat.le_of_ble_eq_true rfl) dX9_followWayInRow_43 (fun r_43 σ h_43 => ?_)
          subst h_43
          refine zv_istore (lv' := [(7, za_I r_43), (0, za_O 0 0), (1, za_O 2 a1), (2, za_I a2), (3, za_I y3_21), (4, za_I y4_21), (5, za_I r_13), (6, za_I y6_21)]) G dX9_followWayInRow_46 (by decide) rfl ?_
          refine zv_aload_n (j := 1) G dX9_followWayInRow_48 rfl rfl ?_
          refine zg_X9_54 G dX9_followWayInRow_49 ?_
          refine zv_iload (j := 5) G dX9_followWayInRow_52 rfl ?_
          refine zv_callVNi (as := [za_I y4_21]) G (by decide) rfl rfl (zc_X1_amount l E 85 y4_21 σ ) zk_X1_amount zm_606 rfl ⟨(Nat.le_of_ble_eq_true rfl), (Nat.le_of_ble_eq_true rfl)⟩ ⟨Nat.zero_le _, Nat.zero_le _⟩ (Nat.le_of_ble_eq_true rfl) dX9_followWayInRow_54 (fun r_54 σ h_54 => ?_)
          subst h_54
          have J_65 : ∀ (s0_65 : Int32) (σ : za_S) (hz : zc σ0 σ), zV p l e (zRm 4 90) s m args below meth c E (za_A E) 9 0 0 (MQ below (va_Qi (fun r σ' => zc σ0 σ') (zB E) (za_A E)) args s 0 0 (za_A E)) 65 [(0, za_O 0 0), (1, za_O 2 a1), (2, za_I a2), (3, za_I y3_21), (4, za_I y4_21), (5, za_I r_13), (6, za_I y6_21), (7, za_I r_43)] [za_I s0_65] σ := by
            intro s0_65 σ hz
            refine zv_istore (lv' := [(8, za_I s0_65), (0, za_O 0 0), (1, za_O 2 a1), (2, za_I a2), (3, za_I y3_21), (4, za_I y4_21), (5, za_I r_13), (6, za_I y6_21), (7, za_I r_43)]) G dX9_followWayInRow_65 (by decide) rfl ?_
            refine zv_iload (j := 0) G dX9_followWayInRow_67 rfl ?_
            have J_80 : ∀ (y3_80 : Int32) (σ : za_S) (hz : zc σ0 σ), zV p l e (zRm 4 90) s m args below meth c E (za_A E) 9 0 0 (MQ below (va_Qi (fun r σ' => zc σ0 σ') (zB E) (za_A E)) args s 0 0 (za_A E)) 80 [(0, za_O 0 0), (1, za_O 2 a1), (2, za_I a2), (3, za_I y3_80), (4, za_I y4_21), (5, za_I r_13), (6, za_I y6_21), (7, za_I r_43), (8, za_I s0_65)] [] σ := by
              intro y3_80 σ hz
              refine zv_iload (j := 8) G dX9_followWayInRow_80 rfl ?_
              have J_112 : ∀  (σ : za_S) (hz : zc σ0 σ), zV p l e (zRm 4 90) s m args below meth c E (za_A E) 9 0 0 (MQ below (va_Qi (fun r σ' => zc σ0 σ') (zB E) (za_A E)) args s 0 0 (za_A E)) 112 [(0, za_O 0 0), (1, za_O 2 a1), (2, za_I a2), (3, za_I y3_80), (5, za_I r_13), (6, za_I y6_21), (7, za_I r_43), (8, za_I s0_65)] [] σ := by
                intro σ hz
                refine zv_iload (j := 7) G dX9_followWayInRow_112 rfl ?_
                refine zv_if_eq (tgt := 141) G dX9_followWayInRow_114 (by decide) (fun c_114 => ?_) (fun c_114 => ?_)
                · refine zv_iload (j := 6) G dX9_followWayInRow_141 rfl ?_
                  refine zv_istore (lv' := [(4, za_I r_43), (0, za_O 0 0), (1, za_O 2 a1), (2, za_I a2), (3, za_I y3_80), (5, za_I r_13), (6, za_I y6_21), (7, za_I r_43), (8, za_I s0_65)]) G dX9_followWayInRow_143 (by decide) rfl ?_
                  obtain ⟨x_145, e_145⟩ : ∃ y : Int32, y = y6_21 + 1 := ⟨_, rfl⟩
                  refine zv_iinc (j := 6) (v := x_145) (lv' := [(6, za_I x_145), (4, za_I r_43), (0, za_O 0 0), (1, za_O 2 a1), (2, za_I a2), (3, za_I y3_80), (5, za_I r_13), (7, za_I r_43), (8, za_I s0_65)]) G dX9_followWayInRow_145 rfl (by rw [e_145]; rfl) (by decide) rfl ?_
                  refine zv_goto (tgt := 21) G dX9_followWayInRow_148 (by decide) ?_
                  refine zv_sub [2, 3, 4, 5, 1, 6, 0] (lv' := [(0, za_O 0 0), (1, za_O 2 a1), (2, za_I a2), (3, za_I y3_80), (4, za_I r_43), (5, za_I r_13), (6, za_I x_145)]) rfl ?_
                  exact ih_21 y3_80 r_43 x_145 σ hz (z_meas c_25 e_145 hn_21)
                · refine zv_aload_n (j := 0) G dX9_followWayInRow_117 rfl rfl ?_
                  refine zg_X9_10 G dX9_followWayInRow_118 ?_
                  refine zg_X9_238 G dX9_followWayInRow_121 ?_
                  refine zv_iconst (v := 2) G dX9_followWayInRow_124 (by decide) ?_
                  refine zv_icmp_ne (tgt := 141) G dX9_followWayInRow_125 (by decide) (fun c_125 => ?_) (fun c_125 => ?_)
                  · refine zv_iload (j := 6) G dX9_followWayInRow_141 rfl ?_
                    refine zv_istore (lv' := [(4, za_I r_43), (0, za_O 0 0), (1, za_O 2 a1), (2, za_I a2), (3, za_I y3_80), (5, za_I r_13), (6, za_I y6_21), (7, za_I r_43), (8, za_I s0_65)]) G dX9_followWayInRow_143 (by decide) rfl ?_
                    obtain ⟨x_145, e_145⟩ : ∃ y : Int32, y = y6_21 + 1 := ⟨_, rfl⟩
                    refine zv_iinc (j := 6) (v := x_145) (lv' := [(6, za_I x_145), (4, za_I r_43), (0, za_O 0 0), (1, za_O 2 a1), (2, za_I a2), (3, za_I y3_80), (5, za_I r_13), (7, za_I r_43), (8, za_I s0_65)]) G dX9_followWayInRow_145 rfl (by rw [e_145]; rfl) (by decide) rfl ?_
                    refine zv_goto (tgt := 21) G dX9_followWayInRow_148 (by decide) ?_
                    refine zv_sub [2, 3, 4, 5, 1, 6, 0] (lv' := [(0, za_O 0 0), (1, za_O 2 a1), (2, za_I a2), (3, za_I y3_80), (4, za_I r_43), (5, za_I r_13), (6, za_I x_145)]) rfl ?_
                    exact ih_21 y3_80 r_43 x_145 σ hz (z_meas c_25 e_145 hn_21)
                  · refine zv_aload_n (j := 0) G dX9_followWayInRow_128 rfl rfl ?_
                    refine zg_X9_16 G dX9_followWayInRow_129 ?_
                    refine zg_X9_102 G dX9_followWayInRow_132 ?_
                    refine zv_iconst (v := 4) G dX9_followWayInRow_135 (by decide) ?_
                    refine zv_bipush (v := 10) G dX9_followWayInRow_136 (by decide) ?_
                    refine zv_callVNv (as := [za_I 4, za_I 10]) G (by decide) rfl rfl (zc_X6_changeLast l E 7 (4 : Int32) (10 : Int32) σ ) zk_X6_changeLast zm_607 rfl ⟨(Nat.le_of_ble_eq_true rfl), (Nat.le_of_ble_eq_true rfl)⟩ ⟨Nat.zero_le _, Nat.zero_le _⟩ (Nat.le_of_ble_eq_true rfl) dX9_followWayInRow_138 (fun σ h_138 => ?_)
                    have hz9 := h_138
                    have hz := zc_t hz hz9
                    refine zv_iload (j := 6) G dX9_followWayInRow_141 rfl ?_
                    refine zv_istore (lv' := [(4, za_I r_43), (0, za_O 0 0), (1, za_O 2 a1), (2, za_I a2), (3, za_I y3_80), (5, za_I r_13), (6, za_I y6_21), (7, za_I r_43), (8, za_I s0_65)]) G dX9_followWayInRow_143 (by decide) rfl ?_
                    obtain ⟨x_145, e_145⟩ : ∃ y : Int32, y = y6_21 + 1 := ⟨_, rfl⟩
                    refine zv_iinc (j := 6) (v := x_145) (lv' := [(6, za_I x_145), (4, za_I r_43), (0, za_O 0 0), (1, za_O 2 a1), (2, za_I a2), (3, za_I y3_80), (5, za_I r_13), (7, za_I r_43), (8, za_I s0_65)]) G dX9_followWayInRow_145 rfl (by rw [e_145]; rfl) (by decide) rfl ?_
                    refine zv_goto (tgt := 21) G dX9_followWayInRow_148 (by decide) ?_
                    refine zv_sub [2, 3, 4, 5, 1, 6, 0] (lv' := [(0, za_O 0 0), (1, za_O 2 a1), (2, za_I a2), (3, za_I y3_80), (4, za_I r_43), (5, za_I r_13), (6, za_I x_145)]) rfl ?_
                    exact ih_21 y3_80 r_43 x_145 σ hz (z_meas c_25 e_145 hn_21)
              have J_96 : ∀  (σ : za_S) (hz : zc σ0 σ), zV p l e (zRm 4 90) s m args below meth c E (za_A E) 9 0 0 (MQ below (va_Qi (fun r σ' => zc σ0 σ') (zB E) (za_A E)) args s 0 0 (za_A E)) 96 [(0, za_O 0 0), (1, za_O 2 a1), (2, za_I a2), (3, za_I y3_80), (4, za_I y4_21), (5, za_I r_13), (6, za_I y6_21), (7, za_I r_43), (8, za_I s0_65)] [] σ := by
                intro σ hz
                refine zv_aload_n (j := 0) G dX9_followWayInRow_96 rfl rfl ?_
                refine zg_X9_16 G dX9_followWayInRow_97 ?_
                refine zg_X9_102 G dX9_followWayInRow_100 ?_
                refine zv_aload_n (j := 1) G dX9_followWayInRow_103 rfl rfl ?_
                refine zv_iload_n (j := 2) G dX9_followWayInRow_104 rfl rfl ?_
                refine zv_iload (j := 4) G dX9_followWayInRow_105 rfl ?_
                refine zv_iload (j := 7) G dX9_followWayInRow_107 rfl ?_
                refine zv_callVNv (as := [za_O 2 a1, za_I a2, za_I y4_21, za_I r_43]) G (by decide) rfl rfl (zc_X6_appendPart l E 7 a1 a2 y4_21 r_43 σ ) zk_X6_appendPart zm_484 rfl ⟨(Nat.le_of_ble_eq_true rfl), (Nat.le_of_ble_eq_true rfl)⟩ ⟨Nat.zero_le _, Nat.zero_le _⟩ (Nat.le_of_ble_eq_true rfl) dX9_followWayInRow_109 (fun σ h_109 => ?_)
                have hz9 := h_109
                have hz := zc_t hz hz9
                refine zv_sub [0, 1, 2, 3, 5, 6, 7, 8] (lv' := [(0, za_O 0 0), (1, za_O 2 a1), (2, za_I a2), (3, za_I y3_80), (5, za_I r_13), (6, za_I y6_21), (7, za_I r_43), (8, za_I s0_65)]) rfl ?_
                exact J_112 σ hz
              refine zv_if_eq (tgt := 96) G dX9_followWayInRow_82 (by decide) (fun c_82 => ?_) (fun c_82 => ?_)
              · refine zv_sub [0, 1, 2, 3, 4, 5, 6, 7, 8] (lv' := [(0, za_O 0 0), (1, za_O 2 a1), (2, za_I a2), (3, za_I y3_80), (4, za_I y4_21), (5, za_I r_13), (6, za_I y6_21), (7, za_I r_43), (8, za_I s0_65)]) rfl ?_
                exact J_96 σ hz
              · refine zv_aload_n (j := 0) G dX9_followWayInRow_85 rfl rfl ?_
                refine zg_X9_10 G dX9_followWayInRow_86 ?_
                refine zg_X9_238 G dX9_followWayInRow_89 ?_
                refine zv_iconst (v := 2) G dX9_followWayInRow_92 (by decide) ?_
                refine zv_icmp_ne (tgt := 112) G dX9_followWayInRow_93 (by decide) (fun c_93 => ?_) (fun c_93 => ?_)
                · refine zv_sub [0, 1, 2, 3, 5, 6, 7, 8] (lv' := [(0, za_O 0 0), (1, za_O 2 a1), (2, za_I a2), (3, za_I y3_80), (5, za_I r_13), (6, za_I y6_21), (7, za_I r_43), (8, za_I s0_65)]) rfl ?_
                  exact J_112 σ hz
                · refine zv_sub [0, 1, 2, 3, 4, 5, 6, 7, 8] (lv' := [(0, za_O 0 0), (1, za_O 2 a1), (2, za_I a2), (3, za_I y3_80), (4, za_I y4_21), (5, za_I r_13), (6, za_I y6_21), (7, za_I r_43), (8, za_I s0_65)]) rfl ?_
                  exact J_96 σ hz
            refine zv_if_eq (tgt := 80) G dX9_followWayInRow_69 (by decide) (fun c_69 => ?_) (fun c_69 => ?_)
            · refine zv_sub [1, 2, 3, 4, 5, 6, 7, 8, 0] (lv' := [(0, za_O 0 0), (1, za_O 2 a1), (2, za_I a2), (3, za_I y3_21), (4, za_I y4_21), (5, za_I r_13), (6, za_I y6_21), (7, za_I r_43), (8, za_I s0_65)]) rfl ?_
              exact J_80 y3_21 σ hz
            · refine zv_iload_n (j := 4) G dX9_followWayInRow_72 rfl rfl ?_
              refine zv_iload (j := 8) G dX9_followWayInRow_73 rfl ?_
              refine zv_iload (j := 5) G dX9_followWayInRow_75 rfl ?_
              refine zv_isub G dX9_followWayInRow_77 ?_
              refine zv_iadd G dX9_followWayInRow_78 ?_
              refine zv_top (fun x_79 e_79 => ?_)
              refine zv_istore_n (lv' := [(3, za_I x_79), (8, za_I s0_65), (0, za_O 0 0), (1, za_O 2 a1), (2, za_I a2), (4, za_I y4_21), (5, za_I r_13), (6, za_I y6_21), (7, za_I r_43)]) G dX9_followWayInRow_79 rfl (by decide) rfl ?_
              refine zv_sub [2, 3, 4, 0, 5, 6, 7, 8, 1] (lv' := [(0, za_O 0 0), (1, za_O 2 a1), (2, za_I a2), (3, za_I x_79), (4, za_I y4_21), (5, za_I r_13), (6, za_I y6_21), (7, za_I r_43), (8, za_I s0_65)]) rfl ?_
              exact J_80 x_79 σ hz
          refine zv_if_ne (tgt := 64) G dX9_followWayInRow_57 (by decide) (fun c_57 => ?_) (fun c_57 => ?_)
          · refine zv_iconst (v := 0) G dX9_followWayInRow_64 (by decide) ?_
            refine zv_sub [1, 2, 3, 4, 5, 6, 7, 0] (lv' := [(0, za_O 0 0), (1, za_O 2 a1), (2, za_I a2), (3, za_I y3_21), (4, za_I y4_21), (5, za_I r_13), (6, za_I y6_21), (7, za_I r_43)]) rfl ?_
            exact J_65 (0 : Int32) σ hz
          · refine zv_iconst (v := 1) G dX9_followWayInRow_60 (by decide) ?_
            refine zv_goto (tgt := 65) G dX9_followWayInRow_61 (by decide) ?_
            refine zv_sub [1, 2, 3, 4, 5, 6, 7, 0] (lv' := [(0, za_O 0 0), (1, za_O 2 a1), (2, za_I a2), (3, za_I y3_21), (4, za_I y4_21), (5, za_I r_13), (6, za_I y6_21), (7, za_I r_43)]) rfl ?_
            exact J_65 (1 : Int32) σ hz
  refine zv_istore (lv' := [(6, za_I 0), (5, za_I r_13), (4, za_I r_5), (3, za_I 0), (0, za_O 0 0), (1, za_O 2 a1), (2, za_I a2)]) G dX9_followWayInRow_19 (by decide) rfl ?_
  refine zv_sub [4, 5, 6, 3, 2, 1, 0] (lv' := [(0, za_O 0 0), (1, za_O 2 a1), (2, za_I a2), (3, za_I 0), (4, za_I r_5), (5, za_I r_13), (6, za_I 0)]) rfl ?_
  exact J_21 _ (0 : Int32) r_5 (0 : Int32) σ hz (Nat.lt_succ_self _)
set_option maxHeartbeats 4000000 in
set_option maxRecDepth 100000 in
theorem zc_X9_followWay (l : Launch) (E : za_E) (a1 : Int32) (σ0 : za_S)  : zMi l E yX9_followWay cX9_followWay 5 (Option.some Jvm.ClassFile.FieldType.int) 5 118 [za_O 0 0, za_I a1] σ0 (fun r σ' => zc σ0 σ') := by
  refine zMi_of [(0, za_O 0 0), (1, za_I a1)] (by decide) rfl rfl (Nat.le_of_ble_eq_true rfl) ?_
  intro ho p e s m args below meth c G hr
  refine zv_gen (R9 := zc σ0) (zc_r σ0) (fun σ hz => ?_)
  refine zv_aload_n (j := 0) G dX9_followWay_0 rfl rfl ?_
  refine zg_X9_54 G dX9_followWay_1 ?_
  refine zv_callVNv (as := []) G (by decide) rfl rfl (zc_X1_clear l E 85 σ ) zk_X1_clear zm_577 rfl ⟨(Nat.le_of_ble_eq_true rfl), (Nat.le_of_ble_eq_true rfl)⟩ ⟨Nat.zero_le _, Nat.zero_le _⟩ (Nat.le_of_ble_eq_true rfl) dX9_followWay_4 (fun σ h_4 => ?_)
  have hz9 := h_4
  have hz := zc_t hz hz9
  refine zv_aload_n (j := 0) G dX9_followWay_7 rfl rfl ?_
  refine zg_X9_54 G dX9_followWay_8 ?_
  refine zv_aload_n (j := 0) G dX9_followWay_11 rfl rfl ?_
  refine zg_X9_16 G dX9_followWay_12 ?_
  refine zg_X9_179 G dX9_followWay_15 ?_
  refine zv_iload_n (j := 1) G dX9_followWay_18 rfl rfl ?_
  refine zv_iconst (v := 1) G dX9_followWay_19 (by decide) ?_
  refine zv_callVNv (as := [za_O 2 9, za_I a1, za_I 1]) G (by decide) rfl rfl (zc_X1_addRows l E 85 9 a1 (1 : Int32) σ ) zk_X1_addRows zm_581 rfl ⟨(Nat.le_of_ble_eq_true rfl), (Nat.le_of_ble_eq_true rfl)⟩ ⟨Nat.zero_le _, Nat.zero_le _⟩ (Nat.le_of_ble_eq_true rfl) dX9_followWay_20 (fun σ h_20 => ?_)
  have hz9 := h_20
  have hz := zc_t hz hz9
  refine zv_aload_n (j := 0) G dX9_followWay_23 rfl rfl ?_
  refine zg_X9_10 G dX9_followWay_24 ?_
  refine zg_X9_102 G dX9_followWay_27 ?_
  refine zv_astore_n (lv' := [(2, za_O 2 2), (0, za_O 0 0), (1, za_I a1)]) G dX9_followWay_30 rfl (by decide) rfl ?_
  refine zv_aload_n (j := 1) G dX9_followWay_31 rfl rfl ?_
  refine zg_X9_16 G dX9_followWay_32 ?_
  refine zg_X9_102 G dX9_followWay_35 ?_
  refine zv_callVNv (as := []) G (by decide) rfl rfl (zc_X6_clear l E 7 σ ) zk_X6_clear zm_591 rfl ⟨(Nat.le_of_ble_eq_true rfl), (Nat.le_of_ble_eq_true rfl)⟩ ⟨Nat.zero_le _, Nat.zero_le _⟩ (Nat.le_of_ble_eq_true rfl) dX9_followWay_38 (fun σ h_38 => ?_)
  have hz9 := h_38
  have hz := zc_t hz hz9
  refine zv_iconst (v := 0) G dX9_followWay_41 (by decide) ?_
  refine zv_istore_n (lv' := [(3, za_I 0), (2, za_O 2 2), (0, za_O 0 0), (1, za_I a1)]) G dX9_followWay_42 rfl (by decide) rfl ?_
  refine zv_iconst (v := 0) G dX9_followWay_43 (by decide) ?_
  have J_46 : ∀ (n : Nat) (y3_46 : Int32) (y4_46 : Int32) (σ : za_S) (hz : zc σ0 σ) (hn_46 : (2147483648 - y4_46.toInt).toNat < n), zV p l e (zRm 5 118) s m args below meth c E (za_A E) 5 0 0 (MQ below (va_Qi (fun r σ' => zc σ0 σ') (zB E) (za_A E)) args s 0 0 (za_A E)) 46 [(0, za_O 0 0), (1, za_I a1), (2, za_O 2 2), (3, za_I y3_46), (4, za_I y4_46)] [] σ := by
    intro n
    induction n with
    | zero => intro y3_46 y4_46 σ hz hn; exact absurd hn (Nat.not_lt_zero _)
    | succ n ih_46 =>
      intro y3_46 y4_46 σ hz hn_46
      refine zv_iload (j := 4) G dX9_followWay_46 rfl ?_
      refine zv_aload_n (j := 2) G dX9_followWay_48 rfl rfl ?_
      refine zg_X9_106 G dX9_followWay_49 ?_
      refine zv_icmp_ge (tgt := 101) G dX9_followWay_52 (by decide) (fun c_52 => ?_) (fun c_52 => ?_)
      · refine zv_iload_n (j := 3) G dX9_followWay_101 rfl rfl ?_
        exact zv_iret G hr dX9_followWay_102 hz
      · refine zv_aload_n (j := 2) G dX9_followWay_55 rfl rfl ?_
        refine zv_iload (j := 4) G dX9_followWay_56 rfl ?_
        refine zv_iconst (v := 4) G dX9_followWay_58 (by decide) ?_
        refine zv_callVNi (as := [za_I y4_46, za_I 4]) G (by decide) rfl rfl (zc_X6_cell l E 2 y4_46 (4 : Int32) σ ) zk_X6_cell zm_592 rfl ⟨(Nat.le_of_ble_eq_true rfl), (Nat.le_of_ble_eq_true rfl)⟩ ⟨Nat.zero_le _, Nat.zero_le _⟩ (Nat.le_of_ble_eq_true rfl) dX9_followWay_59 (fun r_59 σ h_59 => ?_)
        subst h_59
        refine zv_iload_n (j := 1) G dX9_followWay_62 rfl rfl ?_
        refine zv_icmp_ne (tgt := 79) G dX9_followWay_63 (by decide) (fun c_63 => ?_) (fun c_63 => ?_)
        · refine zv_aload_n (j := 0) G dX9_followWay_79 rfl rfl ?_
          refine zg_X9_16 G dX9_followWay_80 ?_
          refine zg_X9_102 G dX9_followWay_83 ?_
          refine zv_aload_n (j := 2) G dX9_followWay_86 rfl rfl ?_
          refine zv_iload (j := 4) G dX9_followWay_87 rfl ?_
          refine zv_iconst (v := 0) G dX9_followWay_89 (by decide) ?_
          refine zv_bipush (v := 100) G dX9_followWay_90 (by decide) ?_
          refine zv_callVNv (as := [za_O 2 2, za_I y4_46, za_I 0, za_I 100]) G (by decide) rfl rfl (zc_X6_appendPart l E 7 2 y4_46 (0 : Int32) (100 : Int32) σ ) zk_X6_appendPart zm_484 rfl ⟨(Nat.le_of_ble_eq_true rfl), (Nat.le_of_ble_eq_true rfl)⟩ ⟨Nat.zero_le _, Nat.zero_le _⟩ (Nat.le_of_ble_eq_true rfl) dX9_followWay_92 (fun σ h_92 => ?_)
          have hz9 := h_92
          have hz := zc_t hz hz9
          obtain ⟨x_95, e_95⟩ : ∃ y : Int32, y = y4_46 + 1 := ⟨_, rfl⟩
          refine zv_iinc (j := 4) (v := x_95) (lv' := [(4, za_I x_95), (0, za_O 0 0), (1, za_I a1), (2, za_O 2 2), (3, za_I y3_46)]) G dX9_followWay_95 rfl (by rw [e_95]; rfl) (by decide) rfl ?_
          refine zv_goto (tgt := 46) G dX9_followWay_98 (by decide) ?_
          refine zv_sub [1, 2, 3, 4, 0] (lv' := [(0, za_O 0 0), (1, za_I a1), (2, za_O 2 2), (3, za_I y3_46), (4, za_I x_95)]) rfl ?_
          exact ih_46 y3_46 x_95 σ hz (z_meas c_52 e_95 hn_46)
        · refine zv_iload_n (j := 3) G dX9_followWay_66 rfl rfl ?_
          refine zv_aload_n (j := 0) G dX9_followWay_67 rfl rfl ?_
          refine zv_aload_n (j := 2) G dX9_followWay_68 rfl rfl ?_
          refine zv_iload (j := 4) G dX9_followWay_69 rfl ?_
          refine zv_callVi (as := [za_O 2 2, za_I y4_46]) G (by decide) rfl rfl (zc_X9_followWayInRow l E 2 y4_46 σ ) zk_X9_followWayInRow zm_593 rfl ⟨(Nat.le_of_ble_eq_true rfl), (Nat.le_of_ble_eq_true rfl)⟩ ⟨Nat.zero_le _, Nat.zero_le _⟩ (Nat.le_of_ble_eq_true rfl) dX9_followWay_71 (fun r_71 σ h_71 => ?_)
          have hz9 := h_71
          have hz := zc_t hz hz9
          refine zv_iadd G dX9_followWay_74 ?_
          refine zv_top (fun x_75 e_75 => ?_)
          refine zv_istore_n (lv' := [(3, za_I x_75), (0, za_O 0 0), (1, za_I a1), (2, za_O 2 2), (4, za_I y4_46)]) G dX9_followWay_75 rfl (by decide) rfl ?_
          refine zv_goto (tgt := 95) G dX9_followWay_76 (by decide) ?_
          obtain ⟨x_95, e_95⟩ : ∃ y : Int32, y = y4_46 + 1 := ⟨_, rfl⟩
          refine zv_iinc (j := 4) (v := x_95) (lv' := [(4, za_I x_95), (3, za_I x_75), (0, za_O 0 0), (1, za_I a1), (2, za_O 2 2)]) G dX9_followWay_95 rfl (by rw [e_95]; rfl) (by decide) rfl ?_
          refine zv_goto (tgt := 46) G dX9_followWay_98 (by decide) ?_
          refine zv_sub [2, 3, 4, 1, 0] (lv' := [(0, za_O 0 0), (1, za_I a1), (2, za_O 2 2), (3, za_I x_75), (4, za_I x_95)]) rfl ?_
          exact ih_46 x_75 x_95 σ hz (z_meas c_52 e_95 hn_46)
  refine zv_istore (lv' := [(4, za_I 0), (3, za_I 0), (2, za_O 2 2), (0, za_O 0 0), (1, za_I a1)]) G dX9_followWay_44 (by decide) rfl ?_
  refine zv_sub [3, 4, 2, 1, 0] (lv' := [(0, za_O 0 0), (1, za_I a1), (2, za_O 2 2), (3, za_I 0), (4, za_I 0)]) rfl ?_
  exact J_46 _ (0 : Int32) (0 : Int32) σ hz (Nat.lt_succ_self _)
set_option maxHeartbeats 4000000 in
set_option maxRecDepth 100000 in
theorem zc_X8_tell_ (l : Launch) (E : za_E) (a1 : Int64) (a2 : Int64) (σ0 : za_S)  : zMv l E yX8_tell_ cX8_tell_ 5 (Option.none : Option Jvm.ClassFile.FieldType) 3 65 [za_O 9 81, za_L a1, za_L a2] σ0 (fun σ' => zc σ0 σ') := by
  refine zMv_of [(0, za_O 9 81), (1, za_L a1), (3, za_L a2)] (by decide) rfl rfl (Nat.le_of_ble_eq_true rfl) ?_
  intro ho p e s m args below meth c G hr
  refine zv_gen (R9 := zc σ0) (zc_r σ0) (fun σ hz => ?_)
  refine zv_aload_n (j := 0) G dX8_tell__0 rfl rfl ?_
  refine zv_lload_n (j := 1) G dX8_tell__1 rfl rfl ?_
  refine zv_callVv (as := [za_L a1]) G (by decide) rfl rfl (zc_X8_tell l E a1 σ ) zk_X8_tell zm_612 rfl ⟨(Nat.le_of_ble_eq_true rfl), (Nat.le_of_ble_eq_true rfl)⟩ ⟨Nat.zero_le _, Nat.zero_le _⟩ (Nat.le_of_ble_eq_true rfl) dX8_tell__2 (fun σ h_2 => ?_)
  have hz9 := h_2
  have hz := zc_t hz hz9
  refine zv_aload_n (j := 0) G dX8_tell__5 rfl rfl ?_
  refine zv_lload_n (j := 2) G dX8_tell__6 rfl rfl ?_
  refine zv_callVv (as := [za_L a2]) G (by decide) rfl rfl (zc_X8_add l E a2 σ ) zk_X8_add zm_535 rfl ⟨(Nat.le_of_ble_eq_true rfl), (Nat.le_of_ble_eq_true rfl)⟩ ⟨Nat.zero_le _, Nat.zero_le _⟩ (Nat.le_of_ble_eq_true rfl) dX8_tell__7 (fun σ h_7 => ?_)
  have hz9 := h_7
  have hz := zc_t hz hz9
  exact zv_vret G hr dX8_tell__10 hz
set_option maxHeartbeats 4000000 in
set_option maxRecDepth 100000 in
theorem zc_X9_cutPeriod (l : Launch) (E : za_E) (a1 : Int32) (a2 : Int32) (a3 : Int32) (a4 : Int32) (σ0 : za_S)  : zMi l E yX9_cutPeriod cX9_cutPeriod 10 (Option.some Jvm.ClassFile.FieldType.int) 6 142 [za_O 0 0, za_I a1, za_I a2, za_I a3, za_I a4] σ0 (fun r σ' => zc σ0 σ') := by
  refine zMi_of [(0, za_O 0 0), (1, za_I a1), (2, za_I a2), (3, za_I a3), (4, za_I a4)] (by decide) rfl rfl (Nat.le_of_ble_eq_true rfl) ?_
  intro ho p e s m args below meth c G hr
  refine zv_gen (R9 := zc σ0) (zc_r σ0) (fun σ hz => ?_)
  refine zv_iload_n (j := 1) G dX9_cutPeriod_0 rfl rfl ?_
  refine zv_iload_n (j := 2) G dX9_cutPeriod_1 rfl rfl ?_
  refine zv_iload_n (j := 3) G dX9_cutPeriod_2 rfl rfl ?_
  refine zv_iload (j := 4) G dX9_cutPeriod_3 rfl ?_
  refine zv_callSi (as := [za_I a1, za_I a2, za_I a3, za_I a4]) G (zc_X9_isPortion l E a1 a2 a3 a4 σ ) zk_X9_isPortion zm_435 rfl ⟨(Nat.le_of_ble_eq_true rfl), (Nat.le_of_ble_eq_true rfl)⟩ ⟨Nat.zero_le _, Nat.zero_le _⟩ (Nat.le_of_ble_eq_true rfl) dX9_cutPeriod_5 (fun r_5 σ h_5 => ?_)
  obtain ⟨h_5, rfl⟩ := h_5
  refine zv_if_ne (tgt := 13) G dX9_cutPeriod_8 (by decide) (fun c_8 => ?_) (fun c_8 => ?_)
  · refine zv_aload_n (j := 0) G dX9_cutPeriod_13 rfl rfl ?_
    refine zg_X9_10 G dX9_cutPeriod_14 ?_
    refine zv_iload_n (j := 1) G dX9_cutPeriod_17 rfl rfl ?_
    refine zv_callVNr (as := [za_I a1]) G (by decide) rfl rfl (zc_X4_table l E 1 a1 σ ) zk_X4_table zm_453 rfl ⟨(Nat.le_of_ble_eq_true rfl), (Nat.le_of_ble_eq_true rfl)⟩ ⟨Nat.zero_le _, Nat.zero_le _⟩ (Nat.le_of_ble_eq_true rfl) dX9_cutPeriod_18 (fun r_18 σ h_18 => ?_)
    obtain ⟨w_18, rfl, h_w_18, t_18, rfl⟩ := h_18
    refine zv_astore (lv' := [(5, za_O 2 w_18), (0, za_O 0 0), (1, za_I a1), (2, za_I a2), (3, za_I a3), (4, za_I a4)]) G dX9_cutPeriod_21 (by decide) rfl ?_
    refine zv_aload (j := 0) G dX9_cutPeriod_23 rfl ?_
    refine zv_iload_n (j := 3) G dX9_cutPeriod_25 rfl rfl ?_
    refine zv_iload_n (j := 4) G dX9_cutPeriod_26 rfl rfl ?_
    refine zv_iload (j := 5) G dX9_cutPeriod_27 rfl ?_
    refine zv_callVNi (as := [za_I a2, za_I a3, za_I a4]) G (by decide) rfl rfl (zc_X6_touching l E w_18 a2 a3 a4 σ ) zk_X6_touching zm_457 rfl ⟨(Nat.le_of_ble_eq_true rfl), (Nat.le_of_ble_eq_true rfl)⟩ ⟨Nat.zero_le _, Nat.zero_le _⟩ (Nat.le_of_ble_eq_true rfl) dX9_cutPeriod_29 (fun r_29 σ h_29 => ?_)
    subst h_29
    refine zv_istore (lv' := [(6, za_I r_29), (5, za_O 2 w_18), (0, za_O 0 0), (1, za_I a1), (2, za_I a2), (3, za_I a3), (4, za_I a4)]) G dX9_cutPeriod_32 (by decide) rfl ?_
    refine zv_iload (j := 0) G dX9_cutPeriod_34 rfl ?_
    refine zv_if_ne (tgt := 42) G dX9_cutPeriod_36 (by decide) (fun c_36 => ?_) (fun c_36 => ?_)
    · refine zv_aload (j := 1) G dX9_cutPeriod_42 rfl ?_
      refine zv_iload_n (j := 4) G dX9_cutPeriod_44 rfl rfl ?_
      refine zv_iload_n (j := 5) G dX9_cutPeriod_45 rfl rfl ?_
      refine zv_iload (j := 6) G dX9_cutPeriod_46 rfl ?_
      refine zv_callVNi (as := [za_I a2, za_I a3, za_I a4]) G (by decide) rfl rfl (zc_X6_daysWithin l E w_18 a2 a3 a4 σ ) zk_X6_daysWithin zm_568 rfl ⟨(Nat.le_of_ble_eq_true rfl), (Nat.le_of_ble_eq_true rfl)⟩ ⟨Nat.zero_le _, Nat.zero_le _⟩ (Nat.le_of_ble_eq_true rfl) dX9_cutPeriod_48 (fun r_48 σ h_48 => ?_)
      subst h_48
      refine zv_istore (lv' := [(7, za_I r_48), (6, za_I r_29), (5, za_O 2 w_18), (0, za_O 0 0), (1, za_I a1), (2, za_I a2), (3, za_I a3), (4, za_I a4)]) G dX9_cutPeriod_51 (by decide) rfl ?_
      refine zv_aload_n (j := 3) G dX9_cutPeriod_53 rfl rfl ?_
      refine zg_X9_16 G dX9_cutPeriod_54 ?_
      refine zv_aload_n (j := 3) G dX9_cutPeriod_57 rfl rfl ?_
      refine zg_X9_10 G dX9_cutPeriod_58 ?_
      refine zv_callVNv (as := [za_O 1 1]) G (by decide) rfl rfl (zc_X4_copyOf l E 6 1 σ ) zk_X4_copyOf zm_475 rfl ⟨(Nat.le_of_ble_eq_true rfl), (Nat.le_of_ble_eq_true rfl)⟩ ⟨Nat.zero_le _, Nat.zero_le _⟩ (Nat.le_of_ble_eq_true rfl) dX9_cutPeriod_61 (fun σ h_61 => ?_)
      have hz9 := h_61
      have hz := zc_t hz hz9
      refine zv_aload_n (j := 3) G dX9_cutPeriod_64 rfl rfl ?_
      refine zg_X9_16 G dX9_cutPeriod_65 ?_
      refine zv_iload_n (j := 4) G dX9_cutPeriod_68 rfl rfl ?_
      refine zv_callVNr (as := [za_I a1]) G (by decide) rfl rfl (zc_X4_table l E 6 a1 σ ) zk_X4_table zm_453 rfl ⟨(Nat.le_of_ble_eq_true rfl), (Nat.le_of_ble_eq_true rfl)⟩ ⟨Nat.zero_le _, Nat.zero_le _⟩ (Nat.le_of_ble_eq_true rfl) dX9_cutPeriod_69 (fun r_69 σ h_69 => ?_)
      obtain ⟨w_69, rfl, h_w_69, t_69, rfl⟩ := h_69
      refine zv_aload (j := 2) G dX9_cutPeriod_72 rfl ?_
      refine zv_iload_n (j := 5) G dX9_cutPeriod_74 rfl rfl ?_
      refine zv_iload_n (j := 6) G dX9_cutPeriod_75 rfl rfl ?_
      refine zv_iload (j := 7) G dX9_cutPeriod_76 rfl ?_
      refine zv_callVNv (as := [za_O 2 w_18, za_I a2, za_I a3, za_I a4]) G (by decide) rfl rfl (zc_X6_fillCut l E w_69 w_18 a2 a3 a4 σ ) zk_X6_fillCut zm_569 rfl ⟨(Nat.le_of_ble_eq_true rfl), (Nat.le_of_ble_eq_true rfl)⟩ ⟨Nat.zero_le _, Nat.zero_le _⟩ (Nat.le_of_ble_eq_true rfl) dX9_cutPeriod_78 (fun σ h_78 => ?_)
      have hz9 := h_78
      have hz := zc_t hz hz9
      refine zv_iload_n (j := 4) G dX9_cutPeriod_81 rfl rfl ?_
      refine zv_iconst (v := 1) G dX9_cutPeriod_82 (by decide) ?_
      have J_109 : ∀  (σ : za_S) (hz : zc σ0 σ), zV p l e (zRm 6 142) s m args below meth c E (za_A E) 10 0 0 (MQ below (va_Qi (fun r σ' => zc σ0 σ') (zB E) (za_A E)) args s 0 0 (za_A E)) 109 [(0, za_O 0 0), (1, za_I a1), (2, za_I a2), (6, za_I r_29), (7, za_I r_48)] [] σ := by
        intro σ hz
        refine zv_iload_n (j := 1) G dX9_cutPeriod_109 rfl rfl ?_
        refine zv_iconst (v := 1) G dX9_cutPeriod_110 (by decide) ?_
        have J_123 : ∀ (s0_123 : Int32) (σ : za_S) (hz : zc σ0 σ), zV p l e (zRm 6 142) s m args below meth c E (za_A E) 10 0 0 (MQ below (va_Qi (fun r σ' => zc σ0 σ') (zB E) (za_A E)) args s 0 0 (za_A E)) 123 [(0, za_O 0 0), (6, za_I r_29), (7, za_I r_48)] [za_I s0_123] σ := by
          intro s0_123 σ hz
          refine zv_istore (lv' := [(8, za_I s0_123), (0, za_O 0 0), (6, za_I r_29), (7, za_I r_48)]) G dX9_cutPeriod_123 (by decide) rfl ?_
          refine zv_aload_n (j := 1) G dX9_cutPeriod_125 rfl rfl ?_
          refine zv_iload (j := 2) G dX9_cutPeriod_126 rfl ?_
          refine zv_callVi (as := [za_I r_29]) G (by decide) rfl rfl (zc_X9_taken l E r_29 σ ) zk_X9_taken zm_489 rfl ⟨(Nat.le_of_ble_eq_true rfl), (Nat.le_of_ble_eq_true rfl)⟩ ⟨Nat.zero_le _, Nat.zero_le _⟩ (Nat.le_of_ble_eq_true rfl) dX9_cutPeriod_128 (fun r_128 σ h_128 => ?_)
          have hz9 := h_128
          have hz := zc_t hz hz9
          refine zv_istore (lv' := [(9, za_I r_128), (8, za_I s0_123), (0, za_O 0 0), (6, za_I r_29), (7, za_I r_48)]) G dX9_cutPeriod_131 (by decide) rfl ?_
          refine zv_iload (j := 0) G dX9_cutPeriod_133 rfl ?_
          refine zv_if_lt (tgt := 151) G dX9_cutPeriod_135 (by decide) (fun c_135 => ?_) (fun c_135 => ?_)
          · refine zv_iload (j := 0) G dX9_cutPeriod_151 rfl ?_
            exact zv_iret G hr dX9_cutPeriod_153 hz
          · refine zv_aload_n (j := 2) G dX9_cutPeriod_138 rfl rfl ?_
            refine zg_X9_40 G dX9_cutPeriod_139 ?_
            refine zv_iload (j := 4) G dX9_cutPeriod_142 rfl ?_
            refine zv_i2l G dX9_cutPeriod_144 ?_
            refine zv_iload (j := 1) G dX9_cutPeriod_145 rfl ?_
            refine zv_i2l G dX9_cutPeriod_147 ?_
            refine zv_callVNv (as := [za_L r_48.toInt64, za_L s0_123.toInt64]) G (by decide) rfl rfl (zc_X8_tell_ l E r_48.toInt64 s0_123.toInt64 σ ) zk_X8_tell_ zm_608 rfl ⟨(Nat.le_of_ble_eq_true rfl), (Nat.le_of_ble_eq_true rfl)⟩ ⟨Nat.zero_le _, Nat.zero_le _⟩ (Nat.le_of_ble_eq_true rfl) dX9_cutPeriod_148 (fun σ h_148 => ?_)
            have hz9 := h_148
            have hz := zc_t hz hz9
            refine zv_iload (j := 0) G dX9_cutPeriod_151 rfl ?_
            exact zv_iret G hr dX9_cutPeriod_153 hz
        refine zv_icmp_ne (tgt := 122) G dX9_cutPeriod_111 (by decide) (fun c_111 => ?_) (fun c_111 => ?_)
        · refine zv_iconst (v := 0) G dX9_cutPeriod_122 (by decide) ?_
          refine zv_sub [0, 3, 4] (lv' := [(0, za_O 0 0), (6, za_I r_29), (7, za_I r_48)]) rfl ?_
          exact J_123 (0 : Int32) σ hz
        · refine zv_aload_n (j := 0) G dX9_cutPeriod_114 rfl rfl ?_
          refine zv_iload_n (j := 2) G dX9_cutPeriod_115 rfl rfl ?_
          refine zv_callVi (as := [za_I a2]) G (by decide) rfl rfl (zc_X9_followWay l E a2 σ ) zk_X9_followWay zm_573 rfl ⟨(Nat.le_of_ble_eq_true rfl), (Nat.le_of_ble_eq_true rfl)⟩ ⟨Nat.zero_le _, Nat.zero_le _⟩ (Nat.le_of_ble_eq_true rfl) dX9_cutPeriod_116 (fun r_116 σ h_116 => ?_)
          have hz9 := h_116
          have hz := zc_t hz hz9
          refine zv_goto (tgt := 123) G dX9_cutPeriod_119 (by decide) ?_
          refine zv_sub [0, 3, 4] (lv' := [(0, za_O 0 0), (6, za_I r_29), (7, za_I r_48)]) rfl ?_
          exact J_123 r_116 σ hz
      refine zv_icmp_ne (tgt := 109) G dX9_cutPeriod_83 (by decide) (fun c_83 => ?_) (fun c_83 => ?_)
      · refine zv_sub [3, 4, 5, 1, 0] (lv' := [(0, za_O 0 0), (1, za_I a1), (2, za_I a2), (6, za_I r_29), (7, za_I r_48)]) rfl ?_
        exact J_109 σ hz
      · refine zv_aload_n (j := 3) G dX9_cutPeriod_86 rfl rfl ?_
        refine zg_X9_10 G dX9_cutPeriod_87 ?_
        refine zg_X9_238 G dX9_cutPeriod_90 ?_
        refine zv_if_ne (tgt := 109) G dX9_cutPeriod_93 (by decide) (fun c_93 => ?_) (fun c_93 => ?_)
        · refine zv_sub [3, 4, 5, 1, 0] (lv' := [(0, za_O 0 0), (1, za_I a1), (2, za_I a2), (6, za_I r_29), (7, za_I r_48)]) rfl ?_
          exact J_109 σ hz
        · refine zv_aload_n (j := 3) G dX9_cutPeriod_96 rfl rfl ?_
          refine zg_X9_16 G dX9_cutPeriod_97 ?_
          refine zv_callVNi (as := []) G (by decide) rfl rfl (zc_X4_isHeld l E 6 σ ) zk_X4_isHeld zm_547 rfl ⟨(Nat.le_of_ble_eq_true rfl), (Nat.le_of_ble_eq_true rfl)⟩ ⟨Nat.zero_le _, Nat.zero_le _⟩ (Nat.le_of_ble_eq_true rfl) dX9_cutPeriod_100 (fun r_100 σ h_100 => ?_)
          obtain ⟨h_100, rfl⟩ := h_100
          refine zv_if_ne (tgt := 109) G dX9_cutPeriod_103 (by decide) (fun c_103 => ?_) (fun c_103 => ?_)
          · refine zv_sub [3, 4, 5, 1, 0] (lv' := [(0, za_O 0 0), (1, za_I a1), (2, za_I a2), (6, za_I r_29), (7, za_I r_48)]) rfl ?_
            exact J_109 σ hz
          · refine zv_bipush (v := (-3)) G dX9_cutPeriod_106 (by decide) ?_
            exact zv_iret G hr dX9_cutPeriod_108 hz
    · refine zv_bipush (v := (-2)) G dX9_cutPeriod_39 (by decide) ?_
      exact zv_iret G hr dX9_cutPeriod_41 hz
  · refine zv_iconst (v := (-1)) G dX9_cutPeriod_11 (by decide) ?_
    exact zv_iret G hr dX9_cutPeriod_12 hz
set_option maxHeartbeats 4000000 in
set_option maxRecDepth 100000 in
theorem zc_X9_cuts (l : Launch) (E : za_E) (a1 : Int32) (a2 : Int32) (a3 : Int32) (a4 : Int32) (σ0 : za_S)  : zMi l E yX9_cuts cX9_cuts 5 (Option.some Jvm.ClassFile.FieldType.int) 7 171 [za_O 0 0, za_I a1, za_I a2, za_I a3, za_I a4] σ0 (fun r σ' => zc σ0 σ') := by
  refine zMi_of [(0, za_O 0 0), (1, za_I a1), (2, za_I a2), (3, za_I a3), (4, za_I a4)] (by decide) rfl rfl (Nat.le_of_ble_eq_true rfl) ?_
  intro ho p e s m args below meth c G hr
  refine zv_gen (R9 := zc σ0) (zc_r σ0) (fun σ hz => ?_)
  refine zv_aload_n (j := 0) G dX9_cuts_0 rfl rfl ?_
  refine zg_X9_22 G dX9_cuts_1 ?_
  refine zv_aload_n (j := 0) G dX9_cuts_4 rfl rfl ?_
  refine zg_X9_10 G dX9_cuts_5 ?_
  refine zv_callVNv (as := [za_O 1 1]) G (by decide) rfl rfl (zc_X2_prepare l E 1 σ ) zk_X2_prepare zm_409 rfl ⟨(Nat.le_of_ble_eq_true rfl), (Nat.le_of_ble_eq_true rfl)⟩ ⟨Nat.zero_le _, Nat.zero_le _⟩ (Nat.le_of_ble_eq_true rfl) dX9_cuts_8 (fun σ h_8 => ?_)
  have hz9 := h_8
  have hz := zc_t hz hz9
  refine zv_aload_n (j := 0) G dX9_cuts_11 rfl rfl ?_
  refine zv_aload_n (j := 0) G dX9_cuts_12 rfl rfl ?_
  refine zv_iload_n (j := 1) G dX9_cuts_13 rfl rfl ?_
  refine zv_iload_n (j := 2) G dX9_cuts_14 rfl rfl ?_
  refine zv_iload_n (j := 3) G dX9_cuts_15 rfl rfl ?_
  refine zv_iload (j := 4) G dX9_cuts_16 rfl ?_
  refine zv_callVi (as := [za_I a1, za_I a2, za_I a3, za_I a4]) G (by decide) rfl rfl (zc_X9_cutPeriod l E a1 a2 a3 a4 σ ) zk_X9_cutPeriod zm_564 rfl ⟨(Nat.le_of_ble_eq_true rfl), (Nat.le_of_ble_eq_true rfl)⟩ ⟨Nat.zero_le _, Nat.zero_le _⟩ (Nat.le_of_ble_eq_true rfl) dX9_cuts_18 (fun r_18 σ h_18 => ?_)
  have hz9 := h_18
  have hz := zc_t hz hz9
  refine zv_callVi (as := [za_I r_18]) G (by decide) rfl rfl (zc_X9_noted l E r_18 σ ) zk_X9_noted zm_493 rfl ⟨(Nat.le_of_ble_eq_true rfl), (Nat.le_of_ble_eq_true rfl)⟩ ⟨Nat.zero_le _, Nat.zero_le _⟩ (Nat.le_of_ble_eq_true rfl) dX9_cuts_21 (fun r_21 σ h_21 => ?_)
  have hz9 := h_21
  have hz := zc_t hz hz9
  exact zv_iret G hr dX9_cuts_24 hz
set_option maxHeartbeats 4000000 in
set_option maxRecDepth 100000 in
theorem zc_X6_shiftRows (l : Launch) (E : za_E) (w : Nat) (a1 : Int32) (a2 : Int32) (σ0 : za_S)  : zMi l E yX6_shiftRows cX6_shiftRows 5 (Option.some Jvm.ClassFile.FieldType.boolean) 3 65 [za_O 2 w, za_I a1, za_I a2] σ0 (fun r σ' => (r = 0 ∨ r = 1) ∧ zc σ0 σ') := by
  refine zMi_of [(0, za_O 2 w), (1, za_I a1), (2, za_I a2)] (by decide) rfl rfl (Nat.le_of_ble_eq_true rfl) ?_
  intro ho p e s m args below meth c G hr
  have h_w : za_kd w = 2 := za_okO (by decide) (List.forall_mem_cons.mp ho).1
  refine zv_gen (R9 := zc σ0) (zc_r σ0) (fun σ hz => ?_)
  refine zv_iconst (v := 1) G dX6_shiftRows_0 (by decide) ?_
  refine zv_istore_n (lv' := [(3, za_I 1), (0, za_O 2 w), (1, za_I a1), (2, za_I a2)]) G dX6_shiftRows_1 rfl (by decide) rfl ?_
  refine zv_iconst (v := 0) G dX6_shiftRows_2 (by decide) ?_
  have J_5 : ∀ (n : Nat) (y3_5 : Int32) (y4_5 : Int32) (σ : za_S) (hz : zc σ0 σ) (b3_5 : y3_5 = 0 ∨ y3_5 = 1) (hn_5 : (2147483648 - y4_5.toInt).toNat < n), zV p l e (zRm 3 65) s m args below meth c E (za_A E) 5 0 0 (MQ below (va_Qi (fun r σ' => (r = 0 ∨ r = 1) ∧ zc σ0 σ') (zB E) (za_A E)) args s 0 0 (za_A E)) 5 [(0, za_O 2 w), (1, za_I a1), (2, za_I a2), (3, za_I y3_5), (4, za_I y4_5)] [] σ := by
    intro n
    induction n with
    | zero => intro y3_5 y4_5 σ hz b3_5 hn; exact absurd hn (Nat.not_lt_zero _)
    | succ n ih_5 =>
      intro y3_5 y4_5 σ hz b3_5 hn_5
      refine zv_iload (j := 4) G dX6_shiftRows_5 rfl ?_
      refine zv_aload_n (j := 0) G dX6_shiftRows_7 rfl rfl ?_
      refine zg_X6_15 G dX6_shiftRows_8 ?_
      refine zv_icmp_ge (tgt := 93) G dX6_shiftRows_11 (by decide) (fun c_11 => ?_) (fun c_11 => ?_)
      · refine zv_iload_n (j := 3) G dX6_shiftRows_93 rfl rfl ?_
        exact zv_zret G hr dX6_shiftRows_94 (z_nar b3_5) ⟨b3_5, hz⟩
      · refine zv_aload_n (j := 0) G dX6_shiftRows_14 rfl rfl ?_
        refine zv_iload (j := 4) G dX6_shiftRows_15 rfl ?_
        refine zv_iconst (v := 0) G dX6_shiftRows_17 (by decide) ?_
        refine zv_callVi (as := [za_I y4_5, za_I 0]) G (by decide) rfl rfl (zc_X6_cell l E w y4_5 (0 : Int32) σ ) zk_X6_cell zm_465 rfl ⟨(Nat.le_of_ble_eq_true rfl), (Nat.le_of_ble_eq_true rfl)⟩ ⟨Nat.zero_le _, Nat.zero_le _⟩ (Nat.le_of_ble_eq_true rfl) dX6_shiftRows_18 (fun r_18 σ h_18 => ?_)
        subst h_18
        refine zv_iload_n (j := 1) G dX6_shiftRows_21 rfl rfl ?_
        refine zv_icmp_ne (tgt := 87) G dX6_shiftRows_22 (by decide) (fun c_22 => ?_) (fun c_22 => ?_)
        · obtain ⟨x_87, e_87⟩ : ∃ y : Int32, y = y4_5 + 1 := ⟨_, rfl⟩
          refine zv_iinc (j := 4) (v := x_87) (lv' := [(4, za_I x_87), (0, za_O 2 w), (1, za_I a1), (2, za_I a2), (3, za_I y3_5)]) G dX6_shiftRows_87 rfl (by rw [e_87]; rfl) (by decide) rfl ?_
          refine zv_goto (tgt := 5) G dX6_shiftRows_90 (by decide) ?_
          refine zv_sub [1, 2, 3, 4, 0] (lv' := [(0, za_O 2 w), (1, za_I a1), (2, za_I a2), (3, za_I y3_5), (4, za_I x_87)]) rfl ?_
          exact ih_5 y3_5 x_87 σ hz b3_5 (z_meas c_11 e_87 hn_5)
        · refine zv_aload_n (j := 0) G dX6_shiftRows_25 rfl rfl ?_
          refine zv_iload (j := 4) G dX6_shiftRows_26 rfl ?_
          refine zv_iconst (v := 2) G dX6_shiftRows_28 (by decide) ?_
          refine zv_aload_n (j := 0) G dX6_shiftRows_29 rfl rfl ?_
          refine zv_iload (j := 4) G dX6_shiftRows_30 rfl ?_
          refine zv_iconst (v := 2) G dX6_shiftRows_32 (by decide) ?_
          refine zv_callVi (as := [za_I y4_5, za_I 2]) G (by decide) rfl rfl (zc_X6_cell l E w y4_5 (2 : Int32) σ ) zk_X6_cell zm_465 rfl ⟨(Nat.le_of_ble_eq_true rfl), (Nat.le_of_ble_eq_true rfl)⟩ ⟨Nat.zero_le _, Nat.zero_le _⟩ (Nat.le_of_ble_eq_true rfl) dX6_shiftRows_33 (fun r_33 σ h_33 => ?_)
          subst h_33
          refine zv_iload_n (j := 2) G dX6_shiftRows_36 rfl rfl ?_
          refine zv_iadd G dX6_shiftRows_37 ?_
          refine zv_callVv (as := [za_I y4_5, za_I 2, za_I (r_33 + a2)]) G (by decide) rfl rfl (zc_X6_put l E w y4_5 (2 : Int32) (r_33 + a2) σ ) zk_X6_put zm_522 rfl ⟨(Nat.le_of_ble_eq_true rfl), (Nat.le_of_ble_eq_true rfl)⟩ ⟨Nat.zero_le _, Nat.zero_le _⟩ (Nat.le_of_ble_eq_true rfl) dX6_shiftRows_38 (fun σ h_38 => ?_)
          have hz9 := h_38
          have hz := zc_t hz hz9
          refine zv_aload_n (j := 0) G dX6_shiftRows_41 rfl rfl ?_
          refine zv_iload (j := 4) G dX6_shiftRows_42 rfl ?_
          refine zv_iconst (v := 3) G dX6_shiftRows_44 (by decide) ?_
          refine zv_aload_n (j := 0) G dX6_shiftRows_45 rfl rfl ?_
          refine zv_iload (j := 4) G dX6_shiftRows_46 rfl ?_
          refine zv_iconst (v := 3) G dX6_shiftRows_48 (by decide) ?_
          refine zv_callVi (as := [za_I y4_5, za_I 3]) G (by decide) rfl rfl (zc_X6_cell l E w y4_5 (3 : Int32) σ ) zk_X6_cell zm_465 rfl ⟨(Nat.le_of_ble_eq_true rfl), (Nat.le_of_ble_eq_true rfl)⟩ ⟨Nat.zero_le _, Nat.zero_le _⟩ (Nat.le_of_ble_eq_true rfl) dX6_shiftRows_49 (fun r_49 σ h_49 => ?_)
          subst h_49
          refine zv_iload_n (j := 2) G dX6_shiftRows_52 rfl rfl ?_
          refine zv_iadd G dX6_shiftRows_53 ?_
          refine zv_callVv (as := [za_I y4_5, za_I 3, za_I (r_49 + a2)]) G (by decide) rfl rfl (zc_X6_put l E w y4_5 (3 : Int32) (r_49 + a2) σ ) zk_X6_put zm_522 rfl ⟨(Nat.le_of_ble_eq_true rfl), (Nat.le_of_ble_eq_true rfl)⟩ ⟨Nat.zero_le _, Nat.zero_le _⟩ (Nat.le_of_ble_eq_true rfl) dX6_shiftRows_54 (fun σ h_54 => ?_)
          have hz9 := h_54
          have hz := zc_t hz hz9
          refine zv_iload_n (j := 3) G dX6_shiftRows_57 rfl rfl ?_
          refine zv_if_eq (tgt := 85) G dX6_shiftRows_58 (by decide) (fun c_58 => ?_) (fun c_58 => ?_)
          · refine zv_iconst (v := 0) G dX6_shiftRows_85 (by decide) ?_
            refine zv_istore_n (lv' := [(3, za_I 0), (0, za_O 2 w), (1, za_I a1), (2, za_I a2), (4, za_I y4_5)]) G dX6_shiftRows_86 rfl (by decide) rfl ?_
            obtain ⟨x_87, e_87⟩ : ∃ y : Int32, y = y4_5 + 1 := ⟨_, rfl⟩
            refine zv_iinc (j := 4) (v := x_87) (lv' := [(4, za_I x_87), (3, za_I 0), (0, za_O 2 w), (1, za_I a1), (2, za_I a2)]) G dX6_shiftRows_87 rfl (by rw [e_87]; rfl) (by decide) rfl ?_
            refine zv_goto (tgt := 5) G dX6_shiftRows_90 (by decide) ?_
            refine zv_sub [2, 3, 4, 1, 0] (lv' := [(0, za_O 2 w), (1, za_I a1), (2, za_I a2), (3, za_I 0), (4, za_I x_87)]) rfl ?_
            exact ih_5 (0 : Int32) x_87 σ hz (Or.inl rfl) (z_meas c_11 e_87 hn_5)
          · refine zv_aload_n (j := 0) G dX6_shiftRows_61 rfl rfl ?_
            refine zv_iload (j := 4) G dX6_shiftRows_62 rfl ?_
            refine zv_iconst (v := 2) G dX6_shiftRows_64 (by decide) ?_
            refine zv_callVi (as := [za_I y4_5, za_I 2]) G (by decide) rfl rfl (zc_X6_cell l E w y4_5 (2 : Int32) σ ) zk_X6_cell zm_465 rfl ⟨(Nat.le_of_ble_eq_true rfl), (Nat.le_of_ble_eq_true rfl)⟩ ⟨Nat.zero_le _, Nat.zero_le _⟩ (Nat.le_of_ble_eq_true rfl) dX6_shiftRows_65 (fun r_65 σ h_65 => ?_)
            subst h_65
            refine zv_aload_n (j := 0) G dX6_shiftRows_68 rfl rfl ?_
            refine zv_iload (j := 4) G dX6_shiftRows_69 rfl ?_
            refine zv_iconst (v := 3) G dX6_shiftRows_71 (by decide) ?_
            refine zv_callVi (as := [za_I y4_5, za_I 3]) G (by decide) rfl rfl (zc_X6_cell l E w y4_5 (3 : Int32) σ ) zk_X6_cell zm_465 rfl ⟨(Nat.le_of_ble_eq_true rfl), (Nat.le_of_ble_eq_true rfl)⟩ ⟨Nat.zero_le _, Nat.zero_le _⟩ (Nat.le_of_ble_eq_true rfl) dX6_shiftRows_72 (fun r_72 σ h_72 => ?_)
            subst h_72
            refine zv_callSNi (as := [za_I r_65, za_I r_72]) G (zc_X9_isPeriod l E r_65 r_72 σ ) zk_X9_isPeriod zm_625 rfl ⟨(Nat.le_of_ble_eq_true rfl), (Nat.le_of_ble_eq_true rfl)⟩ ⟨Nat.zero_le _, Nat.zero_le _⟩ (Nat.le_of_ble_eq_true rfl) dX6_shiftRows_75 (fun r_75 σ h_75 => ?_)
            obtain ⟨h_75, rfl⟩ := h_75
            refine zv_if_eq (tgt := 85) G dX6_shiftRows_78 (by decide) (fun c_78 => ?_) (fun c_78 => ?_)
            · refine zv_iconst (v := 0) G dX6_shiftRows_85 (by decide) ?_
              refine zv_istore_n (lv' := [(3, za_I 0), (0, za_O 2 w), (1, za_I a1), (2, za_I a2), (4, za_I y4_5)]) G dX6_shiftRows_86 rfl (by decide) rfl ?_
              obtain ⟨x_87, e_87⟩ : ∃ y : Int32, y = y4_5 + 1 := ⟨_, rfl⟩
              refine zv_iinc (j := 4) (v := x_87) (lv' := [(4, za_I x_87), (3, za_I 0), (0, za_O 2 w), (1, za_I a1), (2, za_I a2)]) G dX6_shiftRows_87 rfl (by rw [e_87]; rfl) (by decide) rfl ?_
              refine zv_goto (tgt := 5) G dX6_shiftRows_90 (by decide) ?_
              refine zv_sub [2, 3, 4, 1, 0] (lv' := [(0, za_O 2 w), (1, za_I a1), (2, za_I a2), (3, za_I 0), (4, za_I x_87)]) rfl ?_
              exact ih_5 (0 : Int32) x_87 σ hz (Or.inl rfl) (z_meas c_11 e_87 hn_5)
            · refine zv_iconst (v := 1) G dX6_shiftRows_81 (by decide) ?_
              refine zv_goto (tgt := 86) G dX6_shiftRows_82 (by decide) ?_
              refine zv_istore_n (lv' := [(3, za_I 1), (0, za_O 2 w), (1, za_I a1), (2, za_I a2), (4, za_I y4_5)]) G dX6_shiftRows_86 rfl (by decide) rfl ?_
              obtain ⟨x_87, e_87⟩ : ∃ y : Int32, y = y4_5 + 1 := ⟨_, rfl⟩
              refine zv_iinc (j := 4) (v := x_87) (lv' := [(4, za_I x_87), (3, za_I 1), (0, za_O 2 w), (1, za_I a1), (2, za_I a2)]) G dX6_shiftRows_87 rfl (by rw [e_87]; rfl) (by decide) rfl ?_
              refine zv_goto (tgt := 5) G dX6_shiftRows_90 (by decide) ?_
              refine zv_sub [2, 3, 4, 1, 0] (lv' := [(0, za_O 2 w), (1, za_I a1), (2, za_I a2), (3, za_I 1), (4, za_I x_87)]) rfl ?_
              exact ih_5 (1 : Int32) x_87 σ hz (Or.inr rfl) (z_meas c_11 e_87 hn_5)
  refine zv_istore (lv' := [(4, za_I 0), (3, za_I 1), (0, za_O 2 w), (1, za_I a1), (2, za_I a2)]) G dX6_shiftRows_3 (by decide) rfl ?_
  refine zv_sub [2, 3, 4, 1, 0] (lv' := [(0, za_O 2 w), (1, za_I a1), (2, za_I a2), (3, za_I 1), (4, za_I 0)]) rfl ?_
  exact J_5 _ (1 : Int32) (0 : Int32) σ hz (Or.inr rfl) (Nat.lt_succ_self _)
set_option maxHeartbeats 4000000 in
set_option maxRecDepth 100000 in
theorem zc_X9_shiftKey (l : Launch) (E : za_E) (a1 : Int32) (a2 : Int32) (a3 : Int32) (σ0 : za_S)  : zMi l E yX9_shiftKey cX9_shiftKey 6 (Option.some Jvm.ClassFile.FieldType.int) 6 142 [za_O 0 0, za_I a1, za_I a2, za_I a3] σ0 (fun r σ' => zc σ0 σ') := by
  refine zMi_of [(0, za_O 0 0), (1, za_I a1), (2, za_I a2), (3, za_I a3)] (by decide) rfl rfl (Nat.le_of_ble_eq_true rfl) ?_
  intro ho p e s m args below meth c G hr
  refine zv_gen (R9 := zc σ0) (zc_r σ0) (fun σ hz => ?_)
  refine zv_iload_n (j := 1) G dX9_shiftKey_0 rfl rfl ?_
  refine zv_callSi (as := [za_I a1]) G (zc_X9_isTable l E a1 σ ) zk_X9_isTable zm_438 rfl ⟨(Nat.le_of_ble_eq_true rfl), (Nat.le_of_ble_eq_true rfl)⟩ ⟨Nat.zero_le _, Nat.zero_le _⟩ (Nat.le_of_ble_eq_true rfl) dX9_shiftKey_1 (fun r_1 σ h_1 => ?_)
  obtain ⟨h_1, rfl⟩ := h_1
  refine zv_if_eq (tgt := 30) G dX9_shiftKey_4 (by decide) (fun c_4 => ?_) (fun c_4 => ?_)
  · refine zv_iconst (v := (-1)) G dX9_shiftKey_30 (by decide) ?_
    exact zv_iret G hr dX9_shiftKey_31 hz
  · refine zv_iload_n (j := 2) G dX9_shiftKey_7 rfl rfl ?_
    refine zv_callSi (as := [za_I a2]) G (zc_X9_isKey l E a2 σ ) zk_X9_isKey zm_441 rfl ⟨(Nat.le_of_ble_eq_true rfl), (Nat.le_of_ble_eq_true rfl)⟩ ⟨Nat.zero_le _, Nat.zero_le _⟩ (Nat.le_of_ble_eq_true rfl) dX9_shiftKey_8 (fun r_8 σ h_8 => ?_)
    obtain ⟨h_8, rfl⟩ := h_8
    refine zv_if_eq (tgt := 30) G dX9_shiftKey_11 (by decide) (fun c_11 => ?_) (fun c_11 => ?_)
    · refine zv_iconst (v := (-1)) G dX9_shiftKey_30 (by decide) ?_
      exact zv_iret G hr dX9_shiftKey_31 hz
    · refine zv_iload_n (j := 3) G dX9_shiftKey_14 rfl rfl ?_
      refine zv_if_eq (tgt := 30) G dX9_shiftKey_15 (by decide) (fun c_15 => ?_) (fun c_15 => ?_)
      · refine zv_iconst (v := (-1)) G dX9_shiftKey_30 (by decide) ?_
        exact zv_iret G hr dX9_shiftKey_31 hz
      · refine zv_iload_n (j := 3) G dX9_shiftKey_18 rfl rfl ?_
        refine zv_bipush (v := (-100)) G dX9_shiftKey_19 (by decide) ?_
        refine zv_icmp_le (tgt := 30) G dX9_shiftKey_21 (by decide) (fun c_21 => ?_) (fun c_21 => ?_)
        · refine zv_iconst (v := (-1)) G dX9_shiftKey_30 (by decide) ?_
          exact zv_iret G hr dX9_shiftKey_31 hz
        · refine zv_iload_n (j := 3) G dX9_shiftKey_24 rfl rfl ?_
          refine zv_bipush (v := 100) G dX9_shiftKey_25 (by decide) ?_
          refine zv_icmp_lt (tgt := 32) G dX9_shiftKey_27 (by decide) (fun c_27 => ?_) (fun c_27 => ?_)
          · refine zv_aload_n (j := 0) G dX9_shiftKey_32 rfl rfl ?_
            refine zg_X9_10 G dX9_shiftKey_33 ?_
            refine zv_iload_n (j := 1) G dX9_shiftKey_36 rfl rfl ?_
            refine zv_callVNr (as := [za_I a1]) G (by decide) rfl rfl (zc_X4_table l E 1 a1 σ ) zk_X4_table zm_453 rfl ⟨(Nat.le_of_ble_eq_true rfl), (Nat.le_of_ble_eq_true rfl)⟩ ⟨Nat.zero_le _, Nat.zero_le _⟩ (Nat.le_of_ble_eq_true rfl) dX9_shiftKey_37 (fun r_37 σ h_37 => ?_)
            obtain ⟨w_37, rfl, h_w_37, t_37, rfl⟩ := h_37
            refine zv_astore (lv' := [(4, za_O 2 w_37), (0, za_O 0 0), (1, za_I a1), (2, za_I a2), (3, za_I a3)]) G dX9_shiftKey_40 (by decide) rfl ?_
            refine zv_aload (j := 0) G dX9_shiftKey_42 rfl ?_
            refine zv_iload_n (j := 3) G dX9_shiftKey_44 rfl rfl ?_
            refine zv_iconst (v := 0) G dX9_shiftKey_45 (by decide) ?_
            refine zv_bipush (v := 100) G dX9_shiftKey_46 (by decide) ?_
            refine zv_callVNi (as := [za_I a2, za_I 0, za_I 100]) G (by decide) rfl rfl (zc_X6_touching l E w_37 a2 (0 : Int32) (100 : Int32) σ ) zk_X6_touching zm_457 rfl ⟨(Nat.le_of_ble_eq_true rfl), (Nat.le_of_ble_eq_true rfl)⟩ ⟨Nat.zero_le _, Nat.zero_le _⟩ (Nat.le_of_ble_eq_true rfl) dX9_shiftKey_48 (fun r_48 σ h_48 => ?_)
            subst h_48
            refine zv_istore (lv' := [(5, za_I r_48), (4, za_O 2 w_37), (0, za_O 0 0), (1, za_I a1), (2, za_I a2), (3, za_I a3)]) G dX9_shiftKey_51 (by decide) rfl ?_
            refine zv_iload (j := 0) G dX9_shiftKey_53 rfl ?_
            refine zv_if_ne (tgt := 61) G dX9_shiftKey_55 (by decide) (fun c_55 => ?_) (fun c_55 => ?_)
            · refine zv_aload_n (j := 2) G dX9_shiftKey_61 rfl rfl ?_
              refine zg_X9_16 G dX9_shiftKey_62 ?_
              refine zv_aload_n (j := 2) G dX9_shiftKey_65 rfl rfl ?_
              refine zg_X9_10 G dX9_shiftKey_66 ?_
              refine zv_callVNv (as := [za_O 1 1]) G (by decide) rfl rfl (zc_X4_copyOf l E 6 1 σ ) zk_X4_copyOf zm_475 rfl ⟨(Nat.le_of_ble_eq_true rfl), (Nat.le_of_ble_eq_true rfl)⟩ ⟨Nat.zero_le _, Nat.zero_le _⟩ (Nat.le_of_ble_eq_true rfl) dX9_shiftKey_69 (fun σ h_69 => ?_)
              have hz9 := h_69
              have hz := zc_t hz hz9
              refine zv_aload_n (j := 2) G dX9_shiftKey_72 rfl rfl ?_
              refine zg_X9_16 G dX9_shiftKey_73 ?_
              refine zv_iload_n (j := 3) G dX9_shiftKey_76 rfl rfl ?_
              refine zv_callVNr (as := [za_I a1]) G (by decide) rfl rfl (zc_X4_table l E 6 a1 σ ) zk_X4_table zm_453 rfl ⟨(Nat.le_of_ble_eq_true rfl), (Nat.le_of_ble_eq_true rfl)⟩ ⟨Nat.zero_le _, Nat.zero_le _⟩ (Nat.le_of_ble_eq_true rfl) dX9_shiftKey_77 (fun r_77 σ h_77 => ?_)
              obtain ⟨w_77, rfl, h_w_77, t_77, rfl⟩ := h_77
              refine zv_iload_n (j := 4) G dX9_shiftKey_80 rfl rfl ?_
              refine zv_iload_n (j := 5) G dX9_shiftKey_81 rfl rfl ?_
              refine zv_callVNi (as := [za_I a2, za_I a3]) G (by decide) rfl rfl (zc_X6_shiftRows l E w_77 a2 a3 σ ) zk_X6_shiftRows zm_621 rfl ⟨(Nat.le_of_ble_eq_true rfl), (Nat.le_of_ble_eq_true rfl)⟩ ⟨Nat.zero_le _, Nat.zero_le _⟩ (Nat.le_of_ble_eq_true rfl) dX9_shiftKey_82 (fun r_82 σ h_82 => ?_)
              obtain ⟨h_82, hz9⟩ := h_82
              have hz := zc_t hz hz9
              refine zv_if_ne (tgt := 91) G dX9_shiftKey_85 (by decide) (fun c_85 => ?_) (fun c_85 => ?_)
              · refine zv_iload_n (j := 3) G dX9_shiftKey_91 rfl rfl ?_
                have J_118 : ∀  (σ : za_S) (hz : zc σ0 σ), zV p l e (zRm 6 142) s m args below meth c E (za_A E) 6 0 0 (MQ below (va_Qi (fun r σ' => zc σ0 σ') (zB E) (za_A E)) args s 0 0 (za_A E)) 118 [(0, za_O 0 0), (1, za_I a1), (2, za_I a2), (5, za_I r_48)] [] σ := by
                  intro σ hz
                  refine zv_iload_n (j := 1) G dX9_shiftKey_118 rfl rfl ?_
                  refine zv_iconst (v := 1) G dX9_shiftKey_119 (by decide) ?_
                  refine zv_icmp_ne (tgt := 129) G dX9_shiftKey_120 (by decide) (fun c_120 => ?_) (fun c_120 => ?_)
                  · refine zv_aload_n (j := 0) G dX9_shiftKey_129 rfl rfl ?_
                    refine zv_iload (j := 3) G dX9_shiftKey_130 rfl ?_
                    refine zv_callVi (as := [za_I r_48]) G (by decide) rfl rfl (zc_X9_taken l E r_48 σ ) zk_X9_taken zm_489 rfl ⟨(Nat.le_of_ble_eq_true rfl), (Nat.le_of_ble_eq_true rfl)⟩ ⟨Nat.zero_le _, Nat.zero_le _⟩ (Nat.le_of_ble_eq_true rfl) dX9_shiftKey_132 (fun r_132 σ h_132 => ?_)
                    have hz9 := h_132
                    have hz := zc_t hz hz9
                    exact zv_iret G hr dX9_shiftKey_135 hz
                  · refine zv_aload_n (j := 0) G dX9_shiftKey_123 rfl rfl ?_
                    refine zv_iload_n (j := 2) G dX9_shiftKey_124 rfl rfl ?_
                    refine zv_callVi (as := [za_I a2]) G (by decide) rfl rfl (zc_X9_followWay l E a2 σ ) zk_X9_followWay zm_573 rfl ⟨(Nat.le_of_ble_eq_true rfl), (Nat.le_of_ble_eq_true rfl)⟩ ⟨Nat.zero_le _, Nat.zero_le _⟩ (Nat.le_of_ble_eq_true rfl) dX9_shiftKey_125 (fun r_125 σ h_125 => ?_)
                    have hz9 := h_125
                    have hz := zc_t hz hz9
                    refine zv_popI G dX9_shiftKey_128 ?_
                    refine zv_aload_n (j := 0) G dX9_shiftKey_129 rfl rfl ?_
                    refine zv_iload (j := 3) G dX9_shiftKey_130 rfl ?_
                    refine zv_callVi (as := [za_I r_48]) G (by decide) rfl rfl (zc_X9_taken l E r_48 σ ) zk_X9_taken zm_489 rfl ⟨(Nat.le_of_ble_eq_true rfl), (Nat.le_of_ble_eq_true rfl)⟩ ⟨Nat.zero_le _, Nat.zero_le _⟩ (Nat.le_of_ble_eq_true rfl) dX9_shiftKey_132 (fun r_132 σ h_132 => ?_)
                    have hz9 := h_132
                    have hz := zc_t hz hz9
                    exact zv_iret G hr dX9_shiftKey_135 hz
                have J_105 : ∀  (σ : za_S) (hz : zc σ0 σ), zV p l e (zRm 6 142) s m args below meth c E (za_A E) 6 0 0 (MQ below (va_Qi (fun r σ' => zc σ0 σ') (zB E) (za_A E)) args s 0 0 (za_A E)) 105 [(0, za_O 0 0), (1, za_I a1), (2, za_I a2), (5, za_I r_48)] [] σ := by
                  intro σ hz
                  refine zv_aload_n (j := 0) G dX9_shiftKey_105 rfl rfl ?_
                  refine zg_X9_16 G dX9_shiftKey_106 ?_
                  refine zv_callVNi (as := []) G (by decide) rfl rfl (zc_X4_isHeld l E 6 σ ) zk_X4_isHeld zm_547 rfl ⟨(Nat.le_of_ble_eq_true rfl), (Nat.le_of_ble_eq_true rfl)⟩ ⟨Nat.zero_le _, Nat.zero_le _⟩ (Nat.le_of_ble_eq_true rfl) dX9_shiftKey_109 (fun r_109 σ h_109 => ?_)
                  obtain ⟨h_109, rfl⟩ := h_109
                  refine zv_if_ne (tgt := 118) G dX9_shiftKey_112 (by decide) (fun c_112 => ?_) (fun c_112 => ?_)
                  · refine zv_sub [0, 1, 2, 3] (lv' := [(0, za_O 0 0), (1, za_I a1), (2, za_I a2), (5, za_I r_48)]) rfl ?_
                    exact J_118 σ hz
                  · refine zv_bipush (v := (-4)) G dX9_shiftKey_115 (by decide) ?_
                    exact zv_iret G hr dX9_shiftKey_117 hz
                refine zv_if_eq (tgt := 105) G dX9_shiftKey_92 (by decide) (fun c_92 => ?_) (fun c_92 => ?_)
                · refine zv_sub [2, 3, 4, 0] (lv' := [(0, za_O 0 0), (1, za_I a1), (2, za_I a2), (5, za_I r_48)]) rfl ?_
                  exact J_105 σ hz
                · refine zv_aload_n (j := 2) G dX9_shiftKey_95 rfl rfl ?_
                  refine zg_X9_10 G dX9_shiftKey_96 ?_
                  refine zg_X9_238 G dX9_shiftKey_99 ?_
                  refine zv_if_ne (tgt := 118) G dX9_shiftKey_102 (by decide) (fun c_102 => ?_) (fun c_102 => ?_)
                  · refine zv_sub [2, 3, 4, 0] (lv' := [(0, za_O 0 0), (1, za_I a1), (2, za_I a2), (5, za_I r_48)]) rfl ?_
                    exact J_118 σ hz
                  · refine zv_sub [2, 3, 4, 0] (lv' := [(0, za_O 0 0), (1, za_I a1), (2, za_I a2), (5, za_I r_48)]) rfl ?_
                    exact J_105 σ hz
              · refine zv_bipush (v := (-3)) G dX9_shiftKey_88 (by decide) ?_
                exact zv_iret G hr dX9_shiftKey_90 hz
            · refine zv_bipush (v := (-2)) G dX9_shiftKey_58 (by decide) ?_
              exact zv_iret G hr dX9_shiftKey_60 hz
          · refine zv_iconst (v := (-1)) G dX9_shiftKey_30 (by decide) ?_
            exact zv_iret G hr dX9_shiftKey_31 hz
set_option maxHeartbeats 4000000 in
set_option maxRecDepth 100000 in
theorem zc_X9_shifts (l : Launch) (E : za_E) (a1 : Int32) (a2 : Int32) (a3 : Int32) (σ0 : za_S)  : zMi l E yX9_shifts cX9_shifts 4 (Option.some Jvm.ClassFile.FieldType.int) 7 167 [za_O 0 0, za_I a1, za_I a2, za_I a3] σ0 (fun r σ' => zc σ0 σ') := by
  refine zMi_of [(0, za_O 0 0), (1, za_I a1), (2, za_I a2), (3, za_I a3)] (by decide) rfl rfl (Nat.le_of_ble_eq_true rfl) ?_
  intro ho p e s m args below meth c G hr
  refine zv_gen (R9 := zc σ0) (zc_r σ0) (fun σ hz => ?_)
  refine zv_aload_n (j := 0) G dX9_shifts_0 rfl rfl ?_
  refine zg_X9_22 G dX9_shifts_1 ?_
  refine zv_aload_n (j := 0) G dX9_shifts_4 rfl rfl ?_
  refine zg_X9_10 G dX9_shifts_5 ?_
  refine zv_callVNv (as := [za_O 1 1]) G (by decide) rfl rfl (zc_X2_prepare l E 1 σ ) zk_X2_prepare zm_409 rfl ⟨(Nat.le_of_ble_eq_true rfl), (Nat.le_of_ble_eq_true rfl)⟩ ⟨Nat.zero_le _, Nat.zero_le _⟩ (Nat.le_of_ble_eq_true rfl) dX9_shifts_8 (fun σ h_8 => ?_)
  have hz9 := h_8
  have hz := zc_t hz hz9
  refine zv_aload_n (j := 0) G dX9_shifts_11 rfl rfl ?_
  refine zv_aload_n (j := 0) G dX9_shifts_12 rfl rfl ?_
  refine zv_iload_n (j := 1) G dX9_shifts_13 rfl rfl ?_
  refine zv_iload_n (j := 2) G dX9_shifts_14 rfl rfl ?_
  refine zv_iload_n (j := 3) G dX9_shifts_15 rfl rfl ?_
  refine zv_callVi (as := [za_I a1, za_I a2, za_I a3]) G (by decide) rfl rfl (zc_X9_shiftKey l E a1 a2 a3 σ ) zk_X9_shiftKey zm_617 rfl ⟨(Nat.le_of_ble_eq_true rfl), (Nat.le_of_ble_eq_true rfl)⟩ ⟨Nat.zero_le _, Nat.zero_le _⟩ (Nat.le_of_ble_eq_true rfl) dX9_shifts_16 (fun r_16 σ h_16 => ?_)
  have hz9 := h_16
  have hz := zc_t hz hz9
  refine zv_callVi (as := [za_I r_16]) G (by decide) rfl rfl (zc_X9_noted l E r_16 σ ) zk_X9_noted zm_493 rfl ⟨(Nat.le_of_ble_eq_true rfl), (Nat.le_of_ble_eq_true rfl)⟩ ⟨Nat.zero_le _, Nat.zero_le _⟩ (Nat.le_of_ble_eq_true rfl) dX9_shifts_19 (fun r_19 σ h_19 => ?_)
  have hz9 := h_19
  have hz := zc_t hz hz9
  exact zv_iret G hr dX9_shifts_22 hz
set_option maxHeartbeats 4000000 in
set_option maxRecDepth 100000 in
theorem zc_X6_followsOn (l : Launch) (E : za_E) (w : Nat) (a1 : Int32) (σ : za_S)  : zMi l E yX6_followsOn cX6_followsOn 2 (Option.some Jvm.ClassFile.FieldType.boolean) 3 64 [za_O 2 w, za_I a1] σ (fun r σ' => (r = 0 ∨ r = 1) ∧ σ' = σ) := by
  refine zMi_of [(0, za_O 2 w), (1, za_I a1)] (by decide) rfl rfl (Nat.le_of_ble_eq_true rfl) ?_
  intro ho p e s m args below meth c G hr
  have h_w : za_kd w = 2 := za_okO (by decide) (List.forall_mem_cons.mp ho).1
  refine zv_iload_n (j := 1) G dX6_followsOn_0 rfl rfl ?_
  refine zv_if_le (tgt := 42) G dX6_followsOn_1 (by decide) (fun c_1 => ?_) (fun c_1 => ?_)
  · refine zv_iconst (v := 0) G dX6_followsOn_42 (by decide) ?_
    exact zv_zret G hr dX6_followsOn_43 (by decide) ⟨(Or.inl rfl), rfl⟩
  · refine zv_aload_n (j := 0) G dX6_followsOn_4 rfl rfl ?_
    refine zv_iload_n (j := 1) G dX6_followsOn_5 rfl rfl ?_
    refine zv_iconst (v := 1) G dX6_followsOn_6 (by decide) ?_
    refine zv_isub G dX6_followsOn_7 ?_
    refine zv_iconst (v := 0) G dX6_followsOn_8 (by decide) ?_
    refine zv_callVi (as := [za_I (a1 - 1), za_I 0]) G (by decide) rfl rfl (zc_X6_cell l E w (a1 - 1) (0 : Int32) σ ) zk_X6_cell zm_465 rfl ⟨(Nat.le_of_ble_eq_true rfl), (Nat.le_of_ble_eq_true rfl)⟩ ⟨Nat.zero_le _, Nat.zero_le _⟩ (Nat.le_of_ble_eq_true rfl) dX6_followsOn_9 (fun r_9 σ h_9 => ?_)
    subst h_9
    refine zv_aload_n (j := 0) G dX6_followsOn_12 rfl rfl ?_
    refine zv_iload_n (j := 1) G dX6_followsOn_13 rfl rfl ?_
    refine zv_iconst (v := 0) G dX6_followsOn_14 (by decide) ?_
    refine zv_callVi (as := [za_I a1, za_I 0]) G (by decide) rfl rfl (zc_X6_cell l E w a1 (0 : Int32) σ ) zk_X6_cell zm_465 rfl ⟨(Nat.le_of_ble_eq_true rfl), (Nat.le_of_ble_eq_true rfl)⟩ ⟨Nat.zero_le _, Nat.zero_le _⟩ (Nat.le_of_ble_eq_true rfl) dX6_followsOn_15 (fun r_15 σ h_15 => ?_)
    subst h_15
    refine zv_icmp_ne (tgt := 42) G dX6_followsOn_18 (by decide) (fun c_18 => ?_) (fun c_18 => ?_)
    · refine zv_iconst (v := 0) G dX6_followsOn_42 (by decide) ?_
      exact zv_zret G hr dX6_followsOn_43 (by decide) ⟨(Or.inl rfl), rfl⟩
    · refine zv_aload_n (j := 0) G dX6_followsOn_21 rfl rfl ?_
      refine zv_iload_n (j := 1) G dX6_followsOn_22 rfl rfl ?_
      refine zv_iconst (v := 1) G dX6_followsOn_23 (by decide) ?_
      refine zv_isub G dX6_followsOn_24 ?_
      refine zv_iconst (v := 3) G dX6_followsOn_25 (by decide) ?_
      refine zv_callVi (as := [za_I (a1 - 1), za_I 3]) G (by decide) rfl rfl (zc_X6_cell l E w (a1 - 1) (3 : Int32) σ ) zk_X6_cell zm_465 rfl ⟨(Nat.le_of_ble_eq_true rfl), (Nat.le_of_ble_eq_true rfl)⟩ ⟨Nat.zero_le _, Nat.zero_le _⟩ (Nat.le_of_ble_eq_true rfl) dX6_followsOn_26 (fun r_26 σ h_26 => ?_)
      subst h_26
      refine zv_aload_n (j := 0) G dX6_followsOn_29 rfl rfl ?_
      refine zv_iload_n (j := 1) G dX6_followsOn_30 rfl rfl ?_
      refine zv_iconst (v := 2) G dX6_followsOn_31 (by decide) ?_
      refine zv_callVi (as := [za_I a1, za_I 2]) G (by decide) rfl rfl (zc_X6_cell l E w a1 (2 : Int32) σ ) zk_X6_cell zm_465 rfl ⟨(Nat.le_of_ble_eq_true rfl), (Nat.le_of_ble_eq_true rfl)⟩ ⟨Nat.zero_le _, Nat.zero_le _⟩ (Nat.le_of_ble_eq_true rfl) dX6_followsOn_32 (fun r_32 σ h_32 => ?_)
      subst h_32
      refine zv_icmp_ne (tgt := 42) G dX6_followsOn_35 (by decide) (fun c_35 => ?_) (fun c_35 => ?_)
      · refine zv_iconst (v := 0) G dX6_followsOn_42 (by decide) ?_
        exact zv_zret G hr dX6_followsOn_43 (by decide) ⟨(Or.inl rfl), rfl⟩
      · refine zv_iconst (v := 1) G dX6_followsOn_38 (by decide) ?_
        refine zv_goto (tgt := 43) G dX6_followsOn_39 (by decide) ?_
        exact zv_zret G hr dX6_followsOn_43 (by decide) ⟨(Or.inr rfl), rfl⟩
set_option maxHeartbeats 4000000 in
set_option maxRecDepth 100000 in
theorem zc_X6_isAlikeBefore (l : Launch) (E : za_E) (w : Nat) (a1 : Int32) (σ : za_S)  : zMi l E yX6_isAlikeBefore cX6_isAlikeBefore 2 (Option.some Jvm.ClassFile.FieldType.boolean) 4 85 [za_O 2 w, za_I a1] σ (fun r σ' => (r = 0 ∨ r = 1) ∧ σ' = σ) := by
  refine zMi_of [(0, za_O 2 w), (1, za_I a1)] (by decide) rfl rfl (Nat.le_of_ble_eq_true rfl) ?_
  intro ho p e s m args below meth c G hr
  have h_w : za_kd w = 2 := za_okO (by decide) (List.forall_mem_cons.mp ho).1
  refine zv_aload_n (j := 0) G dX6_isAlikeBefore_0 rfl rfl ?_
  refine zv_iload_n (j := 1) G dX6_isAlikeBefore_1 rfl rfl ?_
  refine zv_callVi (as := [za_I a1]) G (by decide) rfl rfl (zc_X6_followsOn l E w a1 σ ) zk_X6_followsOn zm_642 rfl ⟨(Nat.le_of_ble_eq_true rfl), (Nat.le_of_ble_eq_true rfl)⟩ ⟨Nat.zero_le _, Nat.zero_le _⟩ (Nat.le_of_ble_eq_true rfl) dX6_isAlikeBefore_2 (fun r_2 σ h_2 => ?_)
  obtain ⟨h_2, rfl⟩ := h_2
  refine zv_if_eq (tgt := 46) G dX6_isAlikeBefore_5 (by decide) (fun c_5 => ?_) (fun c_5 => ?_)
  · refine zv_iconst (v := 0) G dX6_isAlikeBefore_46 (by decide) ?_
    exact zv_zret G hr dX6_isAlikeBefore_47 (by decide) ⟨(Or.inl rfl), rfl⟩
  · refine zv_aload_n (j := 0) G dX6_isAlikeBefore_8 rfl rfl ?_
    refine zv_iload_n (j := 1) G dX6_isAlikeBefore_9 rfl rfl ?_
    refine zv_iconst (v := 1) G dX6_isAlikeBefore_10 (by decide) ?_
    refine zv_isub G dX6_isAlikeBefore_11 ?_
    refine zv_iconst (v := 1) G dX6_isAlikeBefore_12 (by decide) ?_
    refine zv_callVi (as := [za_I (a1 - 1), za_I 1]) G (by decide) rfl rfl (zc_X6_cell l E w (a1 - 1) (1 : Int32) σ ) zk_X6_cell zm_465 rfl ⟨(Nat.le_of_ble_eq_true rfl), (Nat.le_of_ble_eq_true rfl)⟩ ⟨Nat.zero_le _, Nat.zero_le _⟩ (Nat.le_of_ble_eq_true rfl) dX6_isAlikeBefore_13 (fun r_13 σ h_13 => ?_)
    subst h_13
    refine zv_aload_n (j := 0) G dX6_isAlikeBefore_16 rfl rfl ?_
    refine zv_iload_n (j := 1) G dX6_isAlikeBefore_17 rfl rfl ?_
    refine zv_iconst (v := 1) G dX6_isAlikeBefore_18 (by decide) ?_
    refine zv_callVi (as := [za_I a1, za_I 1]) G (by decide) rfl rfl (zc_X6_cell l E w a1 (1 : Int32) σ ) zk_X6_cell zm_465 rfl ⟨(Nat.le_of_ble_eq_true rfl), (Nat.le_of_ble_eq_true rfl)⟩ ⟨Nat.zero_le _, Nat.zero_le _⟩ (Nat.le_of_ble_eq_true rfl) dX6_isAlikeBefore_19 (fun r_19 σ h_19 => ?_)
    subst h_19
    refine zv_icmp_ne (tgt := 46) G dX6_isAlikeBefore_22 (by decide) (fun c_22 => ?_) (fun c_22 => ?_)
    · refine zv_iconst (v := 0) G dX6_isAlikeBefore_46 (by decide) ?_
      exact zv_zret G hr dX6_isAlikeBefore_47 (by decide) ⟨(Or.inl rfl), rfl⟩
    · refine zv_aload_n (j := 0) G dX6_isAlikeBefore_25 rfl rfl ?_
      refine zv_iload_n (j := 1) G dX6_isAlikeBefore_26 rfl rfl ?_
      refine zv_iconst (v := 1) G dX6_isAlikeBefore_27 (by decide) ?_
      refine zv_isub G dX6_isAlikeBefore_28 ?_
      refine zv_iconst (v := 4) G dX6_isAlikeBefore_29 (by decide) ?_
      refine zv_callVi (as := [za_I (a1 - 1), za_I 4]) G (by decide) rfl rfl (zc_X6_cell l E w (a1 - 1) (4 : Int32) σ ) zk_X6_cell zm_465 rfl ⟨(Nat.le_of_ble_eq_true rfl), (Nat.le_of_ble_eq_true rfl)⟩ ⟨Nat.zero_le _, Nat.zero_le _⟩ (Nat.le_of_ble_eq_true rfl) dX6_isAlikeBefore_30 (fun r_30 σ h_30 => ?_)
      subst h_30
      refine zv_aload_n (j := 0) G dX6_isAlikeBefore_33 rfl rfl ?_
      refine zv_iload_n (j := 1) G dX6_isAlikeBefore_34 rfl rfl ?_
      refine zv_iconst (v := 4) G dX6_isAlikeBefore_35 (by decide) ?_
      refine zv_callVi (as := [za_I a1, za_I 4]) G (by decide) rfl rfl (zc_X6_cell l E w a1 (4 : Int32) σ ) zk_X6_cell zm_465 rfl ⟨(Nat.le_of_ble_eq_true rfl), (Nat.le_of_ble_eq_true rfl)⟩ ⟨Nat.zero_le _, Nat.zero_le _⟩ (Nat.le_of_ble_eq_true rfl) dX6_isAlikeBefore_36 (fun r_36 σ h_36 => ?_)
      subst h_36
      refine zv_icmp_ne (tgt := 46) G dX6_isAlikeBefore_39 (by decide) (fun c_39 => ?_) (fun c_39 => ?_)
      · refine zv_iconst (v := 0) G dX6_isAlikeBefore_46 (by decide) ?_
        exact zv_zret G hr dX6_isAlikeBefore_47 (by decide) ⟨(Or.inl rfl), rfl⟩
      · refine zv_iconst (v := 1) G dX6_isAlikeBefore_42 (by decide) ?_
        refine zv_goto (tgt := 47) G dX6_isAlikeBefore_43 (by decide) ?_
        exact zv_zret G hr dX6_isAlikeBefore_47 (by decide) ⟨(Or.inr rfl), rfl⟩
set_option maxHeartbeats 4000000 in
set_option maxRecDepth 100000 in
theorem zc_X6_alikeNeighbours (l : Launch) (E : za_E) (w : Nat) (σ : za_S)  : zMi l E yX6_alikeNeighbours cX6_alikeNeighbours 3 (Option.some Jvm.ClassFile.FieldType.int) 5 106 [za_O 2 w] σ (fun r σ' => σ' = σ) := by
  refine zMi_of [(0, za_O 2 w)] (by decide) rfl rfl (Nat.le_of_ble_eq_true rfl) ?_
  intro ho p e s m args below meth c G hr
  have h_w : za_kd w = 2 := za_okO (by decide) (List.forall_mem_cons.mp ho).1
  refine zv_iconst (v := 0) G dX6_alikeNeighbours_0 (by decide) ?_
  refine zv_istore_n (lv' := [(1, za_I 0), (0, za_O 2 w)]) G dX6_alikeNeighbours_1 rfl (by decide) rfl ?_
  refine zv_iconst (v := 1) G dX6_alikeNeighbours_2 (by decide) ?_
  have J_4 : ∀ (n : Nat) (y1_4 : Int32) (y2_4 : Int32) (hn_4 : (2147483648 - y2_4.toInt).toNat < n), zV p l e (zRm 5 106) s m args below meth c E (za_A E) 3 0 0 (MQ below (va_Qi (fun r σ' => σ' = σ) (zB E) (za_A E)) args s 0 0 (za_A E)) 4 [(0, za_O 2 w), (1, za_I y1_4), (2, za_I y2_4)] [] σ := by
    intro n
    induction n with
    | zero => intro y1_4 y2_4 hn; exact absurd hn (Nat.not_lt_zero _)
    | succ n ih_4 =>
      intro y1_4 y2_4 hn_4
      refine zv_iload_n (j := 2) G dX6_alikeNeighbours_4 rfl rfl ?_
      refine zv_aload_n (j := 0) G dX6_alikeNeighbours_5 rfl rfl ?_
      refine zg_X6_15 G dX6_alikeNeighbours_6 ?_
      refine zv_icmp_ge (tgt := 29) G dX6_alikeNeighbours_9 (by decide) (fun c_9 => ?_) (fun c_9 => ?_)
      · refine zv_iload_n (j := 1) G dX6_alikeNeighbours_29 rfl rfl ?_
        exact zv_iret G hr dX6_alikeNeighbours_30 rfl
      · refine zv_aload_n (j := 0) G dX6_alikeNeighbours_12 rfl rfl ?_
        refine zv_iload_n (j := 2) G dX6_alikeNeighbours_13 rfl rfl ?_
        refine zv_callVi (as := [za_I y2_4]) G (by decide) rfl rfl (zc_X6_isAlikeBefore l E w y2_4 σ ) zk_X6_isAlikeBefore zm_638 rfl ⟨(Nat.le_of_ble_eq_true rfl), (Nat.le_of_ble_eq_true rfl)⟩ ⟨Nat.zero_le _, Nat.zero_le _⟩ (Nat.le_of_ble_eq_true rfl) dX6_alikeNeighbours_14 (fun r_14 σ h_14 => ?_)
        obtain ⟨h_14, rfl⟩ := h_14
        refine zv_if_eq (tgt := 23) G dX6_alikeNeighbours_17 (by decide) (fun c_17 => ?_) (fun c_17 => ?_)
        · obtain ⟨x_23, e_23⟩ : ∃ y : Int32, y = y2_4 + 1 := ⟨_, rfl⟩
          refine zv_iinc (j := 2) (v := x_23) (lv' := [(2, za_I x_23), (0, za_O 2 w), (1, za_I y1_4)]) G dX6_alikeNeighbours_23 rfl (by rw [e_23]; rfl) (by decide) rfl ?_
          refine zv_goto (tgt := 4) G dX6_alikeNeighbours_26 (by decide) ?_
          refine zv_sub [1, 2, 0] (lv' := [(0, za_O 2 w), (1, za_I y1_4), (2, za_I x_23)]) rfl ?_
          exact ih_4 y1_4 x_23 (z_meas c_9 e_23 hn_4)
        · obtain ⟨x_20, e_20⟩ : ∃ y : Int32, y = y1_4 + 1 := ⟨_, rfl⟩
          refine zv_iinc (j := 1) (v := x_20) (lv' := [(1, za_I x_20), (0, za_O 2 w), (2, za_I y2_4)]) G dX6_alikeNeighbours_20 rfl (by rw [e_20]; rfl) (by decide) rfl ?_
          obtain ⟨x_23, e_23⟩ : ∃ y : Int32, y = y2_4 + 1 := ⟨_, rfl⟩
          refine zv_iinc (j := 2) (v := x_23) (lv' := [(2, za_I x_23), (1, za_I x_20), (0, za_O 2 w)]) G dX6_alikeNeighbours_23 rfl (by rw [e_23]; rfl) (by decide) rfl ?_
          refine zv_goto (tgt := 4) G dX6_alikeNeighbours_26 (by decide) ?_
          refine zv_sub [2, 1, 0] (lv' := [(0, za_O 2 w), (1, za_I x_20), (2, za_I x_23)]) rfl ?_
          exact ih_4 x_20 x_23 (z_meas c_9 e_23 hn_4)
  refine zv_istore_n (lv' := [(2, za_I 1), (1, za_I 0), (0, za_O 2 w)]) G dX6_alikeNeighbours_3 rfl (by decide) rfl ?_
  refine zv_sub [2, 1, 0] (lv' := [(0, za_O 2 w), (1, za_I 0), (2, za_I 1)]) rfl ?_
  exact J_4 _ (0 : Int32) (1 : Int32) (Nat.lt_succ_self _)
set_option maxHeartbeats 4000000 in
set_option maxRecDepth 100000 in
theorem zc_X6_fillJoined (l : Launch) (E : za_E) (w : Nat) (a1 : Nat) (σ0 : za_S)  : zMv l E yX6_fillJoined cX6_fillJoined 3 (Option.none : Option Jvm.ClassFile.FieldType) 5 106 [za_O 2 w, za_O 2 a1] σ0 (fun σ' => zc σ0 σ') := by
  refine zMv_of [(0, za_O 2 w), (1, za_O 2 a1)] (by decide) rfl rfl (Nat.le_of_ble_eq_true rfl) ?_
  intro ho p e s m args below meth c G hr
  have h_w : za_kd w = 2 := za_okO (by decide) (List.forall_mem_cons.mp ho).1
  have h_a1 : za_kd a1 = 2 := za_okO (by decide) (List.forall_mem_cons.mp (List.forall_mem_cons.mp ho).2).1
  refine zv_gen (R9 := zc σ0) (zc_r σ0) (fun σ hz => ?_)
  refine zv_aload_n (j := 0) G dX6_fillJoined_0 rfl rfl ?_
  refine zv_callVv (as := []) G (by decide) rfl rfl (zc_X6_clear l E w σ ) zk_X6_clear zm_513 rfl ⟨(Nat.le_of_ble_eq_true rfl), (Nat.le_of_ble_eq_true rfl)⟩ ⟨Nat.zero_le _, Nat.zero_le _⟩ (Nat.le_of_ble_eq_true rfl) dX6_fillJoined_1 (fun σ h_1 => ?_)
  have hz9 := h_1
  have hz := zc_t hz hz9
  refine zv_iconst (v := 0) G dX6_fillJoined_4 (by decide) ?_
  have J_6 : ∀ (n : Nat) (y2_6 : Int32) (σ : za_S) (hz : zc σ0 σ) (hn_6 : (2147483648 - y2_6.toInt).toNat < n), zV p l e (zRm 5 106) s m args below meth c E (za_A E) 3 0 0 (MQ below (va_Qv (fun σ' => zc σ0 σ') (zB E) (za_A E)) args s 0 0 (za_A E)) 6 [(0, za_O 2 w), (1, za_O 2 a1), (2, za_I y2_6)] [] σ := by
    intro n
    induction n with
    | zero => intro y2_6 σ hz hn; exact absurd hn (Nat.not_lt_zero _)
    | succ n ih_6 =>
      intro y2_6 σ hz hn_6
      refine zv_iload_n (j := 2) G dX6_fillJoined_6 rfl rfl ?_
      refine zv_aload_n (j := 1) G dX6_fillJoined_7 rfl rfl ?_
      refine zg_X6_15 G dX6_fillJoined_8 ?_
      refine zv_icmp_ge (tgt := 51) G dX6_fillJoined_11 (by decide) (fun c_11 => ?_) (fun c_11 => ?_)
      · exact zv_vret G hr dX6_fillJoined_51 hz
      · refine zv_aload_n (j := 1) G dX6_fillJoined_14 rfl rfl ?_
        refine zv_iload_n (j := 2) G dX6_fillJoined_15 rfl rfl ?_
        refine zv_callVi (as := [za_I y2_6]) G (by decide) rfl rfl (zc_X6_isAlikeBefore l E a1 y2_6 σ ) zk_X6_isAlikeBefore zm_638 rfl ⟨(Nat.le_of_ble_eq_true rfl), (Nat.le_of_ble_eq_true rfl)⟩ ⟨Nat.zero_le _, Nat.zero_le _⟩ (Nat.le_of_ble_eq_true rfl) dX6_fillJoined_16 (fun r_16 σ h_16 => ?_)
        obtain ⟨h_16, rfl⟩ := h_16
        refine zv_if_eq (tgt := 36) G dX6_fillJoined_19 (by decide) (fun c_19 => ?_) (fun c_19 => ?_)
        · refine zv_aload_n (j := 0) G dX6_fillJoined_36 rfl rfl ?_
          refine zv_aload_n (j := 1) G dX6_fillJoined_37 rfl rfl ?_
          refine zv_iload_n (j := 2) G dX6_fillJoined_38 rfl rfl ?_
          refine zv_iconst (v := 0) G dX6_fillJoined_39 (by decide) ?_
          refine zv_bipush (v := 100) G dX6_fillJoined_40 (by decide) ?_
          refine zv_callVv (as := [za_O 2 a1, za_I y2_6, za_I 0, za_I 100]) G (by decide) rfl rfl (zc_X6_appendPart l E w a1 y2_6 (0 : Int32) (100 : Int32) σ ) zk_X6_appendPart zm_517 rfl ⟨(Nat.le_of_ble_eq_true rfl), (Nat.le_of_ble_eq_true rfl)⟩ ⟨Nat.zero_le _, Nat.zero_le _⟩ (Nat.le_of_ble_eq_true rfl) dX6_fillJoined_42 (fun σ h_42 => ?_)
          have hz9 := h_42
          have hz := zc_t hz hz9
          obtain ⟨x_45, e_45⟩ : ∃ y : Int32, y = y2_6 + 1 := ⟨_, rfl⟩
          refine zv_iinc (j := 2) (v := x_45) (lv' := [(2, za_I x_45), (0, za_O 2 w), (1, za_O 2 a1)]) G dX6_fillJoined_45 rfl (by rw [e_45]; rfl) (by decide) rfl ?_
          refine zv_goto (tgt := 6) G dX6_fillJoined_48 (by decide) ?_
          refine zv_sub [1, 2, 0] (lv' := [(0, za_O 2 w), (1, za_O 2 a1), (2, za_I x_45)]) rfl ?_
          exact ih_6 x_45 σ hz (z_meas c_11 e_45 hn_6)
        · refine zv_aload_n (j := 0) G dX6_fillJoined_22 rfl rfl ?_
          refine zv_iconst (v := 3) G dX6_fillJoined_23 (by decide) ?_
          refine zv_aload_n (j := 1) G dX6_fillJoined_24 rfl rfl ?_
          refine zv_iload_n (j := 2) G dX6_fillJoined_25 rfl rfl ?_
          refine zv_iconst (v := 3) G dX6_fillJoined_26 (by decide) ?_
          refine zv_callVi (as := [za_I y2_6, za_I 3]) G (by decide) rfl rfl (zc_X6_cell l E a1 y2_6 (3 : Int32) σ ) zk_X6_cell zm_465 rfl ⟨(Nat.le_of_ble_eq_true rfl), (Nat.le_of_ble_eq_true rfl)⟩ ⟨Nat.zero_le _, Nat.zero_le _⟩ (Nat.le_of_ble_eq_true rfl) dX6_fillJoined_27 (fun r_27 σ h_27 => ?_)
          subst h_27
          refine zv_callVv (as := [za_I 3, za_I r_27]) G (by decide) rfl rfl (zc_X6_changeLast l E w (3 : Int32) r_27 σ ) zk_X6_changeLast zm_518 rfl ⟨(Nat.le_of_ble_eq_true rfl), (Nat.le_of_ble_eq_true rfl)⟩ ⟨Nat.zero_le _, Nat.zero_le _⟩ (Nat.le_of_ble_eq_true rfl) dX6_fillJoined_30 (fun σ h_30 => ?_)
          have hz9 := h_30
          have hz := zc_t hz hz9
          refine zv_goto (tgt := 45) G dX6_fillJoined_33 (by decide) ?_
          obtain ⟨x_45, e_45⟩ : ∃ y : Int32, y = y2_6 + 1 := ⟨_, rfl⟩
          refine zv_iinc (j := 2) (v := x_45) (lv' := [(2, za_I x_45), (0, za_O 2 w), (1, za_O 2 a1)]) G dX6_fillJoined_45 rfl (by rw [e_45]; rfl) (by decide) rfl ?_
          refine zv_goto (tgt := 6) G dX6_fillJoined_48 (by decide) ?_
          refine zv_sub [1, 2, 0] (lv' := [(0, za_O 2 w), (1, za_O 2 a1), (2, za_I x_45)]) rfl ?_
          exact ih_6 x_45 σ hz (z_meas c_11 e_45 hn_6)
  refine zv_istore_n (lv' := [(2, za_I 0), (0, za_O 2 w), (1, za_O 2 a1)]) G dX6_fillJoined_5 rfl (by decide) rfl ?_
  refine zv_sub [1, 2, 0] (lv' := [(0, za_O 2 w), (1, za_O 2 a1), (2, za_I 0)]) rfl ?_
  exact J_6 _ (0 : Int32) σ hz (Nat.lt_succ_self _)
set_option maxHeartbeats 4000000 in
set_option maxRecDepth 100000 in
theorem zc_X9_joinAlike (l : Launch) (E : za_E) (a1 : Int32) (σ0 : za_S)  : zMi l E yX9_joinAlike cX9_joinAlike 4 (Option.some Jvm.ClassFile.FieldType.int) 6 128 [za_O 0 0, za_I a1] σ0 (fun r σ' => zc σ0 σ') := by
  refine zMi_of [(0, za_O 0 0), (1, za_I a1)] (by decide) rfl rfl (Nat.le_of_ble_eq_true rfl) ?_
  intro ho p e s m args below meth c G hr
  refine zv_gen (R9 := zc σ0) (zc_r σ0) (fun σ hz => ?_)
  refine zv_iload_n (j := 1) G dX9_joinAlike_0 rfl rfl ?_
  refine zv_callSi (as := [za_I a1]) G (zc_X9_isTable l E a1 σ ) zk_X9_isTable zm_438 rfl ⟨(Nat.le_of_ble_eq_true rfl), (Nat.le_of_ble_eq_true rfl)⟩ ⟨Nat.zero_le _, Nat.zero_le _⟩ (Nat.le_of_ble_eq_true rfl) dX9_joinAlike_1 (fun r_1 σ h_1 => ?_)
  obtain ⟨h_1, rfl⟩ := h_1
  refine zv_if_ne (tgt := 9) G dX9_joinAlike_4 (by decide) (fun c_4 => ?_) (fun c_4 => ?_)
  · refine zv_aload_n (j := 0) G dX9_joinAlike_9 rfl rfl ?_
    refine zg_X9_10 G dX9_joinAlike_10 ?_
    refine zv_iload_n (j := 1) G dX9_joinAlike_13 rfl rfl ?_
    refine zv_callVNr (as := [za_I a1]) G (by decide) rfl rfl (zc_X4_table l E 1 a1 σ ) zk_X4_table zm_453 rfl ⟨(Nat.le_of_ble_eq_true rfl), (Nat.le_of_ble_eq_true rfl)⟩ ⟨Nat.zero_le _, Nat.zero_le _⟩ (Nat.le_of_ble_eq_true rfl) dX9_joinAlike_14 (fun r_14 σ h_14 => ?_)
    obtain ⟨w_14, rfl, h_w_14, t_14, rfl⟩ := h_14
    refine zv_astore_n (lv' := [(2, za_O 2 w_14), (0, za_O 0 0), (1, za_I a1)]) G dX9_joinAlike_17 rfl (by decide) rfl ?_
    refine zv_aload_n (j := 0) G dX9_joinAlike_18 rfl rfl ?_
    refine zv_callVNi (as := []) G (by decide) rfl rfl (zc_X6_alikeNeighbours l E w_14 σ ) zk_X6_alikeNeighbours zm_634 rfl ⟨(Nat.le_of_ble_eq_true rfl), (Nat.le_of_ble_eq_true rfl)⟩ ⟨Nat.zero_le _, Nat.zero_le _⟩ (Nat.le_of_ble_eq_true rfl) dX9_joinAlike_19 (fun r_19 σ h_19 => ?_)
    subst h_19
    refine zv_istore_n (lv' := [(3, za_I r_19), (2, za_O 2 w_14), (0, za_O 0 0), (1, za_I a1)]) G dX9_joinAlike_22 rfl (by decide) rfl ?_
    refine zv_aload_n (j := 2) G dX9_joinAlike_23 rfl rfl ?_
    refine zg_X9_16 G dX9_joinAlike_24 ?_
    refine zv_aload_n (j := 2) G dX9_joinAlike_27 rfl rfl ?_
    refine zg_X9_10 G dX9_joinAlike_28 ?_
    refine zv_callVNv (as := [za_O 1 1]) G (by decide) rfl rfl (zc_X4_copyOf l E 6 1 σ ) zk_X4_copyOf zm_475 rfl ⟨(Nat.le_of_ble_eq_true rfl), (Nat.le_of_ble_eq_true rfl)⟩ ⟨Nat.zero_le _, Nat.zero_le _⟩ (Nat.le_of_ble_eq_true rfl) dX9_joinAlike_31 (fun σ h_31 => ?_)
    have hz9 := h_31
    have hz := zc_t hz hz9
    refine zv_aload_n (j := 2) G dX9_joinAlike_34 rfl rfl ?_
    refine zg_X9_16 G dX9_joinAlike_35 ?_
    refine zv_iload_n (j := 3) G dX9_joinAlike_38 rfl rfl ?_
    refine zv_callVNr (as := [za_I a1]) G (by decide) rfl rfl (zc_X4_table l E 6 a1 σ ) zk_X4_table zm_453 rfl ⟨(Nat.le_of_ble_eq_true rfl), (Nat.le_of_ble_eq_true rfl)⟩ ⟨Nat.zero_le _, Nat.zero_le _⟩ (Nat.le_of_ble_eq_true rfl) dX9_joinAlike_39 (fun r_39 σ h_39 => ?_)
    obtain ⟨w_39, rfl, h_w_39, t_39, rfl⟩ := h_39
    refine zv_aload_n (j := 1) G dX9_joinAlike_42 rfl rfl ?_
    refine zv_callVNv (as := [za_O 2 w_14]) G (by decide) rfl rfl (zc_X6_fillJoined l E w_39 w_14 σ ) zk_X6_fillJoined zm_646 rfl ⟨(Nat.le_of_ble_eq_true rfl), (Nat.le_of_ble_eq_true rfl)⟩ ⟨Nat.zero_le _, Nat.zero_le _⟩ (Nat.le_of_ble_eq_true rfl) dX9_joinAlike_43 (fun σ h_43 => ?_)
    have hz9 := h_43
    have hz := zc_t hz hz9
    refine zv_aload_n (j := 2) G dX9_joinAlike_46 rfl rfl ?_
    refine zv_iload_n (j := 0) G dX9_joinAlike_47 rfl rfl ?_
    refine zv_callVi (as := [za_I r_19]) G (by decide) rfl rfl (zc_X9_taken l E r_19 σ ) zk_X9_taken zm_489 rfl ⟨(Nat.le_of_ble_eq_true rfl), (Nat.le_of_ble_eq_true rfl)⟩ ⟨Nat.zero_le _, Nat.zero_le _⟩ (Nat.le_of_ble_eq_true rfl) dX9_joinAlike_48 (fun r_48 σ h_48 => ?_)
    have hz9 := h_48
    have hz := zc_t hz hz9
    exact zv_iret G hr dX9_joinAlike_51 hz
  · refine zv_iconst (v := (-1)) G dX9_joinAlike_7 (by decide) ?_
    exact zv_iret G hr dX9_joinAlike_8 hz
set_option maxHeartbeats 4000000 in
set_option maxRecDepth 100000 in
theorem zc_X9_joins (l : Launch) (E : za_E) (a1 : Int32) (σ0 : za_S)  : zMi l E yX9_joins cX9_joins 2 (Option.some Jvm.ClassFile.FieldType.int) 7 151 [za_O 0 0, za_I a1] σ0 (fun r σ' => zc σ0 σ') := by
  refine zMi_of [(0, za_O 0 0), (1, za_I a1)] (by decide) rfl rfl (Nat.le_of_ble_eq_true rfl) ?_
  intro ho p e s m args below meth c G hr
  refine zv_gen (R9 := zc σ0) (zc_r σ0) (fun σ hz => ?_)
  refine zv_aload_n (j := 0) G dX9_joins_0 rfl rfl ?_
  refine zg_X9_22 G dX9_joins_1 ?_
  refine zv_aload_n (j := 0) G dX9_joins_4 rfl rfl ?_
  refine zg_X9_10 G dX9_joins_5 ?_
  refine zv_callVNv (as := [za_O 1 1]) G (by decide) rfl rfl (zc_X2_prepare l E 1 σ ) zk_X2_prepare zm_409 rfl ⟨(Nat.le_of_ble_eq_true rfl), (Nat.le_of_ble_eq_true rfl)⟩ ⟨Nat.zero_le _, Nat.zero_le _⟩ (Nat.le_of_ble_eq_true rfl) dX9_joins_8 (fun σ h_8 => ?_)
  have hz9 := h_8
  have hz := zc_t hz hz9
  refine zv_aload_n (j := 0) G dX9_joins_11 rfl rfl ?_
  refine zv_aload_n (j := 0) G dX9_joins_12 rfl rfl ?_
  refine zv_iload_n (j := 1) G dX9_joins_13 rfl rfl ?_
  refine zv_callVi (as := [za_I a1]) G (by decide) rfl rfl (zc_X9_joinAlike l E a1 σ ) zk_X9_joinAlike zm_630 rfl ⟨(Nat.le_of_ble_eq_true rfl), (Nat.le_of_ble_eq_true rfl)⟩ ⟨Nat.zero_le _, Nat.zero_le _⟩ (Nat.le_of_ble_eq_true rfl) dX9_joins_14 (fun r_14 σ h_14 => ?_)
  have hz9 := h_14
  have hz := zc_t hz hz9
  refine zv_callVi (as := [za_I r_14]) G (by decide) rfl rfl (zc_X9_noted l E r_14 σ ) zk_X9_noted zm_493 rfl ⟨(Nat.le_of_ble_eq_true rfl), (Nat.le_of_ble_eq_true rfl)⟩ ⟨Nat.zero_le _, Nat.zero_le _⟩ (Nat.le_of_ble_eq_true rfl) dX9_joins_17 (fun r_17 σ h_17 => ?_)
  have hz9 := h_17
  have hz := zc_t hz hz9
  exact zv_iret G hr dX9_joins_20 hz
set_option maxHeartbeats 4000000 in
set_option maxRecDepth 100000 in
theorem zc_X9_setWay (l : Launch) (E : za_E) (a1 : Int32) (σ0 : za_S)  : zMi l E yX9_setWay cX9_setWay 3 (Option.some Jvm.ClassFile.FieldType.int) 1 21 [za_O 0 0, za_I a1] σ0 (fun r σ' => zc σ0 σ') := by
  refine zMi_of [(0, za_O 0 0), (1, za_I a1)] (by decide) rfl rfl (Nat.le_of_ble_eq_true rfl) ?_
  intro ho p e s m args below meth c G hr
  refine zv_gen (R9 := zc σ0) (zc_r σ0) (fun σ hz => ?_)
  refine zv_iload_n (j := 1) G dX9_setWay_0 rfl rfl ?_
  refine zv_if_lt (tgt := 9) G dX9_setWay_1 (by decide) (fun c_1 => ?_) (fun c_1 => ?_)
  · refine zv_iconst (v := (-1)) G dX9_setWay_9 (by decide) ?_
    exact zv_iret G hr dX9_setWay_10 hz
  · refine zv_iload_n (j := 1) G dX9_setWay_4 rfl rfl ?_
    refine zv_iconst (v := 2) G dX9_setWay_5 (by decide) ?_
    refine zv_icmp_le (tgt := 11) G dX9_setWay_6 (by decide) (fun c_6 => ?_) (fun c_6 => ?_)
    · refine zv_aload_n (j := 0) G dX9_setWay_11 rfl rfl ?_
      refine zg_X9_10 G dX9_setWay_12 ?_
      refine zg_X9_238 G dX9_setWay_15 ?_
      refine zv_top (fun x_18 e_18 => ?_)
      refine zv_istore_n (lv' := [(2, za_I x_18), (0, za_O 0 0), (1, za_I a1)]) G dX9_setWay_18 rfl (by decide) rfl ?_
      refine zv_iload_n (j := 0) G dX9_setWay_19 rfl rfl ?_
      refine zv_iload_n (j := 2) G dX9_setWay_20 rfl rfl ?_
      refine zv_icmp_ne (tgt := 27) G dX9_setWay_21 (by decide) (fun c_21 => ?_) (fun c_21 => ?_)
      · refine zv_aload_n (j := 1) G dX9_setWay_27 rfl rfl ?_
        refine zg_X9_10 G dX9_setWay_28 ?_
        refine zv_iload_n (j := 2) G dX9_setWay_31 rfl rfl ?_
        refine zp_X9_238 G dX9_setWay_32 ?_
        refine zv_gen (R9 := zc σ0) (zc_t hz (zc_k1 rfl)) (fun σ hz => ?_)
        refine zv_bipush (v := 10) G dX9_setWay_35 (by decide) ?_
        refine zv_iload_n (j := 0) G dX9_setWay_37 rfl rfl ?_
        refine zv_iadd G dX9_setWay_38 ?_
        exact zv_iret G hr dX9_setWay_39 hz
      · refine zv_bipush (v := (-2)) G dX9_setWay_24 (by decide) ?_
        exact zv_iret G hr dX9_setWay_26 hz
    · refine zv_iconst (v := (-1)) G dX9_setWay_9 (by decide) ?_
      exact zv_iret G hr dX9_setWay_10 hz
set_option maxHeartbeats 4000000 in
set_option maxRecDepth 100000 in
theorem zc_X9_way (l : Launch) (E : za_E) (a1 : Int32) (σ0 : za_S)  : zMi l E yX9_way cX9_way 2 (Option.some Jvm.ClassFile.FieldType.int) 4 123 [za_O 0 0, za_I a1] σ0 (fun r σ' => zc σ0 σ') := by
  refine zMi_of [(0, za_O 0 0), (1, za_I a1)] (by decide) rfl rfl (Nat.le_of_ble_eq_true rfl) ?_
  intro ho p e s m args below meth c G hr
  refine zv_gen (R9 := zc σ0) (zc_r σ0) (fun σ hz => ?_)
  refine zv_aload_n (j := 0) G dX9_way_0 rfl rfl ?_
  refine zg_X9_22 G dX9_way_1 ?_
  refine zv_aload_n (j := 0) G dX9_way_4 rfl rfl ?_
  refine zg_X9_10 G dX9_way_5 ?_
  refine zv_callVNv (as := [za_O 1 1]) G (by decide) rfl rfl (zc_X2_prepare l E 1 σ ) zk_X2_prepare zm_409 rfl ⟨(Nat.le_of_ble_eq_true rfl), (Nat.le_of_ble_eq_true rfl)⟩ ⟨Nat.zero_le _, Nat.zero_le _⟩ (Nat.le_of_ble_eq_true rfl) dX9_way_8 (fun σ h_8 => ?_)
  have hz9 := h_8
  have hz := zc_t hz hz9
  refine zv_aload_n (j := 0) G dX9_way_11 rfl rfl ?_
  refine zv_aload_n (j := 0) G dX9_way_12 rfl rfl ?_
  refine zv_iload_n (j := 1) G dX9_way_13 rfl rfl ?_
  refine zv_callVi (as := [za_I a1]) G (by decide) rfl rfl (zc_X9_setWay l E a1 σ ) zk_X9_setWay zm_654 rfl ⟨(Nat.le_of_ble_eq_true rfl), (Nat.le_of_ble_eq_true rfl)⟩ ⟨Nat.zero_le _, Nat.zero_le _⟩ (Nat.le_of_ble_eq_true rfl) dX9_way_14 (fun r_14 σ h_14 => ?_)
  have hz9 := h_14
  have hz := zc_t hz hz9
  refine zv_callVi (as := [za_I r_14]) G (by decide) rfl rfl (zc_X9_noted l E r_14 σ ) zk_X9_noted zm_493 rfl ⟨(Nat.le_of_ble_eq_true rfl), (Nat.le_of_ble_eq_true rfl)⟩ ⟨Nat.zero_le _, Nat.zero_le _⟩ (Nat.le_of_ble_eq_true rfl) dX9_way_17 (fun r_17 σ h_17 => ?_)
  have hz9 := h_17
  have hz := zc_t hz hz9
  exact zv_iret G hr dX9_way_20 hz
set_option maxHeartbeats 4000000 in
set_option maxRecDepth 100000 in
theorem zc_X7_signAt (l : Launch) (E : za_E) (a1 : Int32) (σ : za_S)  : zMi l E yX7_signAt cX7_signAt 2 (Option.some Jvm.ClassFile.FieldType.int) 1 21 [za_O 7 79, za_I a1] σ (fun r σ' => σ' = σ) := by
  refine zMi_of [(0, za_O 7 79), (1, za_I a1)] (by decide) rfl rfl (Nat.le_of_ble_eq_true rfl) ?_
  intro ho p e s m args below meth c G hr
  refine zv_iload_n (j := 1) G dX7_signAt_0 rfl rfl ?_
  refine zv_if_lt (tgt := 27) G dX7_signAt_1 (by decide) (fun c_1 => ?_) (fun c_1 => ?_)
  · refine zv_iconst (v := (-1)) G dX7_signAt_27 (by decide) ?_
    exact zv_iret G hr dX7_signAt_28 rfl
  · refine zv_iload_n (j := 1) G dX7_signAt_4 rfl rfl ?_
    refine zv_aload_n (j := 0) G dX7_signAt_5 rfl rfl ?_
    refine zg_X7_15 G dX7_signAt_6 ?_
    refine zv_icmp_ge (tgt := 27) G dX7_signAt_9 (by decide) (fun c_9 => ?_) (fun c_9 => ?_)
    · refine zv_iconst (v := (-1)) G dX7_signAt_27 (by decide) ?_
      exact zv_iret G hr dX7_signAt_28 rfl
    · refine zv_iload_n (j := 1) G dX7_signAt_12 rfl rfl ?_
      refine zv_bipush (v := 80) G dX7_signAt_13 (by decide) ?_
      refine zv_icmp_ge (tgt := 27) G dX7_signAt_15 (by decide) (fun c_15 => ?_) (fun c_15 => ?_)
      · refine zv_iconst (v := (-1)) G dX7_signAt_27 (by decide) ?_
        exact zv_iret G hr dX7_signAt_28 rfl
      · refine zv_aload_n (j := 0) G dX7_signAt_18 rfl rfl ?_
        refine zg_X7_11 G dX7_signAt_19 ?_
        refine zv_iload_n (j := 1) G dX7_signAt_22 rfl rfl ?_
        refine zv_cald G (by decide) rfl (z_in (z_ge0 c_1) (z_ltk c_15 (n := 80) rfl)) dX7_signAt_23 ?_
        refine zv_goto (tgt := 28) G dX7_signAt_24 (by decide) ?_
        exact zv_iret G hr dX7_signAt_28 rfl
set_option maxHeartbeats 4000000 in
set_option maxRecDepth 100000 in
theorem zc_X7_clear (l : Launch) (E : za_E)  (σ0 : za_S)  : zMv l E yX7_clear cX7_clear 1 (Option.none : Option Jvm.ClassFile.FieldType) 1 21 [za_O 7 79] σ0 (fun σ' => σ' = za_si σ0 79 1 0) := by
  refine zMv_of [(0, za_O 7 79)] (by decide) rfl rfl (Nat.le_of_ble_eq_true rfl) ?_
  intro ho p e s m args below meth c G hr
  refine zv_aload_n (j := 0) G dX7_clear_0 rfl rfl ?_
  refine zv_iconst (v := 0) G dX7_clear_1 (by decide) ?_
  refine zp_X7_15 G dX7_clear_2 ?_
  exact zv_vret G hr dX7_clear_5 rfl
set_option maxHeartbeats 4000000 in
set_option maxRecDepth 100000 in
theorem zc_X7_digitAt (l : Launch) (E : za_E) (a1 : Int32) (σ : za_S)  : zMi l E yX7_digitAt cX7_digitAt 3 (Option.some Jvm.ClassFile.FieldType.int) 2 42 [za_O 7 79, za_I a1] σ (fun r σ' => σ' = σ) := by
  refine zMi_of [(0, za_O 7 79), (1, za_I a1)] (by decide) rfl rfl (Nat.le_of_ble_eq_true rfl) ?_
  intro ho p e s m args below meth c G hr
  refine zv_aload_n (j := 0) G dX7_digitAt_0 rfl rfl ?_
  refine zv_iload_n (j := 1) G dX7_digitAt_1 rfl rfl ?_
  refine zv_callVi (as := [za_I a1]) G (by decide) rfl rfl (zc_X7_signAt l E a1 σ ) zk_X7_signAt zm_666 rfl ⟨(Nat.le_of_ble_eq_true rfl), (Nat.le_of_ble_eq_true rfl)⟩ ⟨Nat.zero_le _, Nat.zero_le _⟩ (Nat.le_of_ble_eq_true rfl) dX7_digitAt_2 (fun r_2 σ h_2 => ?_)
  subst h_2
  refine zv_istore_n (lv' := [(2, za_I r_2), (0, za_O 7 79), (1, za_I a1)]) G dX7_digitAt_5 rfl (by decide) rfl ?_
  refine zv_iload_n (j := 0) G dX7_digitAt_6 rfl rfl ?_
  refine zv_bipush (v := 48) G dX7_digitAt_7 (by decide) ?_
  refine zv_icmp_lt (tgt := 25) G dX7_digitAt_9 (by decide) (fun c_9 => ?_) (fun c_9 => ?_)
  · refine zv_iconst (v := 0) G dX7_digitAt_25 (by decide) ?_
    exact zv_iret G hr dX7_digitAt_26 rfl
  · refine zv_iload_n (j := 0) G dX7_digitAt_12 rfl rfl ?_
    refine zv_bipush (v := 57) G dX7_digitAt_13 (by decide) ?_
    refine zv_icmp_gt (tgt := 25) G dX7_digitAt_15 (by decide) (fun c_15 => ?_) (fun c_15 => ?_)
    · refine zv_iconst (v := 0) G dX7_digitAt_25 (by decide) ?_
      exact zv_iret G hr dX7_digitAt_26 rfl
    · refine zv_iload_n (j := 0) G dX7_digitAt_18 rfl rfl ?_
      refine zv_bipush (v := 48) G dX7_digitAt_19 (by decide) ?_
      refine zv_isub G dX7_digitAt_21 ?_
      refine zv_goto (tgt := 26) G dX7_digitAt_22 (by decide) ?_
      exact zv_iret G hr dX7_digitAt_26 rfl
set_option maxHeartbeats 4000000 in
set_option maxRecDepth 100000 in
theorem zc_X7_pairAt (l : Launch) (E : za_E) (a1 : Int32) (σ : za_S)  : zMi l E yX7_pairAt cX7_pairAt 2 (Option.some Jvm.ClassFile.FieldType.int) 3 64 [za_O 7 79, za_I a1] σ (fun r σ' => σ' = σ) := by
  refine zMi_of [(0, za_O 7 79), (1, za_I a1)] (by decide) rfl rfl (Nat.le_of_ble_eq_true rfl) ?_
  intro ho p e s m args below meth c G hr
  refine zv_bipush (v := 10) G dX7_pairAt_0 (by decide) ?_
  refine zv_aload_n (j := 0) G dX7_pairAt_2 rfl rfl ?_
  refine zv_iload_n (j := 1) G dX7_pairAt_3 rfl rfl ?_
  refine zv_callVi (as := [za_I a1]) G (by decide) rfl rfl (zc_X7_digitAt l E a1 σ ) zk_X7_digitAt zm_748 rfl ⟨(Nat.le_of_ble_eq_true rfl), (Nat.le_of_ble_eq_true rfl)⟩ ⟨Nat.zero_le _, Nat.zero_le _⟩ (Nat.le_of_ble_eq_true rfl) dX7_pairAt_4 (fun r_4 σ h_4 => ?_)
  subst h_4
  refine zv_imul G dX7_pairAt_7 ?_
  refine zv_aload_n (j := 0) G dX7_pairAt_8 rfl rfl ?_
  refine zv_iload_n (j := 1) G dX7_pairAt_9 rfl rfl ?_
  refine zv_iconst (v := 1) G dX7_pairAt_10 (by decide) ?_
  refine zv_iadd G dX7_pairAt_11 ?_
  refine zv_callVi (as := [za_I (a1 + 1)]) G (by decide) rfl rfl (zc_X7_digitAt l E (a1 + 1) σ ) zk_X7_digitAt zm_748 rfl ⟨(Nat.le_of_ble_eq_true rfl), (Nat.le_of_ble_eq_true rfl)⟩ ⟨Nat.zero_le _, Nat.zero_le _⟩ (Nat.le_of_ble_eq_true rfl) dX7_pairAt_12 (fun r_12 σ h_12 => ?_)
  subst h_12
  refine zv_iadd G dX7_pairAt_15 ?_
  exact zv_iret G hr dX7_pairAt_16 rfl
set_option maxHeartbeats 4000000 in
set_option maxRecDepth 100000 in
theorem zc_X7_toAt (l : Launch) (E : za_E) (a1 : Int32) (σ : za_S)  : zMi l E yX7_toAt cX7_toAt 3 (Option.some Jvm.ClassFile.FieldType.int) 4 85 [za_O 7 79, za_I a1] σ (fun r σ' => σ' = σ) := by
  refine zMi_of [(0, za_O 7 79), (1, za_I a1)] (by decide) rfl rfl (Nat.le_of_ble_eq_true rfl) ?_
  intro ho p e s m args below meth c G hr
  refine zv_aload_n (j := 0) G dX7_toAt_0 rfl rfl ?_
  refine zv_iload_n (j := 1) G dX7_toAt_1 rfl rfl ?_
  refine zv_callVi (as := [za_I a1]) G (by decide) rfl rfl (zc_X7_pairAt l E a1 σ ) zk_X7_pairAt zm_753 rfl ⟨(Nat.le_of_ble_eq_true rfl), (Nat.le_of_ble_eq_true rfl)⟩ ⟨Nat.zero_le _, Nat.zero_le _⟩ (Nat.le_of_ble_eq_true rfl) dX7_toAt_2 (fun r_2 σ h_2 => ?_)
  subst h_2
  refine zv_istore_n (lv' := [(2, za_I r_2), (0, za_O 7 79), (1, za_I a1)]) G dX7_toAt_5 rfl (by decide) rfl ?_
  refine zv_iload_n (j := 0) G dX7_toAt_6 rfl rfl ?_
  refine zv_if_ne (tgt := 15) G dX7_toAt_7 (by decide) (fun c_7 => ?_) (fun c_7 => ?_)
  · refine zv_iload_n (j := 0) G dX7_toAt_15 rfl rfl ?_
    exact zv_iret G hr dX7_toAt_16 rfl
  · refine zv_bipush (v := 100) G dX7_toAt_10 (by decide) ?_
    refine zv_goto (tgt := 16) G dX7_toAt_12 (by decide) ?_
    exact zv_iret G hr dX7_toAt_16 rfl
set_option maxHeartbeats 4000000 in
set_option maxRecDepth 100000 in
theorem zc_X9_doAct (l : Launch) (E : za_E) (a1 : Int32) (σ0 : za_S)  : zMi l E yX9_doAct cX9_doAct 4 (Option.some Jvm.ClassFile.FieldType.int) 7 173 [za_O 0 0, za_I a1] σ0 (fun r σ' => zc σ0 σ') := by
  refine zMi_of [(0, za_O 0 0), (1, za_I a1)] (by decide) rfl rfl (Nat.le_of_ble_eq_true rfl) ?_
  intro ho p e s m args below meth c G hr
  refine zv_gen (R9 := zc σ0) (zc_r σ0) (fun σ hz => ?_)
  refine zv_aload_n (j := 0) G dX9_doAct_0 rfl rfl ?_
  refine zg_X9_33 G dX9_doAct_1 ?_
  refine zv_iload_n (j := 1) G dX9_doAct_4 rfl rfl ?_
  refine zv_iconst (v := 1) G dX9_doAct_5 (by decide) ?_
  refine zv_iadd G dX9_doAct_6 ?_
  refine zv_callVNi (as := [za_I (a1 + 1)]) G (by decide) rfl rfl (zc_X7_digitAt l E (a1 + 1) σ ) zk_X7_digitAt zm_739 rfl ⟨(Nat.le_of_ble_eq_true rfl), (Nat.le_of_ble_eq_true rfl)⟩ ⟨Nat.zero_le _, Nat.zero_le _⟩ (Nat.le_of_ble_eq_true rfl) dX9_doAct_7 (fun r_7 σ h_7 => ?_)
  subst h_7
  refine zv_istore_n (lv' := [(2, za_I r_7), (0, za_O 0 0), (1, za_I a1)]) G dX9_doAct_10 rfl (by decide) rfl ?_
  refine zv_aload_n (j := 1) G dX9_doAct_11 rfl rfl ?_
  refine zg_X9_33 G dX9_doAct_12 ?_
  refine zv_iload_n (j := 2) G dX9_doAct_15 rfl rfl ?_
  refine zv_iconst (v := 2) G dX9_doAct_16 (by decide) ?_
  refine zv_iadd G dX9_doAct_17 ?_
  refine zv_callVNi (as := [za_I (a1 + 2)]) G (by decide) rfl rfl (zc_X7_digitAt l E (a1 + 2) σ ) zk_X7_digitAt zm_739 rfl ⟨(Nat.le_of_ble_eq_true rfl), (Nat.le_of_ble_eq_true rfl)⟩ ⟨Nat.zero_le _, Nat.zero_le _⟩ (Nat.le_of_ble_eq_true rfl) dX9_doAct_18 (fun r_18 σ h_18 => ?_)
  subst h_18
  refine zv_istore_n (lv' := [(3, za_I r_18), (2, za_I r_7), (0, za_O 0 0), (1, za_I a1)]) G dX9_doAct_21 rfl (by decide) rfl ?_
  refine zv_aload_n (j := 2) G dX9_doAct_22 rfl rfl ?_
  refine zg_X9_33 G dX9_doAct_23 ?_
  refine zv_iload_n (j := 3) G dX9_doAct_26 rfl rfl ?_
  refine zv_callVNi (as := [za_I a1]) G (by decide) rfl rfl (zc_X7_signAt l E a1 σ ) zk_X7_signAt zm_743 rfl ⟨(Nat.le_of_ble_eq_true rfl), (Nat.le_of_ble_eq_true rfl)⟩ ⟨Nat.zero_le _, Nat.zero_le _⟩ (Nat.le_of_ble_eq_true rfl) dX9_doAct_27 (fun r_27 σ h_27 => ?_)
  subst h_27
  rcases Decidable.em (r_27 = 97) with q_30_97 | q_30_97
  · refine zv_look (off := 58) (tgt := 88) G dX9_doAct_30 (by decide) (by rw [q_30_97]; decide) (by decide) ?_
    refine zv_aload_n (j := 2) G dX9_doAct_88 rfl rfl ?_
    refine zv_iload_n (j := 1) G dX9_doAct_89 rfl rfl ?_
    refine zv_iload_n (j := 0) G dX9_doAct_90 rfl rfl ?_
    refine zv_aload_n (j := 2) G dX9_doAct_91 rfl rfl ?_
    refine zg_X9_33 G dX9_doAct_92 ?_
    refine zv_iload_n (j := 3) G dX9_doAct_95 rfl rfl ?_
    refine zv_iconst (v := 3) G dX9_doAct_96 (by decide) ?_
    refine zv_iadd G dX9_doAct_97 ?_
    refine zv_callVNi (as := [za_I (a1 + 3)]) G (by decide) rfl rfl (zc_X7_pairAt l E (a1 + 3) σ ) zk_X7_pairAt zm_744 rfl ⟨(Nat.le_of_ble_eq_true rfl), (Nat.le_of_ble_eq_true rfl)⟩ ⟨Nat.zero_le _, Nat.zero_le _⟩ (Nat.le_of_ble_eq_true rfl) dX9_doAct_98 (fun r_98 σ h_98 => ?_)
    subst h_98
    refine zv_aload_n (j := 2) G dX9_doAct_101 rfl rfl ?_
    refine zg_X9_33 G dX9_doAct_102 ?_
    refine zv_iload_n (j := 3) G dX9_doAct_105 rfl rfl ?_
    refine zv_iconst (v := 5) G dX9_doAct_106 (by decide) ?_
    refine zv_iadd G dX9_doAct_107 ?_
    refine zv_callVNi (as := [za_I (a1 + 5)]) G (by decide) rfl rfl (zc_X7_pairAt l E (a1 + 5) σ ) zk_X7_pairAt zm_744 rfl ⟨(Nat.le_of_ble_eq_true rfl), (Nat.le_of_ble_eq_true rfl)⟩ ⟨Nat.zero_le _, Nat.zero_le _⟩ (Nat.le_of_ble_eq_true rfl) dX9_doAct_108 (fun r_108 σ h_108 => ?_)
    subst h_108
    refine zv_aload_n (j := 2) G dX9_doAct_111 rfl rfl ?_
    refine zg_X9_33 G dX9_doAct_112 ?_
    refine zv_iload_n (j := 3) G dX9_doAct_115 rfl rfl ?_
    refine zv_bipush (v := 7) G dX9_doAct_116 (by decide) ?_
    refine zv_iadd G dX9_doAct_118 ?_
    refine zv_callVNi (as := [za_I (a1 + 7)]) G (by decide) rfl rfl (zc_X7_toAt l E (a1 + 7) σ ) zk_X7_toAt zm_749 rfl ⟨(Nat.le_of_ble_eq_true rfl), (Nat.le_of_ble_eq_true rfl)⟩ ⟨Nat.zero_le _, Nat.zero_le _⟩ (Nat.le_of_ble_eq_true rfl) dX9_doAct_119 (fun r_119 σ h_119 => ?_)
    subst h_119
    refine zv_callVi (as := [za_I r_7, za_I r_18, za_I r_98, za_I r_108, za_I r_119]) G (by decide) rfl rfl (zc_X9_addRow l E r_7 r_18 r_98 r_108 r_119 σ ) zk_X9_addRow zm_431 rfl ⟨(Nat.le_of_ble_eq_true rfl), (Nat.le_of_ble_eq_true rfl)⟩ ⟨Nat.zero_le _, Nat.zero_le _⟩ (Nat.le_of_ble_eq_true rfl) dX9_doAct_122 (fun r_122 σ h_122 => ?_)
    have hz9 := h_122
    have hz := zc_t hz hz9
    exact zv_iret G hr dX9_doAct_125 hz
  rcases Decidable.em (r_27 = 99) with q_30_99 | q_30_99
  · refine zv_look (off := 171) (tgt := 201) G dX9_doAct_30 (by decide) (by rw [q_30_99]; decide) (by decide) ?_
    refine zv_aload_n (j := 2) G dX9_doAct_201 rfl rfl ?_
    refine zv_iload_n (j := 1) G dX9_doAct_202 rfl rfl ?_
    refine zv_iload_n (j := 0) G dX9_doAct_203 rfl rfl ?_
    refine zv_aload_n (j := 2) G dX9_doAct_204 rfl rfl ?_
    refine zg_X9_33 G dX9_doAct_205 ?_
    refine zv_iload_n (j := 3) G dX9_doAct_208 rfl rfl ?_
    refine zv_iconst (v := 3) G dX9_doAct_209 (by decide) ?_
    refine zv_iadd G dX9_doAct_210 ?_
    refine zv_callVNi (as := [za_I (a1 + 3)]) G (by decide) rfl rfl (zc_X7_pairAt l E (a1 + 3) σ ) zk_X7_pairAt zm_744 rfl ⟨(Nat.le_of_ble_eq_true rfl), (Nat.le_of_ble_eq_true rfl)⟩ ⟨Nat.zero_le _, Nat.zero_le _⟩ (Nat.le_of_ble_eq_true rfl) dX9_doAct_211 (fun r_211 σ h_211 => ?_)
    subst h_211
    refine zv_aload_n (j := 2) G dX9_doAct_214 rfl rfl ?_
    refine zg_X9_33 G dX9_doAct_215 ?_
    refine zv_iload_n (j := 3) G dX9_doAct_218 rfl rfl ?_
    refine zv_iconst (v := 5) G dX9_doAct_219 (by decide) ?_
    refine zv_iadd G dX9_doAct_220 ?_
    refine zv_callVNi (as := [za_I (a1 + 5)]) G (by decide) rfl rfl (zc_X7_toAt l E (a1 + 5) σ ) zk_X7_toAt zm_749 rfl ⟨(Nat.le_of_ble_eq_true rfl), (Nat.le_of_ble_eq_true rfl)⟩ ⟨Nat.zero_le _, Nat.zero_le _⟩ (Nat.le_of_ble_eq_true rfl) dX9_doAct_221 (fun r_221 σ h_221 => ?_)
    subst h_221
    refine zv_callVi (as := [za_I r_7, za_I r_18, za_I r_211, za_I r_221]) G (by decide) rfl rfl (zc_X9_cutPeriod l E r_7 r_18 r_211 r_221 σ ) zk_X9_cutPeriod zm_564 rfl ⟨(Nat.le_of_ble_eq_true rfl), (Nat.le_of_ble_eq_true rfl)⟩ ⟨Nat.zero_le _, Nat.zero_le _⟩ (Nat.le_of_ble_eq_true rfl) dX9_doAct_224 (fun r_224 σ h_224 => ?_)
    have hz9 := h_224
    have hz := zc_t hz hz9
    exact zv_iret G hr dX9_doAct_227 hz
  rcases Decidable.em (r_27 = 106) with q_30_106 | q_30_106
  · refine zv_look (off := 198) (tgt := 228) G dX9_doAct_30 (by decide) (by rw [q_30_106]; decide) (by decide) ?_
    refine zv_aload_n (j := 2) G dX9_doAct_228 rfl rfl ?_
    refine zv_iload_n (j := 1) G dX9_doAct_229 rfl rfl ?_
    refine zv_callVi (as := [za_I r_7]) G (by decide) rfl rfl (zc_X9_joinAlike l E r_7 σ ) zk_X9_joinAlike zm_630 rfl ⟨(Nat.le_of_ble_eq_true rfl), (Nat.le_of_ble_eq_true rfl)⟩ ⟨Nat.zero_le _, Nat.zero_le _⟩ (Nat.le_of_ble_eq_true rfl) dX9_doAct_230 (fun r_230 σ h_230 => ?_)
    have hz9 := h_230
    have hz := zc_t hz hz9
    exact zv_iret G hr dX9_doAct_233 hz
  rcases Decidable.em (r_27 = 114) with q_30_114 | q_30_114
  · refine zv_look (off := 134) (tgt := 164) G dX9_doAct_30 (by decide) (by rw [q_30_114]; decide) (by decide) ?_
    refine zv_aload_n (j := 2) G dX9_doAct_164 rfl rfl ?_
    refine zv_iload_n (j := 1) G dX9_doAct_165 rfl rfl ?_
    refine zv_aload_n (j := 2) G dX9_doAct_166 rfl rfl ?_
    refine zg_X9_33 G dX9_doAct_167 ?_
    refine zv_iload_n (j := 3) G dX9_doAct_170 rfl rfl ?_
    refine zv_iconst (v := 2) G dX9_doAct_171 (by decide) ?_
    refine zv_iadd G dX9_doAct_172 ?_
    refine zv_callVNi (as := [za_I (a1 + 2)]) G (by decide) rfl rfl (zc_X7_pairAt l E (a1 + 2) σ ) zk_X7_pairAt zm_744 rfl ⟨(Nat.le_of_ble_eq_true rfl), (Nat.le_of_ble_eq_true rfl)⟩ ⟨Nat.zero_le _, Nat.zero_le _⟩ (Nat.le_of_ble_eq_true rfl) dX9_doAct_173 (fun r_173 σ h_173 => ?_)
    subst h_173
    refine zv_aload_n (j := 2) G dX9_doAct_176 rfl rfl ?_
    refine zg_X9_33 G dX9_doAct_177 ?_
    refine zv_iload_n (j := 3) G dX9_doAct_180 rfl rfl ?_
    refine zv_iconst (v := 4) G dX9_doAct_181 (by decide) ?_
    refine zv_iadd G dX9_doAct_182 ?_
    refine zv_callVNi (as := [za_I (a1 + 4)]) G (by decide) rfl rfl (zc_X7_pairAt l E (a1 + 4) σ ) zk_X7_pairAt zm_744 rfl ⟨(Nat.le_of_ble_eq_true rfl), (Nat.le_of_ble_eq_true rfl)⟩ ⟨Nat.zero_le _, Nat.zero_le _⟩ (Nat.le_of_ble_eq_true rfl) dX9_doAct_183 (fun r_183 σ h_183 => ?_)
    subst h_183
    refine zv_aload_n (j := 2) G dX9_doAct_186 rfl rfl ?_
    refine zg_X9_33 G dX9_doAct_187 ?_
    refine zv_iload_n (j := 3) G dX9_doAct_190 rfl rfl ?_
    refine zv_bipush (v := 6) G dX9_doAct_191 (by decide) ?_
    refine zv_iadd G dX9_doAct_193 ?_
    refine zv_callVNi (as := [za_I (a1 + 6)]) G (by decide) rfl rfl (zc_X7_toAt l E (a1 + 6) σ ) zk_X7_toAt zm_749 rfl ⟨(Nat.le_of_ble_eq_true rfl), (Nat.le_of_ble_eq_true rfl)⟩ ⟨Nat.zero_le _, Nat.zero_le _⟩ (Nat.le_of_ble_eq_true rfl) dX9_doAct_194 (fun r_194 σ h_194 => ?_)
    subst h_194
    refine zv_callVi (as := [za_I r_7, za_I r_173, za_I r_183, za_I r_194]) G (by decide) rfl rfl (zc_X9_setRef l E r_7 r_173 r_183 r_194 σ ) zk_X9_setRef zm_543 rfl ⟨(Nat.le_of_ble_eq_true rfl), (Nat.le_of_ble_eq_true rfl)⟩ ⟨Nat.zero_le _, Nat.zero_le _⟩ (Nat.le_of_ble_eq_true rfl) dX9_doAct_197 (fun r_197 σ h_197 => ?_)
    have hz9 := h_197
    have hz := zc_t hz hz9
    exact zv_iret G hr dX9_doAct_200 hz
  rcases Decidable.em (r_27 = 115) with q_30_115 | q_30_115
  · refine zv_look (off := 96) (tgt := 126) G dX9_doAct_30 (by decide) (by rw [q_30_115]; decide) (by decide) ?_
    refine zv_aload_n (j := 2) G dX9_doAct_126 rfl rfl ?_
    refine zv_iload_n (j := 1) G dX9_doAct_127 rfl rfl ?_
    refine zv_iload_n (j := 0) G dX9_doAct_128 rfl rfl ?_
    refine zv_aload_n (j := 2) G dX9_doAct_129 rfl rfl ?_
    refine zg_X9_33 G dX9_doAct_130 ?_
    refine zv_iload_n (j := 3) G dX9_doAct_133 rfl rfl ?_
    refine zv_iconst (v := 3) G dX9_doAct_134 (by decide) ?_
    refine zv_iadd G dX9_doAct_135 ?_
    refine zv_callVNi (as := [za_I (a1 + 3)]) G (by decide) rfl rfl (zc_X7_pairAt l E (a1 + 3) σ ) zk_X7_pairAt zm_744 rfl ⟨(Nat.le_of_ble_eq_true rfl), (Nat.le_of_ble_eq_true rfl)⟩ ⟨Nat.zero_le _, Nat.zero_le _⟩ (Nat.le_of_ble_eq_true rfl) dX9_doAct_136 (fun r_136 σ h_136 => ?_)
    subst h_136
    refine zv_aload_n (j := 2) G dX9_doAct_139 rfl rfl ?_
    refine zg_X9_33 G dX9_doAct_140 ?_
    refine zv_iload_n (j := 3) G dX9_doAct_143 rfl rfl ?_
    refine zv_iconst (v := 5) G dX9_doAct_144 (by decide) ?_
    refine zv_iadd G dX9_doAct_145 ?_
    refine zv_callVNi (as := [za_I (a1 + 5)]) G (by decide) rfl rfl (zc_X7_pairAt l E (a1 + 5) σ ) zk_X7_pairAt zm_744 rfl ⟨(Nat.le_of_ble_eq_true rfl), (Nat.le_of_ble_eq_true rfl)⟩ ⟨Nat.zero_le _, Nat.zero_le _⟩ (Nat.le_of_ble_eq_true rfl) dX9_doAct_146 (fun r_146 σ h_146 => ?_)
    subst h_146
    refine zv_aload_n (j := 2) G dX9_doAct_149 rfl rfl ?_
    refine zg_X9_33 G dX9_doAct_150 ?_
    refine zv_iload_n (j := 3) G dX9_doAct_153 rfl rfl ?_
    refine zv_bipush (v := 7) G dX9_doAct_154 (by decide) ?_
    refine zv_iadd G dX9_doAct_156 ?_
    refine zv_callVNi (as := [za_I (a1 + 7)]) G (by decide) rfl rfl (zc_X7_toAt l E (a1 + 7) σ ) zk_X7_toAt zm_749 rfl ⟨(Nat.le_of_ble_eq_true rfl), (Nat.le_of_ble_eq_true rfl)⟩ ⟨Nat.zero_le _, Nat.zero_le _⟩ (Nat.le_of_ble_eq_true rfl) dX9_doAct_157 (fun r_157 σ h_157 => ?_)
    subst h_157
    refine zv_callVi (as := [za_I r_7, za_I r_18, za_I r_136, za_I r_146, za_I r_157]) G (by decide) rfl rfl (zc_X9_setValue l E r_7 r_18 r_136 r_146 r_157 σ ) zk_X9_setValue zm_505 rfl ⟨(Nat.le_of_ble_eq_true rfl), (Nat.le_of_ble_eq_true rfl)⟩ ⟨Nat.zero_le _, Nat.zero_le _⟩ (Nat.le_of_ble_eq_true rfl) dX9_doAct_160 (fun r_160 σ h_160 => ?_)
    have hz9 := h_160
    have hz := zc_t hz hz9
    exact zv_iret G hr dX9_doAct_163 hz
  rcases Decidable.em (r_27 = 119) with q_30_119 | q_30_119
  · refine zv_look (off := 204) (tgt := 234) G dX9_doAct_30 (by decide) (by rw [q_30_119]; decide) (by decide) ?_
    refine zv_aload_n (j := 2) G dX9_doAct_234 rfl rfl ?_
    refine zv_iload_n (j := 1) G dX9_doAct_235 rfl rfl ?_
    refine zv_callVi (as := [za_I r_7]) G (by decide) rfl rfl (zc_X9_setWay l E r_7 σ ) zk_X9_setWay zm_654 rfl ⟨(Nat.le_of_ble_eq_true rfl), (Nat.le_of_ble_eq_true rfl)⟩ ⟨Nat.zero_le _, Nat.zero_le _⟩ (Nat.le_of_ble_eq_true rfl) dX9_doAct_236 (fun r_236 σ h_236 => ?_)
    have hz9 := h_236
    have hz := zc_t hz hz9
    exact zv_iret G hr dX9_doAct_239 hz
  refine zv_look (off := 210) (tgt := 240) G dX9_doAct_30 (by decide) (by show Op.lookupswitch.offset [(97, 58), (99, 171), (106, 198), (114, 134), (115, 96), (119, 204)] 210 r_27.toInt = 210; rw [lv_osw (a := 97) q_30_97 rfl, lv_osw (a := 99) q_30_99 rfl, lv_osw (a := 106) q_30_106 rfl, lv_osw (a := 114) q_30_114 rfl, lv_osw (a := 115) q_30_115 rfl, lv_osw (a := 119) q_30_119 rfl]; rfl) (by decide) ?_
  refine zv_iconst (v := (-1)) G dX9_doAct_240 (by decide) ?_
  exact zv_iret G hr dX9_doAct_241 hz
set_option maxHeartbeats 4000000 in
set_option maxRecDepth 100000 in
theorem zc_X9_undo (l : Launch) (E : za_E)  (σ0 : za_S)  : zMi l E yX9_undo cX9_undo 1 (Option.some Jvm.ClassFile.FieldType.int) 3 102 [za_O 0 0] σ0 (fun r σ' => zc σ0 σ') := by
  refine zMi_of [(0, za_O 0 0)] (by decide) rfl rfl (Nat.le_of_ble_eq_true rfl) ?_
  intro ho p e s m args below meth c G hr
  refine zv_gen (R9 := zc σ0) (zc_r σ0) (fun σ hz => ?_)
  refine zv_aload_n (j := 0) G dX9_undo_0 rfl rfl ?_
  refine zg_X9_22 G dX9_undo_1 ?_
  refine zg_X9_186 G dX9_undo_4 ?_
  refine zv_if_ne (tgt := 12) G dX9_undo_7 (by decide) (fun c_7 => ?_) (fun c_7 => ?_)
  · refine zv_aload_n (j := 0) G dX9_undo_12 rfl rfl ?_
    refine zg_X9_22 G dX9_undo_13 ?_
    refine zv_dupO G dX9_undo_16 ?_
    refine zg_X9_186 G dX9_undo_17 ?_
    refine zv_iconst (v := 1) G dX9_undo_20 (by decide) ?_
    refine zv_isub G dX9_undo_21 ?_
    refine zp_X9_186 G dX9_undo_22 ?_
    refine zv_gen (R9 := zc σ0) (zc_t hz (zc_k4 rfl)) (fun σ hz => ?_)
    refine zv_aload_n (j := 0) G dX9_undo_25 rfl rfl ?_
    refine zg_X9_10 G dX9_undo_26 ?_
    refine zv_aload_n (j := 0) G dX9_undo_29 rfl rfl ?_
    refine zg_X9_22 G dX9_undo_30 ?_
    refine zv_aload_n (j := 0) G dX9_undo_33 rfl rfl ?_
    refine zg_X9_22 G dX9_undo_34 ?_
    refine zg_X9_186 G dX9_undo_37 ?_
    refine zv_callVNr (as := [za_I (σ.1 11 2)]) G (by decide) rfl rfl (zc_X2_slot l E (σ.1 11 2) σ ) zk_X2_slot zm_761 rfl ⟨(Nat.le_of_ble_eq_true rfl), (Nat.le_of_ble_eq_true rfl)⟩ ⟨Nat.zero_le _, Nat.zero_le _⟩ (Nat.le_of_ble_eq_true rfl) dX9_undo_40 (fun r_40 σ h_40 => ?_)
    obtain ⟨w_40, rfl, h_w_40, t_40, rfl⟩ := h_40
    refine zv_callVNv (as := [za_O 1 w_40]) G (by decide) rfl rfl (zc_X4_copyOf l E 1 w_40 σ ) zk_X4_copyOf zm_475 rfl ⟨(Nat.le_of_ble_eq_true rfl), (Nat.le_of_ble_eq_true rfl)⟩ ⟨Nat.zero_le _, Nat.zero_le _⟩ (Nat.le_of_ble_eq_true rfl) dX9_undo_43 (fun σ h_43 => ?_)
    have hz9 := h_43
    have hz := zc_t hz hz9
    refine zv_aload_n (j := 0) G dX9_undo_46 rfl rfl ?_
    refine zg_X9_22 G dX9_undo_47 ?_
    refine zg_X9_186 G dX9_undo_50 ?_
    exact zv_iret G hr dX9_undo_53 hz
  · refine zv_iconst (v := (-1)) G dX9_undo_10 (by decide) ?_
    exact zv_iret G hr dX9_undo_11 hz
set_option maxHeartbeats 4000000 in
set_option maxRecDepth 100000 in
theorem zc_X8_tell__ (l : Launch) (E : za_E) (a1 : Int64) (a2 : Int64) (a3 : Int64) (σ0 : za_S)  : zMv l E yX8_tell__ cX8_tell__ 7 (Option.none : Option Jvm.ClassFile.FieldType) 4 89 [za_O 9 81, za_L a1, za_L a2, za_L a3] σ0 (fun σ' => zc σ0 σ') := by
  refine zMv_of [(0, za_O 9 81), (1, za_L a1), (3, za_L a2), (5, za_L a3)] (by decide) rfl rfl (Nat.le_of_ble_eq_true rfl) ?_
  intro ho p e s m args below meth c G hr
  refine zv_gen (R9 := zc σ0) (zc_r σ0) (fun σ hz => ?_)
  refine zv_aload_n (j := 0) G dX8_tell___0 rfl rfl ?_
  refine zv_lload_n (j := 1) G dX8_tell___1 rfl rfl ?_
  refine zv_lload_n (j := 2) G dX8_tell___2 rfl rfl ?_
  refine zv_callVv (as := [za_L a1, za_L a2]) G (by decide) rfl rfl (zc_X8_tell_ l E a1 a2 σ ) zk_X8_tell_ zm_771 rfl ⟨(Nat.le_of_ble_eq_true rfl), (Nat.le_of_ble_eq_true rfl)⟩ ⟨Nat.zero_le _, Nat.zero_le _⟩ (Nat.le_of_ble_eq_true rfl) dX8_tell___3 (fun σ h_3 => ?_)
  have hz9 := h_3
  have hz := zc_t hz hz9
  refine zv_aload_n (j := 0) G dX8_tell___6 rfl rfl ?_
  refine zv_lload (j := 3) G dX8_tell___7 rfl ?_
  refine zv_callVv (as := [za_L a3]) G (by decide) rfl rfl (zc_X8_add l E a3 σ ) zk_X8_add zm_535 rfl ⟨(Nat.le_of_ble_eq_true rfl), (Nat.le_of_ble_eq_true rfl)⟩ ⟨Nat.zero_le _, Nat.zero_le _⟩ (Nat.le_of_ble_eq_true rfl) dX8_tell___9 (fun σ h_9 => ?_)
  have hz9 := h_9
  have hz := zc_t hz hz9
  exact zv_vret G hr dX8_tell___12 hz
set_option maxHeartbeats 4000000 in
set_option maxRecDepth 100000 in
theorem zc_X9_at (l : Launch) (E : za_E) (a1 : Int32) (a2 : Int32) (a3 : Int32) (σ0 : za_S)  : zMi l E yX9_at cX9_at 6 (Option.some Jvm.ClassFile.FieldType.int) 5 115 [za_O 0 0, za_I a1, za_I a2, za_I a3] σ0 (fun r σ' => zc σ0 σ') := by
  refine zMi_of [(0, za_O 0 0), (1, za_I a1), (2, za_I a2), (3, za_I a3)] (by decide) rfl rfl (Nat.le_of_ble_eq_true rfl) ?_
  intro ho p e s m args below meth c G hr
  refine zv_gen (R9 := zc σ0) (zc_r σ0) (fun σ hz => ?_)
  refine zv_iload_n (j := 1) G dX9_at_0 rfl rfl ?_
  refine zv_callSi (as := [za_I a1]) G (zc_X9_isTable l E a1 σ ) zk_X9_isTable zm_438 rfl ⟨(Nat.le_of_ble_eq_true rfl), (Nat.le_of_ble_eq_true rfl)⟩ ⟨Nat.zero_le _, Nat.zero_le _⟩ (Nat.le_of_ble_eq_true rfl) dX9_at_1 (fun r_1 σ h_1 => ?_)
  obtain ⟨h_1, rfl⟩ := h_1
  refine zv_if_eq (tgt := 21) G dX9_at_4 (by decide) (fun c_4 => ?_) (fun c_4 => ?_)
  · refine zv_iconst (v := (-1)) G dX9_at_21 (by decide) ?_
    exact zv_iret G hr dX9_at_22 hz
  · refine zv_iload_n (j := 2) G dX9_at_7 rfl rfl ?_
    refine zv_callSi (as := [za_I a2]) G (zc_X9_isKey l E a2 σ ) zk_X9_isKey zm_441 rfl ⟨(Nat.le_of_ble_eq_true rfl), (Nat.le_of_ble_eq_true rfl)⟩ ⟨Nat.zero_le _, Nat.zero_le _⟩ (Nat.le_of_ble_eq_true rfl) dX9_at_8 (fun r_8 σ h_8 => ?_)
    obtain ⟨h_8, rfl⟩ := h_8
    refine zv_if_eq (tgt := 21) G dX9_at_11 (by decide) (fun c_11 => ?_) (fun c_11 => ?_)
    · refine zv_iconst (v := (-1)) G dX9_at_21 (by decide) ?_
      exact zv_iret G hr dX9_at_22 hz
    · refine zv_iload_n (j := 3) G dX9_at_14 rfl rfl ?_
      refine zv_callSi (as := [za_I a3]) G (zc_X9_isDay l E a3 σ ) zk_X9_isDay zm_447 rfl ⟨(Nat.le_of_ble_eq_true rfl), (Nat.le_of_ble_eq_true rfl)⟩ ⟨Nat.zero_le _, Nat.zero_le _⟩ (Nat.le_of_ble_eq_true rfl) dX9_at_15 (fun r_15 σ h_15 => ?_)
      obtain ⟨h_15, rfl⟩ := h_15
      refine zv_if_ne (tgt := 23) G dX9_at_18 (by decide) (fun c_18 => ?_) (fun c_18 => ?_)
      · refine zv_aload_n (j := 0) G dX9_at_23 rfl rfl ?_
        refine zg_X9_10 G dX9_at_24 ?_
        refine zv_iload_n (j := 1) G dX9_at_27 rfl rfl ?_
        refine zv_callVNr (as := [za_I a1]) G (by decide) rfl rfl (zc_X4_table l E 1 a1 σ ) zk_X4_table zm_453 rfl ⟨(Nat.le_of_ble_eq_true rfl), (Nat.le_of_ble_eq_true rfl)⟩ ⟨Nat.zero_le _, Nat.zero_le _⟩ (Nat.le_of_ble_eq_true rfl) dX9_at_28 (fun r_28 σ h_28 => ?_)
        obtain ⟨w_28, rfl, h_w_28, t_28, rfl⟩ := h_28
        refine zv_astore (lv' := [(4, za_O 2 w_28), (0, za_O 0 0), (1, za_I a1), (2, za_I a2), (3, za_I a3)]) G dX9_at_31 (by decide) rfl ?_
        refine zv_iconst (v := 0) G dX9_at_33 (by decide) ?_
        have J_36 : ∀ (n : Nat) (y5_36 : Int32) (σ : za_S) (hz : zc σ0 σ) (hn_36 : (2147483648 - y5_36.toInt).toNat < n), zV p l e (zRm 5 115) s m args below meth c E (za_A E) 6 0 0 (MQ below (va_Qi (fun r σ' => zc σ0 σ') (zB E) (za_A E)) args s 0 0 (za_A E)) 36 [(0, za_O 0 0), (2, za_I a2), (3, za_I a3), (4, za_O 2 w_28), (5, za_I y5_36)] [] σ := by
          intro n
          induction n with
          | zero => intro y5_36 σ hz hn; exact absurd hn (Nat.not_lt_zero _)
          | succ n ih_36 =>
            intro y5_36 σ hz hn_36
            refine zv_iload (j := 4) G dX9_at_36 rfl ?_
            refine zv_aload (j := 3) G dX9_at_38 rfl ?_
            refine zg_X9_106 G dX9_at_40 ?_
            refine zv_icmp_ge (tgt := 110) G dX9_at_43 (by decide) (fun c_43 => ?_) (fun c_43 => ?_)
            · refine zv_bipush (v := (-2)) G dX9_at_110 (by decide) ?_
              exact zv_iret G hr dX9_at_112 hz
            · refine zv_aload (j := 3) G dX9_at_46 rfl ?_
              refine zv_iload (j := 4) G dX9_at_48 rfl ?_
              refine zv_iload_n (j := 1) G dX9_at_50 rfl rfl ?_
              refine zv_iload_n (j := 2) G dX9_at_51 rfl rfl ?_
              refine zv_iload_n (j := 2) G dX9_at_52 rfl rfl ?_
              refine zv_iconst (v := 1) G dX9_at_53 (by decide) ?_
              refine zv_iadd G dX9_at_54 ?_
              refine zv_callVNi (as := [za_I y5_36, za_I a2, za_I a3, za_I (a3 + 1)]) G (by decide) rfl rfl (zc_X6_touches l E w_28 y5_36 a2 a3 (a3 + 1) σ ) zk_X6_touches zm_766 rfl ⟨(Nat.le_of_ble_eq_true rfl), (Nat.le_of_ble_eq_true rfl)⟩ ⟨Nat.zero_le _, Nat.zero_le _⟩ (Nat.le_of_ble_eq_true rfl) dX9_at_55 (fun r_55 σ h_55 => ?_)
              obtain ⟨h_55, rfl⟩ := h_55
              refine zv_if_eq (tgt := 104) G dX9_at_58 (by decide) (fun c_58 => ?_) (fun c_58 => ?_)
              · obtain ⟨x_104, e_104⟩ : ∃ y : Int32, y = y5_36 + 1 := ⟨_, rfl⟩
                refine zv_iinc (j := 4) (v := x_104) (lv' := [(5, za_I x_104), (0, za_O 0 0), (2, za_I a2), (3, za_I a3), (4, za_O 2 w_28)]) G dX9_at_104 rfl (by rw [e_104]; rfl) (by decide) rfl ?_
                refine zv_goto (tgt := 36) G dX9_at_107 (by decide) ?_
                refine zv_sub [1, 2, 3, 4, 0] (lv' := [(0, za_O 0 0), (2, za_I a2), (3, za_I a3), (4, za_O 2 w_28), (5, za_I x_104)]) rfl ?_
                exact ih_36 x_104 σ hz (z_meas c_43 e_104 hn_36)
              · refine zv_aload_n (j := 0) G dX9_at_61 rfl rfl ?_
                refine zg_X9_40 G dX9_at_62 ?_
                refine zv_aload (j := 3) G dX9_at_65 rfl ?_
                refine zv_iload (j := 4) G dX9_at_67 rfl ?_
                refine zv_iconst (v := 4) G dX9_at_69 (by decide) ?_
                refine zv_callVNi (as := [za_I y5_36, za_I 4]) G (by decide) rfl rfl (zc_X6_cell l E w_28 y5_36 (4 : Int32) σ ) zk_X6_cell zm_592 rfl ⟨(Nat.le_of_ble_eq_true rfl), (Nat.le_of_ble_eq_true rfl)⟩ ⟨Nat.zero_le _, Nat.zero_le _⟩ (Nat.le_of_ble_eq_true rfl) dX9_at_70 (fun r_70 σ h_70 => ?_)
                subst h_70
                refine zv_i2l G dX9_at_73 ?_
                refine zv_aload (j := 3) G dX9_at_74 rfl ?_
                refine zv_iload (j := 4) G dX9_at_76 rfl ?_
                refine zv_iconst (v := 2) G dX9_at_78 (by decide) ?_
                refine zv_callVNi (as := [za_I y5_36, za_I 2]) G (by decide) rfl rfl (zc_X6_cell l E w_28 y5_36 (2 : Int32) σ ) zk_X6_cell zm_592 rfl ⟨(Nat.le_of_ble_eq_true rfl), (Nat.le_of_ble_eq_true rfl)⟩ ⟨Nat.zero_le _, Nat.zero_le _⟩ (Nat.le_of_ble_eq_true rfl) dX9_at_79 (fun r_79 σ h_79 => ?_)
                subst h_79
                refine zv_i2l G dX9_at_82 ?_
                refine zv_aload (j := 3) G dX9_at_83 rfl ?_
                refine zv_iload (j := 4) G dX9_at_85 rfl ?_
                refine zv_iconst (v := 3) G dX9_at_87 (by decide) ?_
                refine zv_callVNi (as := [za_I y5_36, za_I 3]) G (by decide) rfl rfl (zc_X6_cell l E w_28 y5_36 (3 : Int32) σ ) zk_X6_cell zm_592 rfl ⟨(Nat.le_of_ble_eq_true rfl), (Nat.le_of_ble_eq_true rfl)⟩ ⟨Nat.zero_le _, Nat.zero_le _⟩ (Nat.le_of_ble_eq_true rfl) dX9_at_88 (fun r_88 σ h_88 => ?_)
                subst h_88
                refine zv_i2l G dX9_at_91 ?_
                refine zv_callVNv (as := [za_L r_70.toInt64, za_L r_79.toInt64, za_L r_88.toInt64]) G (by decide) rfl rfl (zc_X8_tell__ l E r_70.toInt64 r_79.toInt64 r_88.toInt64 σ ) zk_X8_tell__ zm_767 rfl ⟨(Nat.le_of_ble_eq_true rfl), (Nat.le_of_ble_eq_true rfl)⟩ ⟨Nat.zero_le _, Nat.zero_le _⟩ (Nat.le_of_ble_eq_true rfl) dX9_at_92 (fun σ h_92 => ?_)
                have hz9 := h_92
                have hz := zc_t hz hz9
                refine zv_aload (j := 3) G dX9_at_95 rfl ?_
                refine zv_iload (j := 4) G dX9_at_97 rfl ?_
                refine zv_iconst (v := 1) G dX9_at_99 (by decide) ?_
                refine zv_callVNi (as := [za_I y5_36, za_I 1]) G (by decide) rfl rfl (zc_X6_cell l E w_28 y5_36 (1 : Int32) σ ) zk_X6_cell zm_592 rfl ⟨(Nat.le_of_ble_eq_true rfl), (Nat.le_of_ble_eq_true rfl)⟩ ⟨Nat.zero_le _, Nat.zero_le _⟩ (Nat.le_of_ble_eq_true rfl) dX9_at_100 (fun r_100 σ h_100 => ?_)
                subst h_100
                exact zv_iret G hr dX9_at_103 hz
        refine zv_istore (lv' := [(5, za_I 0), (4, za_O 2 w_28), (0, za_O 0 0), (1, za_I a1), (2, za_I a2), (3, za_I a3)]) G dX9_at_34 (by decide) rfl ?_
        refine zv_sub [2, 4, 5, 1, 0] (lv' := [(0, za_O 0 0), (2, za_I a2), (3, za_I a3), (4, za_O 2 w_28), (5, za_I 0)]) rfl ?_
        exact J_36 _ (0 : Int32) σ hz (Nat.lt_succ_self _)
      · refine zv_iconst (v := (-1)) G dX9_at_21 (by decide) ?_
        exact zv_iret G hr dX9_at_22 hz
set_option maxHeartbeats 4000000 in
set_option maxRecDepth 100000 in
theorem zc_X9_slice (l : Launch) (E : za_E) (a1 : Int32) (a2 : Int32) (σ0 : za_S)  : zMi l E yX9_slice cX9_slice 6 (Option.some Jvm.ClassFile.FieldType.int) 4 87 [za_O 0 0, za_I a1, za_I a2] σ0 (fun r σ' => zc σ0 σ') := by
  refine zMi_of [(0, za_O 0 0), (1, za_I a1), (2, za_I a2)] (by decide) rfl rfl (Nat.le_of_ble_eq_true rfl) ?_
  intro ho p e s m args below meth c G hr
  refine zv_gen (R9 := zc σ0) (zc_r σ0) (fun σ hz => ?_)
  refine zv_iload_n (j := 1) G dX9_slice_0 rfl rfl ?_
  refine zv_callSi (as := [za_I a1]) G (zc_X9_isTable l E a1 σ ) zk_X9_isTable zm_438 rfl ⟨(Nat.le_of_ble_eq_true rfl), (Nat.le_of_ble_eq_true rfl)⟩ ⟨Nat.zero_le _, Nat.zero_le _⟩ (Nat.le_of_ble_eq_true rfl) dX9_slice_1 (fun r_1 σ h_1 => ?_)
  obtain ⟨h_1, rfl⟩ := h_1
  refine zv_if_eq (tgt := 14) G dX9_slice_4 (by decide) (fun c_4 => ?_) (fun c_4 => ?_)
  · refine zv_iconst (v := (-1)) G dX9_slice_14 (by decide) ?_
    exact zv_iret G hr dX9_slice_15 hz
  · refine zv_iload_n (j := 2) G dX9_slice_7 rfl rfl ?_
    refine zv_callSi (as := [za_I a2]) G (zc_X9_isDay l E a2 σ ) zk_X9_isDay zm_447 rfl ⟨(Nat.le_of_ble_eq_true rfl), (Nat.le_of_ble_eq_true rfl)⟩ ⟨Nat.zero_le _, Nat.zero_le _⟩ (Nat.le_of_ble_eq_true rfl) dX9_slice_8 (fun r_8 σ h_8 => ?_)
    obtain ⟨h_8, rfl⟩ := h_8
    refine zv_if_ne (tgt := 16) G dX9_slice_11 (by decide) (fun c_11 => ?_) (fun c_11 => ?_)
    · refine zv_aload_n (j := 0) G dX9_slice_16 rfl rfl ?_
      refine zg_X9_10 G dX9_slice_17 ?_
      refine zv_iload_n (j := 1) G dX9_slice_20 rfl rfl ?_
      refine zv_callVNr (as := [za_I a1]) G (by decide) rfl rfl (zc_X4_table l E 1 a1 σ ) zk_X4_table zm_453 rfl ⟨(Nat.le_of_ble_eq_true rfl), (Nat.le_of_ble_eq_true rfl)⟩ ⟨Nat.zero_le _, Nat.zero_le _⟩ (Nat.le_of_ble_eq_true rfl) dX9_slice_21 (fun r_21 σ h_21 => ?_)
      obtain ⟨w_21, rfl, h_w_21, t_21, rfl⟩ := h_21
      refine zv_astore_n (lv' := [(3, za_O 2 w_21), (0, za_O 0 0), (1, za_I a1), (2, za_I a2)]) G dX9_slice_24 rfl (by decide) rfl ?_
      refine zv_iconst (v := 0) G dX9_slice_25 (by decide) ?_
      refine zv_istore (lv' := [(4, za_I 0), (3, za_O 2 w_21), (0, za_O 0 0), (1, za_I a1), (2, za_I a2)]) G dX9_slice_26 (by decide) rfl ?_
      refine zv_aload_n (j := 2) G dX9_slice_28 rfl rfl ?_
      refine zg_X9_40 G dX9_slice_29 ?_
      refine zv_callVNv (as := []) G (by decide) rfl rfl (zc_X8_clear l E  σ ) zk_X8_clear zm_776 rfl ⟨(Nat.le_of_ble_eq_true rfl), (Nat.le_of_ble_eq_true rfl)⟩ ⟨Nat.zero_le _, Nat.zero_le _⟩ (Nat.le_of_ble_eq_true rfl) dX9_slice_32 (fun σ h_32 => ?_)
      have hz9 := h_32
      have hz := zc_t hz hz9
      refine zv_iconst (v := 0) G dX9_slice_35 (by decide) ?_
      have J_38 : ∀ (n : Nat) (y4_38 : Int32) (y5_38 : Int32) (σ : za_S) (hz : zc σ0 σ) (hn_38 : (2147483648 - y5_38.toInt).toNat < n), zV p l e (zRm 4 87) s m args below meth c E (za_A E) 6 0 0 (MQ below (va_Qi (fun r σ' => zc σ0 σ') (zB E) (za_A E)) args s 0 0 (za_A E)) 38 [(0, za_O 0 0), (2, za_I a2), (3, za_O 2 w_21), (4, za_I y4_38), (5, za_I y5_38)] [] σ := by
        intro n
        induction n with
        | zero => intro y4_38 y5_38 σ hz hn; exact absurd hn (Nat.not_lt_zero _)
        | succ n ih_38 =>
          intro y4_38 y5_38 σ hz hn_38
          refine zv_iload (j := 4) G dX9_slice_38 rfl ?_
          refine zv_aload_n (j := 2) G dX9_slice_40 rfl rfl ?_
          refine zg_X9_106 G dX9_slice_41 ?_
          refine zv_icmp_ge (tgt := 95) G dX9_slice_44 (by decide) (fun c_44 => ?_) (fun c_44 => ?_)
          · refine zv_iload (j := 3) G dX9_slice_95 rfl ?_
            exact zv_iret G hr dX9_slice_97 hz
          · refine zv_aload_n (j := 2) G dX9_slice_47 rfl rfl ?_
            refine zv_iload (j := 4) G dX9_slice_48 rfl ?_
            refine zv_iload_n (j := 1) G dX9_slice_50 rfl rfl ?_
            refine zv_iload_n (j := 1) G dX9_slice_51 rfl rfl ?_
            refine zv_iconst (v := 1) G dX9_slice_52 (by decide) ?_
            refine zv_iadd G dX9_slice_53 ?_
            refine zv_callVNi (as := [za_I y5_38, za_I a2, za_I (a2 + 1)]) G (by decide) rfl rfl (zc_X6_daysOfRowWithin l E w_21 y5_38 a2 (a2 + 1) σ ) zk_X6_daysOfRowWithin zm_777 rfl ⟨(Nat.le_of_ble_eq_true rfl), (Nat.le_of_ble_eq_true rfl)⟩ ⟨Nat.zero_le _, Nat.zero_le _⟩ (Nat.le_of_ble_eq_true rfl) dX9_slice_54 (fun r_54 σ h_54 => ?_)
            subst h_54
            refine zv_if_le (tgt := 89) G dX9_slice_57 (by decide) (fun c_57 => ?_) (fun c_57 => ?_)
            · obtain ⟨x_89, e_89⟩ : ∃ y : Int32, y = y5_38 + 1 := ⟨_, rfl⟩
              refine zv_iinc (j := 4) (v := x_89) (lv' := [(5, za_I x_89), (0, za_O 0 0), (2, za_I a2), (3, za_O 2 w_21), (4, za_I y4_38)]) G dX9_slice_89 rfl (by rw [e_89]; rfl) (by decide) rfl ?_
              refine zv_goto (tgt := 38) G dX9_slice_92 (by decide) ?_
              refine zv_sub [1, 2, 3, 4, 0] (lv' := [(0, za_O 0 0), (2, za_I a2), (3, za_O 2 w_21), (4, za_I y4_38), (5, za_I x_89)]) rfl ?_
              exact ih_38 y4_38 x_89 σ hz (z_meas c_44 e_89 hn_38)
            · refine zv_iload (j := 3) G dX9_slice_60 rfl ?_
              refine zv_iconst (v := 1) G dX9_slice_62 (by decide) ?_
              refine zv_aload_n (j := 2) G dX9_slice_63 rfl rfl ?_
              refine zv_iload (j := 4) G dX9_slice_64 rfl ?_
              refine zv_iconst (v := 0) G dX9_slice_66 (by decide) ?_
              refine zv_callVNi (as := [za_I y5_38, za_I 0]) G (by decide) rfl rfl (zc_X6_cell l E w_21 y5_38 (0 : Int32) σ ) zk_X6_cell zm_592 rfl ⟨(Nat.le_of_ble_eq_true rfl), (Nat.le_of_ble_eq_true rfl)⟩ ⟨Nat.zero_le _, Nat.zero_le _⟩ (Nat.le_of_ble_eq_true rfl) dX9_slice_67 (fun r_67 σ h_67 => ?_)
              subst h_67
              refine zv_ishl G dX9_slice_70 ?_
              refine zv_ior G dX9_slice_71 ?_
              refine zv_top (fun x_72 e_72 => ?_)
              refine zv_istore (lv' := [(4, za_I x_72), (0, za_O 0 0), (2, za_I a2), (3, za_O 2 w_21), (5, za_I y5_38)]) G dX9_slice_72 (by decide) rfl ?_
              refine zv_aload_n (j := 1) G dX9_slice_74 rfl rfl ?_
              refine zg_X9_40 G dX9_slice_75 ?_
              refine zv_aload_n (j := 3) G dX9_slice_78 rfl rfl ?_
              refine zv_iload (j := 4) G dX9_slice_79 rfl ?_
              refine zv_iconst (v := 1) G dX9_slice_81 (by decide) ?_
              refine zv_callVNi (as := [za_I y5_38, za_I 1]) G (by decide) rfl rfl (zc_X6_cell l E w_21 y5_38 (1 : Int32) σ ) zk_X6_cell zm_592 rfl ⟨(Nat.le_of_ble_eq_true rfl), (Nat.le_of_ble_eq_true rfl)⟩ ⟨Nat.zero_le _, Nat.zero_le _⟩ (Nat.le_of_ble_eq_true rfl) dX9_slice_82 (fun r_82 σ h_82 => ?_)
              subst h_82
              refine zv_i2l G dX9_slice_85 ?_
              refine zv_callVNv (as := [za_L r_82.toInt64]) G (by decide) rfl rfl (zc_X8_add l E r_82.toInt64 σ ) zk_X8_add zm_778 rfl ⟨(Nat.le_of_ble_eq_true rfl), (Nat.le_of_ble_eq_true rfl)⟩ ⟨Nat.zero_le _, Nat.zero_le _⟩ (Nat.le_of_ble_eq_true rfl) dX9_slice_86 (fun σ h_86 => ?_)
              have hz9 := h_86
              have hz := zc_t hz hz9
              obtain ⟨x_89, e_89⟩ : ∃ y : Int32, y = y5_38 + 1 := ⟨_, rfl⟩
              refine zv_iinc (j := 4) (v := x_89) (lv' := [(5, za_I x_89), (4, za_I x_72), (0, za_O 0 0), (2, za_I a2), (3, za_O 2 w_21)]) G dX9_slice_89 rfl (by rw [e_89]; rfl) (by decide) rfl ?_
              refine zv_goto (tgt := 38) G dX9_slice_92 (by decide) ?_
              refine zv_sub [2, 3, 4, 1, 0] (lv' := [(0, za_O 0 0), (2, za_I a2), (3, za_O 2 w_21), (4, za_I x_72), (5, za_I x_89)]) rfl ?_
              exact ih_38 x_72 x_89 σ hz (z_meas c_44 e_89 hn_38)
      refine zv_istore (lv' := [(5, za_I 0), (4, za_I 0), (3, za_O 2 w_21), (0, za_O 0 0), (1, za_I a1), (2, za_I a2)]) G dX9_slice_36 (by decide) rfl ?_
      refine zv_sub [3, 5, 2, 1, 0] (lv' := [(0, za_O 0 0), (2, za_I a2), (3, za_O 2 w_21), (4, za_I 0), (5, za_I 0)]) rfl ?_
      exact J_38 _ (0 : Int32) (0 : Int32) σ hz (Nat.lt_succ_self _)
    · refine zv_iconst (v := (-1)) G dX9_slice_14 (by decide) ?_
      exact zv_iret G hr dX9_slice_15 hz
set_option maxHeartbeats 4000000 in
set_option maxRecDepth 100000 in
theorem zc_X6_firstBareDay (l : Launch) (E : za_E) (w : Nat) (a1 : Int32) (a2 : Int32) (σ : za_S)  : zMi l E yX6_firstBareDay cX6_firstBareDay 5 (Option.some Jvm.ClassFile.FieldType.int) 5 111 [za_O 2 w, za_I a1, za_I a2] σ (fun r σ' => σ' = σ) := by
  refine zMi_of [(0, za_O 2 w), (1, za_I a1), (2, za_I a2)] (by decide) rfl rfl (Nat.le_of_ble_eq_true rfl) ?_
  intro ho p e s m args below meth c G hr
  have h_w : za_kd w = 2 := za_okO (by decide) (List.forall_mem_cons.mp ho).1
  refine zv_iload_n (j := 2) G dX6_firstBareDay_0 rfl rfl ?_
  refine zv_istore_n (lv' := [(3, za_I a2), (0, za_O 2 w), (1, za_I a1), (2, za_I a2)]) G dX6_firstBareDay_1 rfl (by decide) rfl ?_
  refine zv_iconst (v := 0) G dX6_firstBareDay_2 (by decide) ?_
  have J_5 : ∀ (n : Nat) (y3_5 : Int32) (y4_5 : Int32) (hn_5 : (2147483648 - y4_5.toInt).toNat < n), zV p l e (zRm 5 111) s m args below meth c E (za_A E) 5 0 0 (MQ below (va_Qi (fun r σ' => σ' = σ) (zB E) (za_A E)) args s 0 0 (za_A E)) 5 [(0, za_O 2 w), (1, za_I a1), (3, za_I y3_5), (4, za_I y4_5)] [] σ := by
    intro n
    induction n with
    | zero => intro y3_5 y4_5 hn; exact absurd hn (Nat.not_lt_zero _)
    | succ n ih_5 =>
      intro y3_5 y4_5 hn_5
      refine zv_iload (j := 3) G dX6_firstBareDay_5 rfl ?_
      refine zv_aload_n (j := 0) G dX6_firstBareDay_7 rfl rfl ?_
      refine zg_X6_15 G dX6_firstBareDay_8 ?_
      refine zv_icmp_ge (tgt := 42) G dX6_firstBareDay_11 (by decide) (fun c_11 => ?_) (fun c_11 => ?_)
      · refine zv_iload_n (j := 2) G dX6_firstBareDay_42 rfl rfl ?_
        exact zv_iret G hr dX6_firstBareDay_43 rfl
      · refine zv_aload_n (j := 0) G dX6_firstBareDay_14 rfl rfl ?_
        refine zv_iload (j := 3) G dX6_firstBareDay_15 rfl ?_
        refine zv_iload_n (j := 1) G dX6_firstBareDay_17 rfl rfl ?_
        refine zv_iload_n (j := 2) G dX6_firstBareDay_18 rfl rfl ?_
        refine zv_iload_n (j := 2) G dX6_firstBareDay_19 rfl rfl ?_
        refine zv_iconst (v := 1) G dX6_firstBareDay_20 (by decide) ?_
        refine zv_iadd G dX6_firstBareDay_21 ?_
        refine zv_callVi (as := [za_I y4_5, za_I a1, za_I y3_5, za_I (y3_5 + 1)]) G (by decide) rfl rfl (zc_X6_touches l E w y4_5 a1 y3_5 (y3_5 + 1) σ ) zk_X6_touches zm_461 rfl ⟨(Nat.le_of_ble_eq_true rfl), (Nat.le_of_ble_eq_true rfl)⟩ ⟨Nat.zero_le _, Nat.zero_le _⟩ (Nat.le_of_ble_eq_true rfl) dX6_firstBareDay_22 (fun r_22 σ h_22 => ?_)
        obtain ⟨h_22, rfl⟩ := h_22
        refine zv_if_eq (tgt := 36) G dX6_firstBareDay_25 (by decide) (fun c_25 => ?_) (fun c_25 => ?_)
        · obtain ⟨x_36, e_36⟩ : ∃ y : Int32, y = y4_5 + 1 := ⟨_, rfl⟩
          refine zv_iinc (j := 3) (v := x_36) (lv' := [(4, za_I x_36), (0, za_O 2 w), (1, za_I a1), (3, za_I y3_5)]) G dX6_firstBareDay_36 rfl (by rw [e_36]; rfl) (by decide) rfl ?_
          refine zv_goto (tgt := 5) G dX6_firstBareDay_39 (by decide) ?_
          refine zv_sub [1, 2, 3, 0] (lv' := [(0, za_O 2 w), (1, za_I a1), (3, za_I y3_5), (4, za_I x_36)]) rfl ?_
          exact ih_5 y3_5 x_36 (z_meas c_11 e_36 hn_5)
        · refine zv_aload_n (j := 0) G dX6_firstBareDay_28 rfl rfl ?_
          refine zv_iload (j := 3) G dX6_firstBareDay_29 rfl ?_
          refine zv_iconst (v := 3) G dX6_firstBareDay_31 (by decide) ?_
          refine zv_callVi (as := [za_I y4_5, za_I 3]) G (by decide) rfl rfl (zc_X6_cell l E w y4_5 (3 : Int32) σ ) zk_X6_cell zm_465 rfl ⟨(Nat.le_of_ble_eq_true rfl), (Nat.le_of_ble_eq_true rfl)⟩ ⟨Nat.zero_le _, Nat.zero_le _⟩ (Nat.le_of_ble_eq_true rfl) dX6_firstBareDay_32 (fun r_32 σ h_32 => ?_)
          subst h_32
          refine zv_istore_n (lv' := [(3, za_I r_32), (0, za_O 2 w), (1, za_I a1), (4, za_I y4_5)]) G dX6_firstBareDay_35 rfl (by decide) rfl ?_
          obtain ⟨x_36, e_36⟩ : ∃ y : Int32, y = y4_5 + 1 := ⟨_, rfl⟩
          refine zv_iinc (j := 3) (v := x_36) (lv' := [(4, za_I x_36), (3, za_I r_32), (0, za_O 2 w), (1, za_I a1)]) G dX6_firstBareDay_36 rfl (by rw [e_36]; rfl) (by decide) rfl ?_
          refine zv_goto (tgt := 5) G dX6_firstBareDay_39 (by decide) ?_
          refine zv_sub [2, 3, 1, 0] (lv' := [(0, za_O 2 w), (1, za_I a1), (3, za_I r_32), (4, za_I x_36)]) rfl ?_
          exact ih_5 r_32 x_36 (z_meas c_11 e_36 hn_5)
  refine zv_istore (lv' := [(4, za_I 0), (3, za_I a2), (0, za_O 2 w), (1, za_I a1), (2, za_I a2)]) G dX6_firstBareDay_3 (by decide) rfl ?_
  refine zv_sub [2, 3, 1, 0] (lv' := [(0, za_O 2 w), (1, za_I a1), (3, za_I a2), (4, za_I 0)]) rfl ?_
  exact J_5 _ a2 (0 : Int32) (Nat.lt_succ_self _)
set_option maxHeartbeats 4000000 in
set_option maxRecDepth 100000 in
theorem zc_X6_nextFrom (l : Launch) (E : za_E) (w : Nat) (a1 : Int32) (a2 : Int32) (σ : za_S)  : zMi l E yX6_nextFrom cX6_nextFrom 5 (Option.some Jvm.ClassFile.FieldType.int) 3 64 [za_O 2 w, za_I a1, za_I a2] σ (fun r σ' => σ' = σ) := by
  refine zMi_of [(0, za_O 2 w), (1, za_I a1), (2, za_I a2)] (by decide) rfl rfl (Nat.le_of_ble_eq_true rfl) ?_
  intro ho p e s m args below meth c G hr
  have h_w : za_kd w = 2 := za_okO (by decide) (List.forall_mem_cons.mp ho).1
  refine zv_bipush (v := 100) G dX6_nextFrom_0 (by decide) ?_
  refine zv_istore_n (lv' := [(3, za_I 100), (0, za_O 2 w), (1, za_I a1), (2, za_I a2)]) G dX6_nextFrom_2 rfl (by decide) rfl ?_
  refine zv_iconst (v := 0) G dX6_nextFrom_3 (by decide) ?_
  have J_6 : ∀ (n : Nat) (y3_6 : Int32) (y4_6 : Int32) (hn_6 : (2147483648 - y4_6.toInt).toNat < n), zV p l e (zRm 3 64) s m args below meth c E (za_A E) 5 0 0 (MQ below (va_Qi (fun r σ' => σ' = σ) (zB E) (za_A E)) args s 0 0 (za_A E)) 6 [(0, za_O 2 w), (1, za_I a1), (2, za_I a2), (3, za_I y3_6), (4, za_I y4_6)] [] σ := by
    intro n
    induction n with
    | zero => intro y3_6 y4_6 hn; exact absurd hn (Nat.not_lt_zero _)
    | succ n ih_6 =>
      intro y3_6 y4_6 hn_6
      refine zv_iload (j := 4) G dX6_nextFrom_6 rfl ?_
      refine zv_aload_n (j := 0) G dX6_nextFrom_8 rfl rfl ?_
      refine zg_X6_15 G dX6_nextFrom_9 ?_
      refine zv_icmp_ge (tgt := 55) G dX6_nextFrom_12 (by decide) (fun c_12 => ?_) (fun c_12 => ?_)
      · refine zv_iload_n (j := 3) G dX6_nextFrom_55 rfl rfl ?_
        exact zv_iret G hr dX6_nextFrom_56 rfl
      · refine zv_aload_n (j := 0) G dX6_nextFrom_15 rfl rfl ?_
        refine zv_iload (j := 4) G dX6_nextFrom_16 rfl ?_
        refine zv_iconst (v := 0) G dX6_nextFrom_18 (by decide) ?_
        refine zv_callVi (as := [za_I y4_6, za_I 0]) G (by decide) rfl rfl (zc_X6_cell l E w y4_6 (0 : Int32) σ ) zk_X6_cell zm_465 rfl ⟨(Nat.le_of_ble_eq_true rfl), (Nat.le_of_ble_eq_true rfl)⟩ ⟨Nat.zero_le _, Nat.zero_le _⟩ (Nat.le_of_ble_eq_true rfl) dX6_nextFrom_19 (fun r_19 σ h_19 => ?_)
        subst h_19
        refine zv_iload_n (j := 1) G dX6_nextFrom_22 rfl rfl ?_
        refine zv_icmp_ne (tgt := 49) G dX6_nextFrom_23 (by decide) (fun c_23 => ?_) (fun c_23 => ?_)
        · obtain ⟨x_49, e_49⟩ : ∃ y : Int32, y = y4_6 + 1 := ⟨_, rfl⟩
          refine zv_iinc (j := 4) (v := x_49) (lv' := [(4, za_I x_49), (0, za_O 2 w), (1, za_I a1), (2, za_I a2), (3, za_I y3_6)]) G dX6_nextFrom_49 rfl (by rw [e_49]; rfl) (by decide) rfl ?_
          refine zv_goto (tgt := 6) G dX6_nextFrom_52 (by decide) ?_
          refine zv_sub [1, 2, 3, 4, 0] (lv' := [(0, za_O 2 w), (1, za_I a1), (2, za_I a2), (3, za_I y3_6), (4, za_I x_49)]) rfl ?_
          exact ih_6 y3_6 x_49 (z_meas c_12 e_49 hn_6)
        · refine zv_aload_n (j := 0) G dX6_nextFrom_26 rfl rfl ?_
          refine zv_iload (j := 4) G dX6_nextFrom_27 rfl ?_
          refine zv_iconst (v := 2) G dX6_nextFrom_29 (by decide) ?_
          refine zv_callVi (as := [za_I y4_6, za_I 2]) G (by decide) rfl rfl (zc_X6_cell l E w y4_6 (2 : Int32) σ ) zk_X6_cell zm_465 rfl ⟨(Nat.le_of_ble_eq_true rfl), (Nat.le_of_ble_eq_true rfl)⟩ ⟨Nat.zero_le _, Nat.zero_le _⟩ (Nat.le_of_ble_eq_true rfl) dX6_nextFrom_30 (fun r_30 σ h_30 => ?_)
          subst h_30
          refine zv_iload_n (j := 2) G dX6_nextFrom_33 rfl rfl ?_
          refine zv_icmp_le (tgt := 49) G dX6_nextFrom_34 (by decide) (fun c_34 => ?_) (fun c_34 => ?_)
          · obtain ⟨x_49, e_49⟩ : ∃ y : Int32, y = y4_6 + 1 := ⟨_, rfl⟩
            refine zv_iinc (j := 4) (v := x_49) (lv' := [(4, za_I x_49), (0, za_O 2 w), (1, za_I a1), (2, za_I a2), (3, za_I y3_6)]) G dX6_nextFrom_49 rfl (by rw [e_49]; rfl) (by decide) rfl ?_
            refine zv_goto (tgt := 6) G dX6_nextFrom_52 (by decide) ?_
            refine zv_sub [1, 2, 3, 4, 0] (lv' := [(0, za_O 2 w), (1, za_I a1), (2, za_I a2), (3, za_I y3_6), (4, za_I x_49)]) rfl ?_
            exact ih_6 y3_6 x_49 (z_meas c_12 e_49 hn_6)
          · refine zv_iload_n (j := 3) G dX6_nextFrom_37 rfl rfl ?_
            refine zv_aload_n (j := 0) G dX6_nextFrom_38 rfl rfl ?_
            refine zv_iload (j := 4) G dX6_nextFrom_39 rfl ?_
            refine zv_iconst (v := 2) G dX6_nextFrom_41 (by decide) ?_
            refine zv_callVi (as := [za_I y4_6, za_I 2]) G (by decide) rfl rfl (zc_X6_cell l E w y4_6 (2 : Int32) σ ) zk_X6_cell zm_465 rfl ⟨(Nat.le_of_ble_eq_true rfl), (Nat.le_of_ble_eq_true rfl)⟩ ⟨Nat.zero_le _, Nat.zero_le _⟩ (Nat.le_of_ble_eq_true rfl) dX6_nextFrom_42 (fun r_42 σ h_42 => ?_)
            subst h_42
            refine zv_mmin G zm_473 zm_392 zm_147 zm_393 (Nat.le_of_ble_eq_true rfl) (Nat.le_of_ble_eq_true rfl) (Nat.zero_le _) (Nat.zero_le _) dX6_nextFrom_45 ?_
            refine zv_top (fun x_45 e_45 => ?_)
            refine zv_istore_n (lv' := [(3, za_I x_45), (0, za_O 2 w), (1, za_I a1), (2, za_I a2), (4, za_I y4_6)]) G dX6_nextFrom_48 rfl (by decide) rfl ?_
            obtain ⟨x_49, e_49⟩ : ∃ y : Int32, y = y4_6 + 1 := ⟨_, rfl⟩
            refine zv_iinc (j := 4) (v := x_49) (lv' := [(4, za_I x_49), (3, za_I x_45), (0, za_O 2 w), (1, za_I a1), (2, za_I a2)]) G dX6_nextFrom_49 rfl (by rw [e_49]; rfl) (by decide) rfl ?_
            refine zv_goto (tgt := 6) G dX6_nextFrom_52 (by decide) ?_
            refine zv_sub [2, 3, 4, 1, 0] (lv' := [(0, za_O 2 w), (1, za_I a1), (2, za_I a2), (3, za_I x_45), (4, za_I x_49)]) rfl ?_
            exact ih_6 x_45 x_49 (z_meas c_12 e_49 hn_6)
  refine zv_istore (lv' := [(4, za_I 0), (3, za_I 100), (0, za_O 2 w), (1, za_I a1), (2, za_I a2)]) G dX6_nextFrom_4 (by decide) rfl ?_
  refine zv_sub [2, 3, 4, 1, 0] (lv' := [(0, za_O 2 w), (1, za_I a1), (2, za_I a2), (3, za_I 100), (4, za_I 0)]) rfl ?_
  exact J_6 _ (100 : Int32) (0 : Int32) (Nat.lt_succ_self _)
set_option maxHeartbeats 4000000 in
set_option maxRecDepth 100000 in
theorem zc_X9_gaps (l : Launch) (E : za_E) (a1 : Int32) (a2 : Int32) (a3 : Int32) (a4 : Int32) (σ0 : za_S)  : zMi l E yX9_gaps cX9_gaps 8 (Option.some Jvm.ClassFile.FieldType.int) 6 135 [za_O 0 0, za_I a1, za_I a2, za_I a3, za_I a4] σ0 (fun r σ' => zc σ0 σ') := by
  refine zMi_of [(0, za_O 0 0), (1, za_I a1), (2, za_I a2), (3, za_I a3), (4, za_I a4)] (by decide) rfl rfl (Nat.le_of_ble_eq_true rfl) ?_
  intro ho p e s m args below meth c G hr
  refine zv_gen (R9 := zc σ0) (zc_r σ0) (fun σ hz => ?_)
  refine zv_iload_n (j := 1) G dX9_gaps_0 rfl rfl ?_
  refine zv_iload_n (j := 2) G dX9_gaps_1 rfl rfl ?_
  refine zv_iload_n (j := 3) G dX9_gaps_2 rfl rfl ?_
  refine zv_iload (j := 4) G dX9_gaps_3 rfl ?_
  refine zv_callSi (as := [za_I a1, za_I a2, za_I a3, za_I a4]) G (zc_X9_isPortion l E a1 a2 a3 a4 σ ) zk_X9_isPortion zm_435 rfl ⟨(Nat.le_of_ble_eq_true rfl), (Nat.le_of_ble_eq_true rfl)⟩ ⟨Nat.zero_le _, Nat.zero_le _⟩ (Nat.le_of_ble_eq_true rfl) dX9_gaps_5 (fun r_5 σ h_5 => ?_)
  obtain ⟨h_5, rfl⟩ := h_5
  refine zv_if_ne (tgt := 13) G dX9_gaps_8 (by decide) (fun c_8 => ?_) (fun c_8 => ?_)
  · refine zv_aload_n (j := 0) G dX9_gaps_13 rfl rfl ?_
    refine zg_X9_10 G dX9_gaps_14 ?_
    refine zv_iload_n (j := 1) G dX9_gaps_17 rfl rfl ?_
    refine zv_callVNr (as := [za_I a1]) G (by decide) rfl rfl (zc_X4_table l E 1 a1 σ ) zk_X4_table zm_453 rfl ⟨(Nat.le_of_ble_eq_true rfl), (Nat.le_of_ble_eq_true rfl)⟩ ⟨Nat.zero_le _, Nat.zero_le _⟩ (Nat.le_of_ble_eq_true rfl) dX9_gaps_18 (fun r_18 σ h_18 => ?_)
    obtain ⟨w_18, rfl, h_w_18, t_18, rfl⟩ := h_18
    refine zv_astore (lv' := [(5, za_O 2 w_18), (0, za_O 0 0), (1, za_I a1), (2, za_I a2), (3, za_I a3), (4, za_I a4)]) G dX9_gaps_21 (by decide) rfl ?_
    refine zv_iload (j := 5) G dX9_gaps_23 rfl ?_
    refine zv_iload_n (j := 4) G dX9_gaps_25 rfl rfl ?_
    refine zv_isub G dX9_gaps_26 ?_
    refine zv_aload (j := 0) G dX9_gaps_27 rfl ?_
    refine zv_iload_n (j := 3) G dX9_gaps_29 rfl rfl ?_
    refine zv_iload_n (j := 4) G dX9_gaps_30 rfl rfl ?_
    refine zv_iload (j := 5) G dX9_gaps_31 rfl ?_
    refine zv_callVNi (as := [za_I a2, za_I a3, za_I a4]) G (by decide) rfl rfl (zc_X6_daysWithin l E w_18 a2 a3 a4 σ ) zk_X6_daysWithin zm_568 rfl ⟨(Nat.le_of_ble_eq_true rfl), (Nat.le_of_ble_eq_true rfl)⟩ ⟨Nat.zero_le _, Nat.zero_le _⟩ (Nat.le_of_ble_eq_true rfl) dX9_gaps_33 (fun r_33 σ h_33 => ?_)
    subst h_33
    refine zv_isub G dX9_gaps_36 ?_
    refine zv_top (fun x_37 e_37 => ?_)
    refine zv_istore (lv' := [(6, za_I x_37), (5, za_O 2 w_18), (0, za_O 0 0), (1, za_I a1), (2, za_I a2), (3, za_I a3), (4, za_I a4)]) G dX9_gaps_37 (by decide) rfl ?_
    refine zv_aload_n (j := 2) G dX9_gaps_39 rfl rfl ?_
    refine zg_X9_40 G dX9_gaps_40 ?_
    refine zv_callVNv (as := []) G (by decide) rfl rfl (zc_X8_clear l E  σ ) zk_X8_clear zm_776 rfl ⟨(Nat.le_of_ble_eq_true rfl), (Nat.le_of_ble_eq_true rfl)⟩ ⟨Nat.zero_le _, Nat.zero_le _⟩ (Nat.le_of_ble_eq_true rfl) dX9_gaps_43 (fun σ h_43 => ?_)
    have hz9 := h_43
    have hz := zc_t hz hz9
    refine zv_iload (j := 0) G dX9_gaps_46 rfl ?_
    refine zv_if_le (tgt := 91) G dX9_gaps_48 (by decide) (fun c_48 => ?_) (fun c_48 => ?_)
    · refine zv_iload (j := 0) G dX9_gaps_91 rfl ?_
      exact zv_iret G hr dX9_gaps_93 hz
    · refine zv_aload (j := 1) G dX9_gaps_51 rfl ?_
      refine zv_iload_n (j := 4) G dX9_gaps_53 rfl rfl ?_
      refine zv_iload_n (j := 5) G dX9_gaps_54 rfl rfl ?_
      refine zv_callVNi (as := [za_I a2, za_I a3]) G (by decide) rfl rfl (zc_X6_firstBareDay l E w_18 a2 a3 σ ) zk_X6_firstBareDay zm_783 rfl ⟨(Nat.le_of_ble_eq_true rfl), (Nat.le_of_ble_eq_true rfl)⟩ ⟨Nat.zero_le _, Nat.zero_le _⟩ (Nat.le_of_ble_eq_true rfl) dX9_gaps_55 (fun r_55 σ h_55 => ?_)
      subst h_55
      refine zv_istore (lv' := [(7, za_I r_55), (6, za_I x_37), (5, za_O 2 w_18), (0, za_O 0 0), (1, za_I a1), (2, za_I a2), (3, za_I a3), (4, za_I a4)]) G dX9_gaps_58 (by decide) rfl ?_
      refine zv_aload_n (j := 3) G dX9_gaps_60 rfl rfl ?_
      refine zg_X9_40 G dX9_gaps_61 ?_
      refine zv_iload (j := 0) G dX9_gaps_64 rfl ?_
      refine zv_i2l G dX9_gaps_66 ?_
      refine zv_callVNv (as := [za_L r_55.toInt64]) G (by decide) rfl rfl (zc_X8_add l E r_55.toInt64 σ ) zk_X8_add zm_778 rfl ⟨(Nat.le_of_ble_eq_true rfl), (Nat.le_of_ble_eq_true rfl)⟩ ⟨Nat.zero_le _, Nat.zero_le _⟩ (Nat.le_of_ble_eq_true rfl) dX9_gaps_67 (fun σ h_67 => ?_)
      have hz9 := h_67
      have hz := zc_t hz hz9
      refine zv_aload_n (j := 3) G dX9_gaps_70 rfl rfl ?_
      refine zg_X9_40 G dX9_gaps_71 ?_
      refine zv_iload (j := 7) G dX9_gaps_74 rfl ?_
      refine zv_aload (j := 2) G dX9_gaps_76 rfl ?_
      refine zv_iload_n (j := 5) G dX9_gaps_78 rfl rfl ?_
      refine zv_iload (j := 0) G dX9_gaps_79 rfl ?_
      refine zv_callVNi (as := [za_I a2, za_I r_55]) G (by decide) rfl rfl (zc_X6_nextFrom l E w_18 a2 r_55 σ ) zk_X6_nextFrom zm_787 rfl ⟨(Nat.le_of_ble_eq_true rfl), (Nat.le_of_ble_eq_true rfl)⟩ ⟨Nat.zero_le _, Nat.zero_le _⟩ (Nat.le_of_ble_eq_true rfl) dX9_gaps_81 (fun r_81 σ h_81 => ?_)
      subst h_81
      refine zv_mmin G zm_391 zm_392 zm_147 zm_393 (Nat.le_of_ble_eq_true rfl) (Nat.le_of_ble_eq_true rfl) (Nat.zero_le _) (Nat.zero_le _) dX9_gaps_84 ?_
      refine zv_top (fun x_84 e_84 => ?_)
      refine zv_i2l G dX9_gaps_87 ?_
      refine zv_callVNv (as := [za_L x_84.toInt64]) G (by decide) rfl rfl (zc_X8_add l E x_84.toInt64 σ ) zk_X8_add zm_778 rfl ⟨(Nat.le_of_ble_eq_true rfl), (Nat.le_of_ble_eq_true rfl)⟩ ⟨Nat.zero_le _, Nat.zero_le _⟩ (Nat.le_of_ble_eq_true rfl) dX9_gaps_88 (fun σ h_88 => ?_)
      have hz9 := h_88
      have hz := zc_t hz hz9
      refine zv_iload (j := 1) G dX9_gaps_91 rfl ?_
      exact zv_iret G hr dX9_gaps_93 hz
  · refine zv_iconst (v := (-1)) G dX9_gaps_11 (by decide) ?_
    exact zv_iret G hr dX9_gaps_12 hz
set_option maxHeartbeats 4000000 in
set_option maxRecDepth 100000 in
theorem zc_X9_covers (l : Launch) (E : za_E) (a1 : Int32) (a2 : Int32) (a3 : Int32) (σ0 : za_S)  : zMi l E yX9_covers cX9_covers 4 (Option.some Jvm.ClassFile.FieldType.int) 6 136 [za_O 0 0, za_I a1, za_I a2, za_I a3] σ0 (fun r σ' => zc σ0 σ') := by
  refine zMi_of [(0, za_O 0 0), (1, za_I a1), (2, za_I a2), (3, za_I a3)] (by decide) rfl rfl (Nat.le_of_ble_eq_true rfl) ?_
  intro ho p e s m args below meth c G hr
  refine zv_gen (R9 := zc σ0) (zc_r σ0) (fun σ hz => ?_)
  refine zv_iconst (v := 1) G dX9_covers_0 (by decide) ?_
  refine zv_iload_n (j := 1) G dX9_covers_1 rfl rfl ?_
  refine zv_iload_n (j := 2) G dX9_covers_2 rfl rfl ?_
  refine zv_iload_n (j := 3) G dX9_covers_3 rfl rfl ?_
  refine zv_callSi (as := [za_I 1, za_I a1, za_I a2, za_I a3]) G (zc_X9_isPortion l E (1 : Int32) a1 a2 a3 σ ) zk_X9_isPortion zm_435 rfl ⟨(Nat.le_of_ble_eq_true rfl), (Nat.le_of_ble_eq_true rfl)⟩ ⟨Nat.zero_le _, Nat.zero_le _⟩ (Nat.le_of_ble_eq_true rfl) dX9_covers_4 (fun r_4 σ h_4 => ?_)
  obtain ⟨h_4, rfl⟩ := h_4
  refine zv_if_ne (tgt := 12) G dX9_covers_7 (by decide) (fun c_7 => ?_) (fun c_7 => ?_)
  · refine zv_aload_n (j := 0) G dX9_covers_12 rfl rfl ?_
    refine zg_X9_40 G dX9_covers_13 ?_
    refine zv_aload_n (j := 0) G dX9_covers_16 rfl rfl ?_
    refine zg_X9_10 G dX9_covers_17 ?_
    refine zg_X9_179 G dX9_covers_20 ?_
    refine zv_iload_n (j := 1) G dX9_covers_23 rfl rfl ?_
    refine zv_iload_n (j := 2) G dX9_covers_24 rfl rfl ?_
    refine zv_iload_n (j := 3) G dX9_covers_25 rfl rfl ?_
    refine zv_callVNi (as := [za_I a1, za_I a2, za_I a3]) G (by decide) rfl rfl (zc_X6_touching l E 4 a1 a2 a3 σ ) zk_X6_touching zm_457 rfl ⟨(Nat.le_of_ble_eq_true rfl), (Nat.le_of_ble_eq_true rfl)⟩ ⟨Nat.zero_le _, Nat.zero_le _⟩ (Nat.le_of_ble_eq_true rfl) dX9_covers_26 (fun r_26 σ h_26 => ?_)
    subst h_26
    refine zv_i2l G dX9_covers_29 ?_
    refine zv_callVNv (as := [za_L r_26.toInt64]) G (by decide) rfl rfl (zc_X8_tell l E r_26.toInt64 σ ) zk_X8_tell zm_527 rfl ⟨(Nat.le_of_ble_eq_true rfl), (Nat.le_of_ble_eq_true rfl)⟩ ⟨Nat.zero_le _, Nat.zero_le _⟩ (Nat.le_of_ble_eq_true rfl) dX9_covers_30 (fun σ h_30 => ?_)
    have hz9 := h_30
    have hz := zc_t hz hz9
    refine zv_aload_n (j := 0) G dX9_covers_33 rfl rfl ?_
    refine zg_X9_10 G dX9_covers_34 ?_
    refine zg_X9_179 G dX9_covers_37 ?_
    refine zv_iload_n (j := 1) G dX9_covers_40 rfl rfl ?_
    refine zv_iload_n (j := 2) G dX9_covers_41 rfl rfl ?_
    refine zv_iload_n (j := 3) G dX9_covers_42 rfl rfl ?_
    refine zv_callVNi (as := [za_I a1, za_I a2, za_I a3]) G (by decide) rfl rfl (zc_X6_daysWithin l E 4 a1 a2 a3 σ ) zk_X6_daysWithin zm_568 rfl ⟨(Nat.le_of_ble_eq_true rfl), (Nat.le_of_ble_eq_true rfl)⟩ ⟨Nat.zero_le _, Nat.zero_le _⟩ (Nat.le_of_ble_eq_true rfl) dX9_covers_43 (fun r_43 σ h_43 => ?_)
    subst h_43
    refine zv_iload_n (j := 3) G dX9_covers_46 rfl rfl ?_
    refine zv_iload_n (j := 2) G dX9_covers_47 rfl rfl ?_
    refine zv_isub G dX9_covers_48 ?_
    refine zv_icmp_ne (tgt := 56) G dX9_covers_49 (by decide) (fun c_49 => ?_) (fun c_49 => ?_)
    · refine zv_iconst (v := 0) G dX9_covers_56 (by decide) ?_
      exact zv_iret G hr dX9_covers_57 hz
    · refine zv_iconst (v := 1) G dX9_covers_52 (by decide) ?_
      refine zv_goto (tgt := 57) G dX9_covers_53 (by decide) ?_
      exact zv_iret G hr dX9_covers_57 hz
  · refine zv_iconst (v := (-1)) G dX9_covers_10 (by decide) ?_
    exact zv_iret G hr dX9_covers_11 hz
set_option maxHeartbeats 4000000 in
set_option maxRecDepth 100000 in
theorem zc_X9_positionOf (l : Launch) (E : za_E) (a1 : Int32) (a2 : Int32) (a3 : Int32) (a4 : Int32) (σ : za_S)  : zMi l E yX9_positionOf cX9_positionOf 4 (Option.some Jvm.ClassFile.FieldType.int) 1 21 [za_I a1, za_I a2, za_I a3, za_I a4] σ (fun r σ' => σ' = σ) := by
  refine zMi_of [(0, za_I a1), (1, za_I a2), (2, za_I a3), (3, za_I a4)] (by decide) rfl rfl (Nat.le_of_ble_eq_true rfl) ?_
  intro ho p e s m args below meth c G hr
  refine zv_iload_n (j := 1) G dX9_positionOf_0 rfl rfl ?_
  refine zv_iload_n (j := 2) G dX9_positionOf_1 rfl rfl ?_
  refine zv_icmp_gt (tgt := 16) G dX9_positionOf_2 (by decide) (fun c_2 => ?_) (fun c_2 => ?_)
  · refine zv_iload_n (j := 3) G dX9_positionOf_16 rfl rfl ?_
    refine zv_iload_n (j := 0) G dX9_positionOf_17 rfl rfl ?_
    refine zv_icmp_gt (tgt := 34) G dX9_positionOf_18 (by decide) (fun c_18 => ?_) (fun c_18 => ?_)
    · refine zv_iload_n (j := 0) G dX9_positionOf_34 rfl rfl ?_
      refine zv_iload_n (j := 2) G dX9_positionOf_35 rfl rfl ?_
      refine zv_icmp_ge (tgt := 61) G dX9_positionOf_36 (by decide) (fun c_36 => ?_) (fun c_36 => ?_)
      · refine zv_iload_n (j := 0) G dX9_positionOf_61 rfl rfl ?_
        refine zv_iload_n (j := 2) G dX9_positionOf_62 rfl rfl ?_
        refine zv_icmp_ne (tgt := 88) G dX9_positionOf_63 (by decide) (fun c_63 => ?_) (fun c_63 => ?_)
        · refine zv_iload_n (j := 1) G dX9_positionOf_88 rfl rfl ?_
          refine zv_iload_n (j := 3) G dX9_positionOf_89 rfl rfl ?_
          refine zv_icmp_ge (tgt := 97) G dX9_positionOf_90 (by decide) (fun c_90 => ?_) (fun c_90 => ?_)
          · refine zv_iload_n (j := 1) G dX9_positionOf_97 rfl rfl ?_
            refine zv_iload_n (j := 3) G dX9_positionOf_98 rfl rfl ?_
            refine zv_icmp_ne (tgt := 106) G dX9_positionOf_99 (by decide) (fun c_99 => ?_) (fun c_99 => ?_)
            · refine zv_bipush (v := 10) G dX9_positionOf_106 (by decide) ?_
              exact zv_iret G hr dX9_positionOf_108 rfl
            · refine zv_iconst (v := 5) G dX9_positionOf_102 (by decide) ?_
              refine zv_goto (tgt := 108) G dX9_positionOf_103 (by decide) ?_
              exact zv_iret G hr dX9_positionOf_108 rfl
          · refine zv_iconst (v := 4) G dX9_positionOf_93 (by decide) ?_
            refine zv_goto (tgt := 108) G dX9_positionOf_94 (by decide) ?_
            exact zv_iret G hr dX9_positionOf_108 rfl
        · refine zv_iload_n (j := 1) G dX9_positionOf_66 rfl rfl ?_
          refine zv_iload_n (j := 3) G dX9_positionOf_67 rfl rfl ?_
          refine zv_icmp_ge (tgt := 75) G dX9_positionOf_68 (by decide) (fun c_68 => ?_) (fun c_68 => ?_)
          · refine zv_iload_n (j := 1) G dX9_positionOf_75 rfl rfl ?_
            refine zv_iload_n (j := 3) G dX9_positionOf_76 rfl rfl ?_
            refine zv_icmp_ne (tgt := 85) G dX9_positionOf_77 (by decide) (fun c_77 => ?_) (fun c_77 => ?_)
            · refine zv_bipush (v := 9) G dX9_positionOf_85 (by decide) ?_
              exact zv_iret G hr dX9_positionOf_87 rfl
            · refine zv_bipush (v := 6) G dX9_positionOf_80 (by decide) ?_
              refine zv_goto (tgt := 87) G dX9_positionOf_82 (by decide) ?_
              exact zv_iret G hr dX9_positionOf_87 rfl
          · refine zv_iconst (v := 3) G dX9_positionOf_71 (by decide) ?_
            refine zv_goto (tgt := 87) G dX9_positionOf_72 (by decide) ?_
            exact zv_iret G hr dX9_positionOf_87 rfl
      · refine zv_iload_n (j := 1) G dX9_positionOf_39 rfl rfl ?_
        refine zv_iload_n (j := 3) G dX9_positionOf_40 rfl rfl ?_
        refine zv_icmp_ge (tgt := 48) G dX9_positionOf_41 (by decide) (fun c_41 => ?_) (fun c_41 => ?_)
        · refine zv_iload_n (j := 1) G dX9_positionOf_48 rfl rfl ?_
          refine zv_iload_n (j := 3) G dX9_positionOf_49 rfl rfl ?_
          refine zv_icmp_ne (tgt := 58) G dX9_positionOf_50 (by decide) (fun c_50 => ?_) (fun c_50 => ?_)
          · refine zv_bipush (v := 8) G dX9_positionOf_58 (by decide) ?_
            exact zv_iret G hr dX9_positionOf_60 rfl
          · refine zv_bipush (v := 7) G dX9_positionOf_53 (by decide) ?_
            refine zv_goto (tgt := 60) G dX9_positionOf_55 (by decide) ?_
            exact zv_iret G hr dX9_positionOf_60 rfl
        · refine zv_iconst (v := 2) G dX9_positionOf_44 (by decide) ?_
          refine zv_goto (tgt := 60) G dX9_positionOf_45 (by decide) ?_
          exact zv_iret G hr dX9_positionOf_60 rfl
    · refine zv_iload_n (j := 3) G dX9_positionOf_21 rfl rfl ?_
      refine zv_iload_n (j := 0) G dX9_positionOf_22 rfl rfl ?_
      refine zv_icmp_ge (tgt := 31) G dX9_positionOf_23 (by decide) (fun c_23 => ?_) (fun c_23 => ?_)
      · refine zv_bipush (v := 11) G dX9_positionOf_31 (by decide) ?_
        exact zv_iret G hr dX9_positionOf_33 rfl
      · refine zv_bipush (v := 12) G dX9_positionOf_26 (by decide) ?_
        refine zv_goto (tgt := 33) G dX9_positionOf_28 (by decide) ?_
        exact zv_iret G hr dX9_positionOf_33 rfl
  · refine zv_iload_n (j := 1) G dX9_positionOf_5 rfl rfl ?_
    refine zv_iload_n (j := 2) G dX9_positionOf_6 rfl rfl ?_
    refine zv_icmp_ge (tgt := 14) G dX9_positionOf_7 (by decide) (fun c_7 => ?_) (fun c_7 => ?_)
    · refine zv_iconst (v := 1) G dX9_positionOf_14 (by decide) ?_
      exact zv_iret G hr dX9_positionOf_15 rfl
    · refine zv_iconst (v := 0) G dX9_positionOf_10 (by decide) ?_
      refine zv_goto (tgt := 15) G dX9_positionOf_11 (by decide) ?_
      exact zv_iret G hr dX9_positionOf_15 rfl
set_option maxHeartbeats 4000000 in
set_option maxRecDepth 100000 in
theorem zc_X9_lies (l : Launch) (E : za_E) (a1 : Int32) (a2 : Int32) (a3 : Int32) (a4 : Int32) (σ0 : za_S)  : zMi l E yX9_lies cX9_lies 7 (Option.some Jvm.ClassFile.FieldType.int) 4 87 [za_O 0 0, za_I a1, za_I a2, za_I a3, za_I a4] σ0 (fun r σ' => zc σ0 σ') := by
  refine zMi_of [(0, za_O 0 0), (1, za_I a1), (2, za_I a2), (3, za_I a3), (4, za_I a4)] (by decide) rfl rfl (Nat.le_of_ble_eq_true rfl) ?_
  intro ho p e s m args below meth c G hr
  refine zv_gen (R9 := zc σ0) (zc_r σ0) (fun σ hz => ?_)
  refine zv_iload_n (j := 1) G dX9_lies_0 rfl rfl ?_
  refine zv_callSi (as := [za_I a1]) G (zc_X9_isTable l E a1 σ ) zk_X9_isTable zm_438 rfl ⟨(Nat.le_of_ble_eq_true rfl), (Nat.le_of_ble_eq_true rfl)⟩ ⟨Nat.zero_le _, Nat.zero_le _⟩ (Nat.le_of_ble_eq_true rfl) dX9_lies_1 (fun r_1 σ h_1 => ?_)
  obtain ⟨h_1, rfl⟩ := h_1
  refine zv_if_eq (tgt := 45) G dX9_lies_4 (by decide) (fun c_4 => ?_) (fun c_4 => ?_)
  · refine zv_iconst (v := (-1)) G dX9_lies_45 (by decide) ?_
    exact zv_iret G hr dX9_lies_46 hz
  · refine zv_iload_n (j := 3) G dX9_lies_7 rfl rfl ?_
    refine zv_callSi (as := [za_I a3]) G (zc_X9_isTable l E a3 σ ) zk_X9_isTable zm_438 rfl ⟨(Nat.le_of_ble_eq_true rfl), (Nat.le_of_ble_eq_true rfl)⟩ ⟨Nat.zero_le _, Nat.zero_le _⟩ (Nat.le_of_ble_eq_true rfl) dX9_lies_8 (fun r_8 σ h_8 => ?_)
    obtain ⟨h_8, rfl⟩ := h_8
    refine zv_if_eq (tgt := 45) G dX9_lies_11 (by decide) (fun c_11 => ?_) (fun c_11 => ?_)
    · refine zv_iconst (v := (-1)) G dX9_lies_45 (by decide) ?_
      exact zv_iret G hr dX9_lies_46 hz
    · refine zv_aload_n (j := 0) G dX9_lies_14 rfl rfl ?_
      refine zg_X9_10 G dX9_lies_15 ?_
      refine zv_iload_n (j := 1) G dX9_lies_18 rfl rfl ?_
      refine zv_callVNr (as := [za_I a1]) G (by decide) rfl rfl (zc_X4_table l E 1 a1 σ ) zk_X4_table zm_453 rfl ⟨(Nat.le_of_ble_eq_true rfl), (Nat.le_of_ble_eq_true rfl)⟩ ⟨Nat.zero_le _, Nat.zero_le _⟩ (Nat.le_of_ble_eq_true rfl) dX9_lies_19 (fun r_19 σ h_19 => ?_)
      obtain ⟨w_19, rfl, h_w_19, t_19, rfl⟩ := h_19
      refine zv_iload_n (j := 2) G dX9_lies_22 rfl rfl ?_
      refine zv_callVNi (as := [za_I a2]) G (by decide) rfl rfl (zc_X6_has l E w_19 a2 σ ) zk_X6_has zm_799 rfl ⟨(Nat.le_of_ble_eq_true rfl), (Nat.le_of_ble_eq_true rfl)⟩ ⟨Nat.zero_le _, Nat.zero_le _⟩ (Nat.le_of_ble_eq_true rfl) dX9_lies_23 (fun r_23 σ h_23 => ?_)
      obtain ⟨h_23, rfl⟩ := h_23
      refine zv_if_eq (tgt := 45) G dX9_lies_26 (by decide) (fun c_26 => ?_) (fun c_26 => ?_)
      · refine zv_iconst (v := (-1)) G dX9_lies_45 (by decide) ?_
        exact zv_iret G hr dX9_lies_46 hz
      · refine zv_aload_n (j := 0) G dX9_lies_29 rfl rfl ?_
        refine zg_X9_10 G dX9_lies_30 ?_
        refine zv_iload_n (j := 3) G dX9_lies_33 rfl rfl ?_
        refine zv_callVNr (as := [za_I a3]) G (by decide) rfl rfl (zc_X4_table l E 1 a3 σ ) zk_X4_table zm_453 rfl ⟨(Nat.le_of_ble_eq_true rfl), (Nat.le_of_ble_eq_true rfl)⟩ ⟨Nat.zero_le _, Nat.zero_le _⟩ (Nat.le_of_ble_eq_true rfl) dX9_lies_34 (fun r_34 σ h_34 => ?_)
        obtain ⟨w_34, rfl, h_w_34, t_34, rfl⟩ := h_34
        refine zv_iload (j := 4) G dX9_lies_37 rfl ?_
        refine zv_callVNi (as := [za_I a4]) G (by decide) rfl rfl (zc_X6_has l E w_34 a4 σ ) zk_X6_has zm_799 rfl ⟨(Nat.le_of_ble_eq_true rfl), (Nat.le_of_ble_eq_true rfl)⟩ ⟨Nat.zero_le _, Nat.zero_le _⟩ (Nat.le_of_ble_eq_true rfl) dX9_lies_39 (fun r_39 σ h_39 => ?_)
        obtain ⟨h_39, rfl⟩ := h_39
        refine zv_if_ne (tgt := 47) G dX9_lies_42 (by decide) (fun c_42 => ?_) (fun c_42 => ?_)
        · refine zv_aload_n (j := 0) G dX9_lies_47 rfl rfl ?_
          refine zg_X9_10 G dX9_lies_48 ?_
          refine zv_iload_n (j := 1) G dX9_lies_51 rfl rfl ?_
          refine zv_callVNr (as := [za_I a1]) G (by decide) rfl rfl (zc_X4_table l E 1 a1 σ ) zk_X4_table zm_453 rfl ⟨(Nat.le_of_ble_eq_true rfl), (Nat.le_of_ble_eq_true rfl)⟩ ⟨Nat.zero_le _, Nat.zero_le _⟩ (Nat.le_of_ble_eq_true rfl) dX9_lies_52 (fun r_52 σ h_52 => ?_)
          obtain ⟨w_52, rfl, h_w_52, t_52, rfl⟩ := h_52
          refine zv_iload_n (j := 2) G dX9_lies_55 rfl rfl ?_
          refine zv_iconst (v := 2) G dX9_lies_56 (by decide) ?_
          refine zv_callVNi (as := [za_I a2, za_I 2]) G (by decide) rfl rfl (zc_X6_cell l E w_52 a2 (2 : Int32) σ ) zk_X6_cell zm_592 rfl ⟨(Nat.le_of_ble_eq_true rfl), (Nat.le_of_ble_eq_true rfl)⟩ ⟨Nat.zero_le _, Nat.zero_le _⟩ (Nat.le_of_ble_eq_true rfl) dX9_lies_57 (fun r_57 σ h_57 => ?_)
          subst h_57
          refine zv_istore (lv' := [(5, za_I r_57), (0, za_O 0 0), (1, za_I a1), (2, za_I a2), (3, za_I a3), (4, za_I a4)]) G dX9_lies_60 (by decide) rfl ?_
          refine zv_aload_n (j := 1) G dX9_lies_62 rfl rfl ?_
          refine zg_X9_10 G dX9_lies_63 ?_
          refine zv_iload_n (j := 2) G dX9_lies_66 rfl rfl ?_
          refine zv_callVNr (as := [za_I a1]) G (by decide) rfl rfl (zc_X4_table l E 1 a1 σ ) zk_X4_table zm_453 rfl ⟨(Nat.le_of_ble_eq_true rfl), (Nat.le_of_ble_eq_true rfl)⟩ ⟨Nat.zero_le _, Nat.zero_le _⟩ (Nat.le_of_ble_eq_true rfl) dX9_lies_67 (fun r_67 σ h_67 => ?_)
          obtain ⟨w_67, rfl, h_w_67, t_67, rfl⟩ := h_67
          refine zv_iload_n (j := 3) G dX9_lies_70 rfl rfl ?_
          refine zv_iconst (v := 3) G dX9_lies_71 (by decide) ?_
          refine zv_callVNi (as := [za_I a2, za_I 3]) G (by decide) rfl rfl (zc_X6_cell l E w_67 a2 (3 : Int32) σ ) zk_X6_cell zm_592 rfl ⟨(Nat.le_of_ble_eq_true rfl), (Nat.le_of_ble_eq_true rfl)⟩ ⟨Nat.zero_le _, Nat.zero_le _⟩ (Nat.le_of_ble_eq_true rfl) dX9_lies_72 (fun r_72 σ h_72 => ?_)
          subst h_72
          refine zv_istore (lv' := [(6, za_I r_72), (5, za_I r_57), (0, za_O 0 0), (1, za_I a1), (2, za_I a2), (3, za_I a3), (4, za_I a4)]) G dX9_lies_75 (by decide) rfl ?_
          refine zv_aload_n (j := 2) G dX9_lies_77 rfl rfl ?_
          refine zg_X9_40 G dX9_lies_78 ?_
          refine zv_aload_n (j := 2) G dX9_lies_81 rfl rfl ?_
          refine zg_X9_10 G dX9_lies_82 ?_
          refine zv_iload_n (j := 5) G dX9_lies_85 rfl rfl ?_
          refine zv_callVNr (as := [za_I a3]) G (by decide) rfl rfl (zc_X4_table l E 1 a3 σ ) zk_X4_table zm_453 rfl ⟨(Nat.le_of_ble_eq_true rfl), (Nat.le_of_ble_eq_true rfl)⟩ ⟨Nat.zero_le _, Nat.zero_le _⟩ (Nat.le_of_ble_eq_true rfl) dX9_lies_86 (fun r_86 σ h_86 => ?_)
          obtain ⟨w_86, rfl, h_w_86, t_86, rfl⟩ := h_86
          refine zv_iload (j := 6) G dX9_lies_89 rfl ?_
          refine zv_iload (j := 1) G dX9_lies_91 rfl ?_
          refine zv_iload (j := 0) G dX9_lies_93 rfl ?_
          refine zv_callVNi (as := [za_I a4, za_I r_57, za_I r_72]) G (by decide) rfl rfl (zc_X6_daysOfRowWithin l E w_86 a4 r_57 r_72 σ ) zk_X6_daysOfRowWithin zm_777 rfl ⟨(Nat.le_of_ble_eq_true rfl), (Nat.le_of_ble_eq_true rfl)⟩ ⟨Nat.zero_le _, Nat.zero_le _⟩ (Nat.le_of_ble_eq_true rfl) dX9_lies_95 (fun r_95 σ h_95 => ?_)
          subst h_95
          refine zv_i2l G dX9_lies_98 ?_
          refine zv_callVNv (as := [za_L r_95.toInt64]) G (by decide) rfl rfl (zc_X8_tell l E r_95.toInt64 σ ) zk_X8_tell zm_527 rfl ⟨(Nat.le_of_ble_eq_true rfl), (Nat.le_of_ble_eq_true rfl)⟩ ⟨Nat.zero_le _, Nat.zero_le _⟩ (Nat.le_of_ble_eq_true rfl) dX9_lies_99 (fun σ h_99 => ?_)
          have hz9 := h_99
          have hz := zc_t hz hz9
          refine zv_iload (j := 1) G dX9_lies_102 rfl ?_
          refine zv_iload (j := 0) G dX9_lies_104 rfl ?_
          refine zv_aload_n (j := 2) G dX9_lies_106 rfl rfl ?_
          refine zg_X9_10 G dX9_lies_107 ?_
          refine zv_iload_n (j := 5) G dX9_lies_110 rfl rfl ?_
          refine zv_callVNr (as := [za_I a3]) G (by decide) rfl rfl (zc_X4_table l E 1 a3 σ ) zk_X4_table zm_453 rfl ⟨(Nat.le_of_ble_eq_true rfl), (Nat.le_of_ble_eq_true rfl)⟩ ⟨Nat.zero_le _, Nat.zero_le _⟩ (Nat.le_of_ble_eq_true rfl) dX9_lies_111 (fun r_111 σ h_111 => ?_)
          obtain ⟨w_111, rfl, h_w_111, t_111, rfl⟩ := h_111
          refine zv_iload (j := 6) G dX9_lies_114 rfl ?_
          refine zv_iconst (v := 2) G dX9_lies_116 (by decide) ?_
          refine zv_callVNi (as := [za_I a4, za_I 2]) G (by decide) rfl rfl (zc_X6_cell l E w_111 a4 (2 : Int32) σ ) zk_X6_cell zm_592 rfl ⟨(Nat.le_of_ble_eq_true rfl), (Nat.le_of_ble_eq_true rfl)⟩ ⟨Nat.zero_le _, Nat.zero_le _⟩ (Nat.le_of_ble_eq_true rfl) dX9_lies_117 (fun r_117 σ h_117 => ?_)
          subst h_117
          refine zv_aload_n (j := 2) G dX9_lies_120 rfl rfl ?_
          refine zg_X9_10 G dX9_lies_121 ?_
          refine zv_iload_n (j := 5) G dX9_lies_124 rfl rfl ?_
          refine zv_callVNr (as := [za_I a3]) G (by decide) rfl rfl (zc_X4_table l E 1 a3 σ ) zk_X4_table zm_453 rfl ⟨(Nat.le_of_ble_eq_true rfl), (Nat.le_of_ble_eq_true rfl)⟩ ⟨Nat.zero_le _, Nat.zero_le _⟩ (Nat.le_of_ble_eq_true rfl) dX9_lies_125 (fun r_125 σ h_125 => ?_)
          obtain ⟨w_125, rfl, h_w_125, t_125, rfl⟩ := h_125
          refine zv_iload (j := 6) G dX9_lies_128 rfl ?_
          refine zv_iconst (v := 3) G dX9_lies_130 (by decide) ?_
          refine zv_callVNi (as := [za_I a4, za_I 3]) G (by decide) rfl rfl (zc_X6_cell l E w_125 a4 (3 : Int32) σ ) zk_X6_cell zm_592 rfl ⟨(Nat.le_of_ble_eq_true rfl), (Nat.le_of_ble_eq_true rfl)⟩ ⟨Nat.zero_le _, Nat.zero_le _⟩ (Nat.le_of_ble_eq_true rfl) dX9_lies_131 (fun r_131 σ h_131 => ?_)
          subst h_131
          refine zv_callSi (as := [za_I r_57, za_I r_72, za_I r_117, za_I r_131]) G (zc_X9_positionOf l E r_57 r_72 r_117 r_131 σ ) zk_X9_positionOf zm_800 rfl ⟨(Nat.le_of_ble_eq_true rfl), (Nat.le_of_ble_eq_true rfl)⟩ ⟨Nat.zero_le _, Nat.zero_le _⟩ (Nat.le_of_ble_eq_true rfl) dX9_lies_134 (fun r_134 σ h_134 => ?_)
          subst h_134
          exact zv_iret G hr dX9_lies_137 hz
        · refine zv_iconst (v := (-1)) G dX9_lies_45 (by decide) ?_
          exact zv_iret G hr dX9_lies_46 hz
set_option maxHeartbeats 4000000 in
set_option maxRecDepth 100000 in
theorem zc_X9_changes (l : Launch) (E : za_E) (a1 : Int32) (a2 : Int32) (σ0 : za_S)  : zMi l E yX9_changes cX9_changes 6 (Option.some Jvm.ClassFile.FieldType.int) 4 85 [za_O 0 0, za_I a1, za_I a2] σ0 (fun r σ' => zc σ0 σ') := by
  refine zMi_of [(0, za_O 0 0), (1, za_I a1), (2, za_I a2)] (by decide) rfl rfl (Nat.le_of_ble_eq_true rfl) ?_
  intro ho p e s m args below meth c G hr
  refine zv_gen (R9 := zc σ0) (zc_r σ0) (fun σ hz => ?_)
  refine zv_iload_n (j := 1) G dX9_changes_0 rfl rfl ?_
  refine zv_callSi (as := [za_I a1]) G (zc_X9_isTable l E a1 σ ) zk_X9_isTable zm_438 rfl ⟨(Nat.le_of_ble_eq_true rfl), (Nat.le_of_ble_eq_true rfl)⟩ ⟨Nat.zero_le _, Nat.zero_le _⟩ (Nat.le_of_ble_eq_true rfl) dX9_changes_1 (fun r_1 σ h_1 => ?_)
  obtain ⟨h_1, rfl⟩ := h_1
  refine zv_if_eq (tgt := 14) G dX9_changes_4 (by decide) (fun c_4 => ?_) (fun c_4 => ?_)
  · refine zv_iconst (v := (-1)) G dX9_changes_14 (by decide) ?_
    exact zv_iret G hr dX9_changes_15 hz
  · refine zv_iload_n (j := 2) G dX9_changes_7 rfl rfl ?_
    refine zv_callSi (as := [za_I a2]) G (zc_X9_isKey l E a2 σ ) zk_X9_isKey zm_441 rfl ⟨(Nat.le_of_ble_eq_true rfl), (Nat.le_of_ble_eq_true rfl)⟩ ⟨Nat.zero_le _, Nat.zero_le _⟩ (Nat.le_of_ble_eq_true rfl) dX9_changes_8 (fun r_8 σ h_8 => ?_)
    obtain ⟨h_8, rfl⟩ := h_8
    refine zv_if_ne (tgt := 16) G dX9_changes_11 (by decide) (fun c_11 => ?_) (fun c_11 => ?_)
    · refine zv_aload_n (j := 0) G dX9_changes_16 rfl rfl ?_
      refine zg_X9_10 G dX9_changes_17 ?_
      refine zv_iload_n (j := 1) G dX9_changes_20 rfl rfl ?_
      refine zv_callVNr (as := [za_I a1]) G (by decide) rfl rfl (zc_X4_table l E 1 a1 σ ) zk_X4_table zm_453 rfl ⟨(Nat.le_of_ble_eq_true rfl), (Nat.le_of_ble_eq_true rfl)⟩ ⟨Nat.zero_le _, Nat.zero_le _⟩ (Nat.le_of_ble_eq_true rfl) dX9_changes_21 (fun r_21 σ h_21 => ?_)
      obtain ⟨w_21, rfl, h_w_21, t_21, rfl⟩ := h_21
      refine zv_astore_n (lv' := [(3, za_O 2 w_21), (0, za_O 0 0), (1, za_I a1), (2, za_I a2)]) G dX9_changes_24 rfl (by decide) rfl ?_
      refine zv_iconst (v := 0) G dX9_changes_25 (by decide) ?_
      refine zv_istore (lv' := [(4, za_I 0), (3, za_O 2 w_21), (0, za_O 0 0), (1, za_I a1), (2, za_I a2)]) G dX9_changes_26 (by decide) rfl ?_
      refine zv_aload_n (j := 2) G dX9_changes_28 rfl rfl ?_
      refine zg_X9_40 G dX9_changes_29 ?_
      refine zv_callVNv (as := []) G (by decide) rfl rfl (zc_X8_clear l E  σ ) zk_X8_clear zm_776 rfl ⟨(Nat.le_of_ble_eq_true rfl), (Nat.le_of_ble_eq_true rfl)⟩ ⟨Nat.zero_le _, Nat.zero_le _⟩ (Nat.le_of_ble_eq_true rfl) dX9_changes_32 (fun σ h_32 => ?_)
      have hz9 := h_32
      have hz := zc_t hz hz9
      refine zv_iconst (v := 1) G dX9_changes_35 (by decide) ?_
      have J_38 : ∀ (n : Nat) (y4_38 : Int32) (y5_38 : Int32) (σ : za_S) (hz : zc σ0 σ) (hn_38 : (2147483648 - y5_38.toInt).toNat < n), zV p l e (zRm 4 85) s m args below meth c E (za_A E) 6 0 0 (MQ below (va_Qi (fun r σ' => zc σ0 σ') (zB E) (za_A E)) args s 0 0 (za_A E)) 38 [(0, za_O 0 0), (2, za_I a2), (3, za_O 2 w_21), (4, za_I y4_38), (5, za_I y5_38)] [] σ := by
        intro n
        induction n with
        | zero => intro y4_38 y5_38 σ hz hn; exact absurd hn (Nat.not_lt_zero _)
        | succ n ih_38 =>
          intro y4_38 y5_38 σ hz hn_38
          refine zv_iload (j := 4) G dX9_changes_38 rfl ?_
          refine zv_aload_n (j := 2) G dX9_changes_40 rfl rfl ?_
          refine zg_X9_106 G dX9_changes_41 ?_
          refine zv_icmp_ge (tgt := 110) G dX9_changes_44 (by decide) (fun c_44 => ?_) (fun c_44 => ?_)
          · refine zv_iload (j := 3) G dX9_changes_110 rfl ?_
            exact zv_iret G hr dX9_changes_112 hz
          · refine zv_aload_n (j := 2) G dX9_changes_47 rfl rfl ?_
            refine zv_iload (j := 4) G dX9_changes_48 rfl ?_
            refine zv_iconst (v := 0) G dX9_changes_50 (by decide) ?_
            refine zv_callVNi (as := [za_I y5_38, za_I 0]) G (by decide) rfl rfl (zc_X6_cell l E w_21 y5_38 (0 : Int32) σ ) zk_X6_cell zm_592 rfl ⟨(Nat.le_of_ble_eq_true rfl), (Nat.le_of_ble_eq_true rfl)⟩ ⟨Nat.zero_le _, Nat.zero_le _⟩ (Nat.le_of_ble_eq_true rfl) dX9_changes_51 (fun r_51 σ h_51 => ?_)
            subst h_51
            refine zv_iload_n (j := 1) G dX9_changes_54 rfl rfl ?_
            refine zv_icmp_ne (tgt := 104) G dX9_changes_55 (by decide) (fun c_55 => ?_) (fun c_55 => ?_)
            · obtain ⟨x_104, e_104⟩ : ∃ y : Int32, y = y5_38 + 1 := ⟨_, rfl⟩
              refine zv_iinc (j := 4) (v := x_104) (lv' := [(5, za_I x_104), (0, za_O 0 0), (2, za_I a2), (3, za_O 2 w_21), (4, za_I y4_38)]) G dX9_changes_104 rfl (by rw [e_104]; rfl) (by decide) rfl ?_
              refine zv_goto (tgt := 38) G dX9_changes_107 (by decide) ?_
              refine zv_sub [1, 2, 3, 4, 0] (lv' := [(0, za_O 0 0), (2, za_I a2), (3, za_O 2 w_21), (4, za_I y4_38), (5, za_I x_104)]) rfl ?_
              exact ih_38 y4_38 x_104 σ hz (z_meas c_44 e_104 hn_38)
            · refine zv_aload_n (j := 2) G dX9_changes_58 rfl rfl ?_
              refine zv_iload (j := 4) G dX9_changes_59 rfl ?_
              refine zv_callVNi (as := [za_I y5_38]) G (by decide) rfl rfl (zc_X6_followsOn l E w_21 y5_38 σ ) zk_X6_followsOn zm_807 rfl ⟨(Nat.le_of_ble_eq_true rfl), (Nat.le_of_ble_eq_true rfl)⟩ ⟨Nat.zero_le _, Nat.zero_le _⟩ (Nat.le_of_ble_eq_true rfl) dX9_changes_61 (fun r_61 σ h_61 => ?_)
              obtain ⟨h_61, rfl⟩ := h_61
              refine zv_if_eq (tgt := 104) G dX9_changes_64 (by decide) (fun c_64 => ?_) (fun c_64 => ?_)
              · obtain ⟨x_104, e_104⟩ : ∃ y : Int32, y = y5_38 + 1 := ⟨_, rfl⟩
                refine zv_iinc (j := 4) (v := x_104) (lv' := [(5, za_I x_104), (0, za_O 0 0), (2, za_I a2), (3, za_O 2 w_21), (4, za_I y4_38)]) G dX9_changes_104 rfl (by rw [e_104]; rfl) (by decide) rfl ?_
                refine zv_goto (tgt := 38) G dX9_changes_107 (by decide) ?_
                refine zv_sub [1, 2, 3, 4, 0] (lv' := [(0, za_O 0 0), (2, za_I a2), (3, za_O 2 w_21), (4, za_I y4_38), (5, za_I x_104)]) rfl ?_
                exact ih_38 y4_38 x_104 σ hz (z_meas c_44 e_104 hn_38)
              · refine zv_aload_n (j := 2) G dX9_changes_67 rfl rfl ?_
                refine zv_iload (j := 4) G dX9_changes_68 rfl ?_
                refine zv_iconst (v := 1) G dX9_changes_70 (by decide) ?_
                refine zv_callVNi (as := [za_I y5_38, za_I 1]) G (by decide) rfl rfl (zc_X6_cell l E w_21 y5_38 (1 : Int32) σ ) zk_X6_cell zm_592 rfl ⟨(Nat.le_of_ble_eq_true rfl), (Nat.le_of_ble_eq_true rfl)⟩ ⟨Nat.zero_le _, Nat.zero_le _⟩ (Nat.le_of_ble_eq_true rfl) dX9_changes_71 (fun r_71 σ h_71 => ?_)
                subst h_71
                refine zv_aload_n (j := 2) G dX9_changes_74 rfl rfl ?_
                refine zv_iload (j := 4) G dX9_changes_75 rfl ?_
                refine zv_iconst (v := 1) G dX9_changes_77 (by decide) ?_
                refine zv_isub G dX9_changes_78 ?_
                refine zv_iconst (v := 1) G dX9_changes_79 (by decide) ?_
                refine zv_callVNi (as := [za_I (y5_38 - 1), za_I 1]) G (by decide) rfl rfl (zc_X6_cell l E w_21 (y5_38 - 1) (1 : Int32) σ ) zk_X6_cell zm_592 rfl ⟨(Nat.le_of_ble_eq_true rfl), (Nat.le_of_ble_eq_true rfl)⟩ ⟨Nat.zero_le _, Nat.zero_le _⟩ (Nat.le_of_ble_eq_true rfl) dX9_changes_80 (fun r_80 σ h_80 => ?_)
                subst h_80
                refine zv_icmp_eq (tgt := 104) G dX9_changes_83 (by decide) (fun c_83 => ?_) (fun c_83 => ?_)
                · obtain ⟨x_104, e_104⟩ : ∃ y : Int32, y = y5_38 + 1 := ⟨_, rfl⟩
                  refine zv_iinc (j := 4) (v := x_104) (lv' := [(5, za_I x_104), (0, za_O 0 0), (2, za_I a2), (3, za_O 2 w_21), (4, za_I y4_38)]) G dX9_changes_104 rfl (by rw [e_104]; rfl) (by decide) rfl ?_
                  refine zv_goto (tgt := 38) G dX9_changes_107 (by decide) ?_
                  refine zv_sub [1, 2, 3, 4, 0] (lv' := [(0, za_O 0 0), (2, za_I a2), (3, za_O 2 w_21), (4, za_I y4_38), (5, za_I x_104)]) rfl ?_
                  exact ih_38 y4_38 x_104 σ hz (z_meas c_44 e_104 hn_38)
                · obtain ⟨x_86, e_86⟩ : ∃ y : Int32, y = y4_38 + 1 := ⟨_, rfl⟩
                  refine zv_iinc (j := 3) (v := x_86) (lv' := [(4, za_I x_86), (0, za_O 0 0), (2, za_I a2), (3, za_O 2 w_21), (5, za_I y5_38)]) G dX9_changes_86 rfl (by rw [e_86]; rfl) (by decide) rfl ?_
                  refine zv_aload_n (j := 1) G dX9_changes_89 rfl rfl ?_
                  refine zg_X9_40 G dX9_changes_90 ?_
                  refine zv_aload_n (j := 3) G dX9_changes_93 rfl rfl ?_
                  refine zv_iload (j := 4) G dX9_changes_94 rfl ?_
                  refine zv_iconst (v := 2) G dX9_changes_96 (by decide) ?_
                  refine zv_callVNi (as := [za_I y5_38, za_I 2]) G (by decide) rfl rfl (zc_X6_cell l E w_21 y5_38 (2 : Int32) σ ) zk_X6_cell zm_592 rfl ⟨(Nat.le_of_ble_eq_true rfl), (Nat.le_of_ble_eq_true rfl)⟩ ⟨Nat.zero_le _, Nat.zero_le _⟩ (Nat.le_of_ble_eq_true rfl) dX9_changes_97 (fun r_97 σ h_97 => ?_)
                  subst h_97
                  refine zv_i2l G dX9_changes_100 ?_
                  refine zv_callVNv (as := [za_L r_97.toInt64]) G (by decide) rfl rfl (zc_X8_add l E r_97.toInt64 σ ) zk_X8_add zm_778 rfl ⟨(Nat.le_of_ble_eq_true rfl), (Nat.le_of_ble_eq_true rfl)⟩ ⟨Nat.zero_le _, Nat.zero_le _⟩ (Nat.le_of_ble_eq_true rfl) dX9_changes_101 (fun σ h_101 => ?_)
                  have hz9 := h_101
                  have hz := zc_t hz hz9
                  obtain ⟨x_104, e_104⟩ : ∃ y : Int32, y = y5_38 + 1 := ⟨_, rfl⟩
                  refine zv_iinc (j := 4) (v := x_104) (lv' := [(5, za_I x_104), (4, za_I x_86), (0, za_O 0 0), (2, za_I a2), (3, za_O 2 w_21)]) G dX9_changes_104 rfl (by rw [e_104]; rfl) (by decide) rfl ?_
                  refine zv_goto (tgt := 38) G dX9_changes_107 (by decide) ?_
                  refine zv_sub [2, 3, 4, 1, 0] (lv' := [(0, za_O 0 0), (2, za_I a2), (3, za_O 2 w_21), (4, za_I x_86), (5, za_I x_104)]) rfl ?_
                  exact ih_38 x_86 x_104 σ hz (z_meas c_44 e_104 hn_38)
      refine zv_istore (lv' := [(5, za_I 1), (4, za_I 0), (3, za_O 2 w_21), (0, za_O 0 0), (1, za_I a1), (2, za_I a2)]) G dX9_changes_36 (by decide) rfl ?_
      refine zv_sub [3, 5, 2, 1, 0] (lv' := [(0, za_O 0 0), (2, za_I a2), (3, za_O 2 w_21), (4, za_I 0), (5, za_I 1)]) rfl ?_
      exact J_38 _ (0 : Int32) (1 : Int32) σ hz (Nat.lt_succ_self _)
    · refine zv_iconst (v := (-1)) G dX9_changes_14 (by decide) ?_
      exact zv_iret G hr dX9_changes_15 hz
set_option maxHeartbeats 4000000 in
set_option maxRecDepth 100000 in
theorem zc_X6_allDays (l : Launch) (E : za_E) (w : Nat) (σ : za_S)  : zMi l E yX6_allDays cX6_allDays 3 (Option.some Jvm.ClassFile.FieldType.int) 4 85 [za_O 2 w] σ (fun r σ' => σ' = σ) := by
  refine zMi_of [(0, za_O 2 w)] (by decide) rfl rfl (Nat.le_of_ble_eq_true rfl) ?_
  intro ho p e s m args below meth c G hr
  have h_w : za_kd w = 2 := za_okO (by decide) (List.forall_mem_cons.mp ho).1
  refine zv_iconst (v := 0) G dX6_allDays_0 (by decide) ?_
  refine zv_istore_n (lv' := [(1, za_I 0), (0, za_O 2 w)]) G dX6_allDays_1 rfl (by decide) rfl ?_
  refine zv_iconst (v := 0) G dX6_allDays_2 (by decide) ?_
  have J_4 : ∀ (n : Nat) (y1_4 : Int32) (y2_4 : Int32) (hn_4 : (2147483648 - y2_4.toInt).toNat < n), zV p l e (zRm 4 85) s m args below meth c E (za_A E) 3 0 0 (MQ below (va_Qi (fun r σ' => σ' = σ) (zB E) (za_A E)) args s 0 0 (za_A E)) 4 [(0, za_O 2 w), (1, za_I y1_4), (2, za_I y2_4)] [] σ := by
    intro n
    induction n with
    | zero => intro y1_4 y2_4 hn; exact absurd hn (Nat.not_lt_zero _)
    | succ n ih_4 =>
      intro y1_4 y2_4 hn_4
      refine zv_iload_n (j := 2) G dX6_allDays_4 rfl rfl ?_
      refine zv_aload_n (j := 0) G dX6_allDays_5 rfl rfl ?_
      refine zg_X6_15 G dX6_allDays_6 ?_
      refine zv_icmp_ge (tgt := 26) G dX6_allDays_9 (by decide) (fun c_9 => ?_) (fun c_9 => ?_)
      · refine zv_iload_n (j := 1) G dX6_allDays_26 rfl rfl ?_
        exact zv_iret G hr dX6_allDays_27 rfl
      · refine zv_iload_n (j := 1) G dX6_allDays_12 rfl rfl ?_
        refine zv_aload_n (j := 0) G dX6_allDays_13 rfl rfl ?_
        refine zv_iload_n (j := 2) G dX6_allDays_14 rfl rfl ?_
        refine zv_callVi (as := [za_I y2_4]) G (by decide) rfl rfl (zc_X6_daysOfRow l E w y2_4 σ ) zk_X6_daysOfRow zm_816 rfl ⟨(Nat.le_of_ble_eq_true rfl), (Nat.le_of_ble_eq_true rfl)⟩ ⟨Nat.zero_le _, Nat.zero_le _⟩ (Nat.le_of_ble_eq_true rfl) dX6_allDays_15 (fun r_15 σ h_15 => ?_)
        subst h_15
        refine zv_iadd G dX6_allDays_18 ?_
        refine zv_top (fun x_19 e_19 => ?_)
        refine zv_istore_n (lv' := [(1, za_I x_19), (0, za_O 2 w), (2, za_I y2_4)]) G dX6_allDays_19 rfl (by decide) rfl ?_
        obtain ⟨x_20, e_20⟩ : ∃ y : Int32, y = y2_4 + 1 := ⟨_, rfl⟩
        refine zv_iinc (j := 2) (v := x_20) (lv' := [(2, za_I x_20), (1, za_I x_19), (0, za_O 2 w)]) G dX6_allDays_20 rfl (by rw [e_20]; rfl) (by decide) rfl ?_
        refine zv_goto (tgt := 4) G dX6_allDays_23 (by decide) ?_
        refine zv_sub [2, 1, 0] (lv' := [(0, za_O 2 w), (1, za_I x_19), (2, za_I x_20)]) rfl ?_
        exact ih_4 x_19 x_20 (z_meas c_9 e_20 hn_4)
  refine zv_istore_n (lv' := [(2, za_I 0), (1, za_I 0), (0, za_O 2 w)]) G dX6_allDays_3 rfl (by decide) rfl ?_
  refine zv_sub [2, 1, 0] (lv' := [(0, za_O 2 w), (1, za_I 0), (2, za_I 0)]) rfl ?_
  exact J_4 _ (0 : Int32) (0 : Int32) (Nat.lt_succ_self _)
set_option maxHeartbeats 4000000 in
set_option maxRecDepth 100000 in
theorem zc_X9_rows (l : Launch) (E : za_E) (a1 : Int32) (σ0 : za_S)  : zMi l E yX9_rows cX9_rows 3 (Option.some Jvm.ClassFile.FieldType.int) 6 128 [za_O 0 0, za_I a1] σ0 (fun r σ' => zc σ0 σ') := by
  refine zMi_of [(0, za_O 0 0), (1, za_I a1)] (by decide) rfl rfl (Nat.le_of_ble_eq_true rfl) ?_
  intro ho p e s m args below meth c G hr
  refine zv_gen (R9 := zc σ0) (zc_r σ0) (fun σ hz => ?_)
  refine zv_iload_n (j := 1) G dX9_rows_0 rfl rfl ?_
  refine zv_callSi (as := [za_I a1]) G (zc_X9_isTable l E a1 σ ) zk_X9_isTable zm_438 rfl ⟨(Nat.le_of_ble_eq_true rfl), (Nat.le_of_ble_eq_true rfl)⟩ ⟨Nat.zero_le _, Nat.zero_le _⟩ (Nat.le_of_ble_eq_true rfl) dX9_rows_1 (fun r_1 σ h_1 => ?_)
  obtain ⟨h_1, rfl⟩ := h_1
  refine zv_if_ne (tgt := 9) G dX9_rows_4 (by decide) (fun c_4 => ?_) (fun c_4 => ?_)
  · refine zv_aload_n (j := 0) G dX9_rows_9 rfl rfl ?_
    refine zg_X9_10 G dX9_rows_10 ?_
    refine zv_iload_n (j := 1) G dX9_rows_13 rfl rfl ?_
    refine zv_callVNr (as := [za_I a1]) G (by decide) rfl rfl (zc_X4_table l E 1 a1 σ ) zk_X4_table zm_453 rfl ⟨(Nat.le_of_ble_eq_true rfl), (Nat.le_of_ble_eq_true rfl)⟩ ⟨Nat.zero_le _, Nat.zero_le _⟩ (Nat.le_of_ble_eq_true rfl) dX9_rows_14 (fun r_14 σ h_14 => ?_)
    obtain ⟨w_14, rfl, h_w_14, t_14, rfl⟩ := h_14
    refine zv_astore_n (lv' := [(2, za_O 2 w_14), (0, za_O 0 0), (1, za_I a1)]) G dX9_rows_17 rfl (by decide) rfl ?_
    refine zv_aload_n (j := 1) G dX9_rows_18 rfl rfl ?_
    refine zg_X9_40 G dX9_rows_19 ?_
    refine zv_aload_n (j := 0) G dX9_rows_22 rfl rfl ?_
    refine zg_X9_106 G dX9_rows_23 ?_
    refine zv_aload_n (j := 0) G dX9_rows_26 rfl rfl ?_
    refine zv_callVNi (as := []) G (by decide) rfl rfl (zc_X6_alikeNeighbours l E w_14 σ ) zk_X6_alikeNeighbours zm_634 rfl ⟨(Nat.le_of_ble_eq_true rfl), (Nat.le_of_ble_eq_true rfl)⟩ ⟨Nat.zero_le _, Nat.zero_le _⟩ (Nat.le_of_ble_eq_true rfl) dX9_rows_27 (fun r_27 σ h_27 => ?_)
    subst h_27
    refine zv_isub G dX9_rows_30 ?_
    refine zv_i2l G dX9_rows_31 ?_
    refine zv_aload_n (j := 0) G dX9_rows_32 rfl rfl ?_
    refine zv_callVNi (as := []) G (by decide) rfl rfl (zc_X6_allDays l E w_14 σ ) zk_X6_allDays zm_812 rfl ⟨(Nat.le_of_ble_eq_true rfl), (Nat.le_of_ble_eq_true rfl)⟩ ⟨Nat.zero_le _, Nat.zero_le _⟩ (Nat.le_of_ble_eq_true rfl) dX9_rows_33 (fun r_33 σ h_33 => ?_)
    subst h_33
    refine zv_i2l G dX9_rows_36 ?_
    refine zv_callVNv (as := [za_L (((σ.1 w_14 1) - r_27).toInt64), za_L r_33.toInt64]) G (by decide) rfl rfl (zc_X8_tell_ l E (((σ.1 w_14 1) - r_27).toInt64) r_33.toInt64 σ ) zk_X8_tell_ zm_608 rfl ⟨(Nat.le_of_ble_eq_true rfl), (Nat.le_of_ble_eq_true rfl)⟩ ⟨Nat.zero_le _, Nat.zero_le _⟩ (Nat.le_of_ble_eq_true rfl) dX9_rows_37 (fun σ h_37 => ?_)
    have hz9 := h_37
    have hz := zc_t hz hz9
    refine zv_aload_n (j := 0) G dX9_rows_40 rfl rfl ?_
    refine zg_X9_106 G dX9_rows_41 ?_
    exact zv_iret G hr dX9_rows_44 hz
  · refine zv_iconst (v := (-1)) G dX9_rows_7 (by decide) ?_
    exact zv_iret G hr dX9_rows_8 hz
set_option maxHeartbeats 4000000 in
set_option maxRecDepth 100000 in
theorem zc_X9_longest (l : Launch) (E : za_E) (a1 : Int32) (σ0 : za_S)  : zMi l E yX9_longest cX9_longest 7 (Option.some Jvm.ClassFile.FieldType.int) 4 85 [za_O 0 0, za_I a1] σ0 (fun r σ' => zc σ0 σ') := by
  refine zMi_of [(0, za_O 0 0), (1, za_I a1)] (by decide) rfl rfl (Nat.le_of_ble_eq_true rfl) ?_
  intro ho p e s m args below meth c G hr
  refine zv_gen (R9 := zc σ0) (zc_r σ0) (fun σ hz => ?_)
  refine zv_iload_n (j := 1) G dX9_longest_0 rfl rfl ?_
  refine zv_callSi (as := [za_I a1]) G (zc_X9_isTable l E a1 σ ) zk_X9_isTable zm_438 rfl ⟨(Nat.le_of_ble_eq_true rfl), (Nat.le_of_ble_eq_true rfl)⟩ ⟨Nat.zero_le _, Nat.zero_le _⟩ (Nat.le_of_ble_eq_true rfl) dX9_longest_1 (fun r_1 σ h_1 => ?_)
  obtain ⟨h_1, rfl⟩ := h_1
  refine zv_if_ne (tgt := 9) G dX9_longest_4 (by decide) (fun c_4 => ?_) (fun c_4 => ?_)
  · refine zv_aload_n (j := 0) G dX9_longest_9 rfl rfl ?_
    refine zg_X9_10 G dX9_longest_10 ?_
    refine zv_iload_n (j := 1) G dX9_longest_13 rfl rfl ?_
    refine zv_callVNr (as := [za_I a1]) G (by decide) rfl rfl (zc_X4_table l E 1 a1 σ ) zk_X4_table zm_453 rfl ⟨(Nat.le_of_ble_eq_true rfl), (Nat.le_of_ble_eq_true rfl)⟩ ⟨Nat.zero_le _, Nat.zero_le _⟩ (Nat.le_of_ble_eq_true rfl) dX9_longest_14 (fun r_14 σ h_14 => ?_)
    obtain ⟨w_14, rfl, h_w_14, t_14, rfl⟩ := h_14
    refine zv_astore_n (lv' := [(2, za_O 2 w_14), (0, za_O 0 0), (1, za_I a1)]) G dX9_longest_17 rfl (by decide) rfl ?_
    refine zv_bipush (v := (-2)) G dX9_longest_18 (by decide) ?_
    refine zv_istore_n (lv' := [(3, za_I (-2)), (2, za_O 2 w_14), (0, za_O 0 0), (1, za_I a1)]) G dX9_longest_20 rfl (by decide) rfl ?_
    refine zv_iconst (v := 0) G dX9_longest_21 (by decide) ?_
    refine zv_istore (lv' := [(4, za_I 0), (3, za_I (-2)), (2, za_O 2 w_14), (0, za_O 0 0), (1, za_I a1)]) G dX9_longest_22 (by decide) rfl ?_
    refine zv_iconst (v := 0) G dX9_longest_24 (by decide) ?_
    have J_27 : ∀ (n : Nat) (y3_27 : Int32) (y4_27 : Int32) (y5_27 : Int32) (σ : za_S) (hz : zc σ0 σ) (hn_27 : (2147483648 - y5_27.toInt).toNat < n), zV p l e (zRm 4 85) s m args below meth c E (za_A E) 7 0 0 (MQ below (va_Qi (fun r σ' => zc σ0 σ') (zB E) (za_A E)) args s 0 0 (za_A E)) 27 [(0, za_O 0 0), (2, za_O 2 w_14), (3, za_I y3_27), (4, za_I y4_27), (5, za_I y5_27)] [] σ := by
      intro n
      induction n with
      | zero => intro y3_27 y4_27 y5_27 σ hz hn; exact absurd hn (Nat.not_lt_zero _)
      | succ n ih_27 =>
        intro y3_27 y4_27 y5_27 σ hz hn_27
        refine zv_iload (j := 4) G dX9_longest_27 rfl ?_
        refine zv_aload_n (j := 1) G dX9_longest_29 rfl rfl ?_
        refine zg_X9_106 G dX9_longest_30 ?_
        refine zv_icmp_ge (tgt := 64) G dX9_longest_33 (by decide) (fun c_33 => ?_) (fun c_33 => ?_)
        · refine zv_iload_n (j := 2) G dX9_longest_64 rfl rfl ?_
          refine zv_if_lt (tgt := 78) G dX9_longest_65 (by decide) (fun c_65 => ?_) (fun c_65 => ?_)
          · refine zv_iload_n (j := 2) G dX9_longest_78 rfl rfl ?_
            exact zv_iret G hr dX9_longest_79 hz
          · refine zv_aload_n (j := 0) G dX9_longest_68 rfl rfl ?_
            refine zg_X9_40 G dX9_longest_69 ?_
            refine zv_iload (j := 3) G dX9_longest_72 rfl ?_
            refine zv_i2l G dX9_longest_74 ?_
            refine zv_callVNv (as := [za_L y4_27.toInt64]) G (by decide) rfl rfl (zc_X8_tell l E y4_27.toInt64 σ ) zk_X8_tell zm_527 rfl ⟨(Nat.le_of_ble_eq_true rfl), (Nat.le_of_ble_eq_true rfl)⟩ ⟨Nat.zero_le _, Nat.zero_le _⟩ (Nat.le_of_ble_eq_true rfl) dX9_longest_75 (fun σ h_75 => ?_)
            have hz9 := h_75
            have hz := zc_t hz hz9
            refine zv_iload_n (j := 2) G dX9_longest_78 rfl rfl ?_
            exact zv_iret G hr dX9_longest_79 hz
        · refine zv_aload_n (j := 1) G dX9_longest_36 rfl rfl ?_
          refine zv_iload (j := 4) G dX9_longest_37 rfl ?_
          refine zv_callVNi (as := [za_I y5_27]) G (by decide) rfl rfl (zc_X6_daysOfRow l E w_14 y5_27 σ ) zk_X6_daysOfRow zm_821 rfl ⟨(Nat.le_of_ble_eq_true rfl), (Nat.le_of_ble_eq_true rfl)⟩ ⟨Nat.zero_le _, Nat.zero_le _⟩ (Nat.le_of_ble_eq_true rfl) dX9_longest_39 (fun r_39 σ h_39 => ?_)
          subst h_39
          refine zv_istore (lv' := [(6, za_I r_39), (0, za_O 0 0), (2, za_O 2 w_14), (3, za_I y3_27), (4, za_I y4_27), (5, za_I y5_27)]) G dX9_longest_42 (by decide) rfl ?_
          refine zv_iload (j := 0) G dX9_longest_44 rfl ?_
          refine zv_iload (j := 4) G dX9_longest_46 rfl ?_
          refine zv_icmp_le (tgt := 58) G dX9_longest_48 (by decide) (fun c_48 => ?_) (fun c_48 => ?_)
          · obtain ⟨x_58, e_58⟩ : ∃ y : Int32, y = y5_27 + 1 := ⟨_, rfl⟩
            refine zv_iinc (j := 5) (v := x_58) (lv' := [(5, za_I x_58), (6, za_I r_39), (0, za_O 0 0), (2, za_O 2 w_14), (3, za_I y3_27), (4, za_I y4_27)]) G dX9_longest_58 rfl (by rw [e_58]; rfl) (by decide) rfl ?_
            refine zv_goto (tgt := 27) G dX9_longest_61 (by decide) ?_
            refine zv_sub [2, 3, 4, 5, 0] (lv' := [(0, za_O 0 0), (2, za_O 2 w_14), (3, za_I y3_27), (4, za_I y4_27), (5, za_I x_58)]) rfl ?_
            exact ih_27 y3_27 y4_27 x_58 σ hz (z_meas c_33 e_58 hn_27)
          · refine zv_iload (j := 5) G dX9_longest_51 rfl ?_
            refine zv_istore_n (lv' := [(3, za_I y5_27), (6, za_I r_39), (0, za_O 0 0), (2, za_O 2 w_14), (4, za_I y4_27), (5, za_I y5_27)]) G dX9_longest_53 rfl (by decide) rfl ?_
            refine zv_iload (j := 1) G dX9_longest_54 rfl ?_
            refine zv_istore (lv' := [(4, za_I r_39), (3, za_I y5_27), (6, za_I r_39), (0, za_O 0 0), (2, za_O 2 w_14), (5, za_I y5_27)]) G dX9_longest_56 (by decide) rfl ?_
            obtain ⟨x_58, e_58⟩ : ∃ y : Int32, y = y5_27 + 1 := ⟨_, rfl⟩
            refine zv_iinc (j := 5) (v := x_58) (lv' := [(5, za_I x_58), (4, za_I r_39), (3, za_I y5_27), (6, za_I r_39), (0, za_O 0 0), (2, za_O 2 w_14)]) G dX9_longest_58 rfl (by rw [e_58]; rfl) (by decide) rfl ?_
            refine zv_goto (tgt := 27) G dX9_longest_61 (by decide) ?_
            refine zv_sub [4, 5, 2, 1, 0] (lv' := [(0, za_O 0 0), (2, za_O 2 w_14), (3, za_I y5_27), (4, za_I r_39), (5, za_I x_58)]) rfl ?_
            exact ih_27 y5_27 r_39 x_58 σ hz (z_meas c_33 e_58 hn_27)
    refine zv_istore (lv' := [(5, za_I 0), (4, za_I 0), (3, za_I (-2)), (2, za_O 2 w_14), (0, za_O 0 0), (1, za_I a1)]) G dX9_longest_25 (by decide) rfl ?_
    refine zv_sub [4, 3, 2, 1, 0] (lv' := [(0, za_O 0 0), (2, za_O 2 w_14), (3, za_I (-2)), (4, za_I 0), (5, za_I 0)]) rfl ?_
    exact J_27 _ (-2) (0 : Int32) (0 : Int32) σ hz (Nat.lt_succ_self _)
  · refine zv_iconst (v := (-1)) G dX9_longest_7 (by decide) ?_
    exact zv_iret G hr dX9_longest_8 hz
set_option maxHeartbeats 4000000 in
set_option maxRecDepth 100000 in
theorem zc_X9_free (l : Launch) (E : za_E) (a1 : Int32) (a2 : Int32) (a3 : Int32) (a4 : Int32) (σ : za_S)  : zMi l E yX9_free cX9_free 8 (Option.some Jvm.ClassFile.FieldType.int) 5 111 [za_O 0 0, za_I a1, za_I a2, za_I a3, za_I a4] σ (fun r σ' => σ' = σ) := by
  refine zMi_of [(0, za_O 0 0), (1, za_I a1), (2, za_I a2), (3, za_I a3), (4, za_I a4)] (by decide) rfl rfl (Nat.le_of_ble_eq_true rfl) ?_
  intro ho p e s m args below meth c G hr
  refine zv_iload_n (j := 1) G dX9_free_0 rfl rfl ?_
  refine zv_callSi (as := [za_I a1]) G (zc_X9_isTable l E a1 σ ) zk_X9_isTable zm_438 rfl ⟨(Nat.le_of_ble_eq_true rfl), (Nat.le_of_ble_eq_true rfl)⟩ ⟨Nat.zero_le _, Nat.zero_le _⟩ (Nat.le_of_ble_eq_true rfl) dX9_free_1 (fun r_1 σ h_1 => ?_)
  obtain ⟨h_1, rfl⟩ := h_1
  refine zv_if_eq (tgt := 34) G dX9_free_4 (by decide) (fun c_4 => ?_) (fun c_4 => ?_)
  · refine zv_iconst (v := (-1)) G dX9_free_34 (by decide) ?_
    exact zv_iret G hr dX9_free_35 rfl
  · refine zv_iload_n (j := 2) G dX9_free_7 rfl rfl ?_
    refine zv_callSi (as := [za_I a2]) G (zc_X9_isKey l E a2 σ ) zk_X9_isKey zm_441 rfl ⟨(Nat.le_of_ble_eq_true rfl), (Nat.le_of_ble_eq_true rfl)⟩ ⟨Nat.zero_le _, Nat.zero_le _⟩ (Nat.le_of_ble_eq_true rfl) dX9_free_8 (fun r_8 σ h_8 => ?_)
    obtain ⟨h_8, rfl⟩ := h_8
    refine zv_if_eq (tgt := 34) G dX9_free_11 (by decide) (fun c_11 => ?_) (fun c_11 => ?_)
    · refine zv_iconst (v := (-1)) G dX9_free_34 (by decide) ?_
      exact zv_iret G hr dX9_free_35 rfl
    · refine zv_iload_n (j := 3) G dX9_free_14 rfl rfl ?_
      refine zv_callSi (as := [za_I a3]) G (zc_X9_isDay l E a3 σ ) zk_X9_isDay zm_447 rfl ⟨(Nat.le_of_ble_eq_true rfl), (Nat.le_of_ble_eq_true rfl)⟩ ⟨Nat.zero_le _, Nat.zero_le _⟩ (Nat.le_of_ble_eq_true rfl) dX9_free_15 (fun r_15 σ h_15 => ?_)
      obtain ⟨h_15, rfl⟩ := h_15
      refine zv_if_eq (tgt := 34) G dX9_free_18 (by decide) (fun c_18 => ?_) (fun c_18 => ?_)
      · refine zv_iconst (v := (-1)) G dX9_free_34 (by decide) ?_
        exact zv_iret G hr dX9_free_35 rfl
      · refine zv_iload (j := 4) G dX9_free_21 rfl ?_
        refine zv_iconst (v := 1) G dX9_free_23 (by decide) ?_
        refine zv_icmp_lt (tgt := 34) G dX9_free_24 (by decide) (fun c_24 => ?_) (fun c_24 => ?_)
        · refine zv_iconst (v := (-1)) G dX9_free_34 (by decide) ?_
          exact zv_iret G hr dX9_free_35 rfl
        · refine zv_iload (j := 4) G dX9_free_27 rfl ?_
          refine zv_bipush (v := 100) G dX9_free_29 (by decide) ?_
          refine zv_icmp_le (tgt := 36) G dX9_free_31 (by decide) (fun c_31 => ?_) (fun c_31 => ?_)
          · refine zv_aload_n (j := 0) G dX9_free_36 rfl rfl ?_
            refine zg_X9_10 G dX9_free_37 ?_
            refine zv_iload_n (j := 1) G dX9_free_40 rfl rfl ?_
            refine zv_callVNr (as := [za_I a1]) G (by decide) rfl rfl (zc_X4_table l E 1 a1 σ ) zk_X4_table zm_453 rfl ⟨(Nat.le_of_ble_eq_true rfl), (Nat.le_of_ble_eq_true rfl)⟩ ⟨Nat.zero_le _, Nat.zero_le _⟩ (Nat.le_of_ble_eq_true rfl) dX9_free_41 (fun r_41 σ h_41 => ?_)
            obtain ⟨w_41, rfl, h_w_41, t_41, rfl⟩ := h_41
            refine zv_astore (lv' := [(5, za_O 2 w_41), (0, za_O 0 0), (1, za_I a1), (2, za_I a2), (3, za_I a3), (4, za_I a4)]) G dX9_free_44 (by decide) rfl ?_
            refine zv_iload_n (j := 4) G dX9_free_46 rfl rfl ?_
            refine zv_istore (lv' := [(6, za_I a3), (5, za_O 2 w_41), (0, za_O 0 0), (1, za_I a1), (2, za_I a2), (3, za_I a3), (4, za_I a4)]) G dX9_free_47 (by decide) rfl ?_
            refine zv_iconst (v := 0) G dX9_free_49 (by decide) ?_
            have J_52 : ∀ (n : Nat) (y6_52 : Int32) (y7_52 : Int32) (hn_52 : (2147483648 - y7_52.toInt).toNat < n), zV p l e (zRm 5 111) s m args below meth c E (za_A E) 8 0 0 (MQ below (va_Qi (fun r σ' => σ' = σ) (zB E) (za_A E)) args s 0 0 (za_A E)) 52 [(2, za_I a2), (4, za_I a4), (5, za_O 2 w_41), (6, za_I y6_52), (7, za_I y7_52)] [] σ := by
              intro n
              induction n with
              | zero => intro y6_52 y7_52 hn; exact absurd hn (Nat.not_lt_zero _)
              | succ n ih_52 =>
                intro y6_52 y7_52 hn_52
                refine zv_iload (j := 4) G dX9_free_52 rfl ?_
                refine zv_aload (j := 2) G dX9_free_54 rfl ?_
                refine zg_X9_106 G dX9_free_56 ?_
                refine zv_icmp_ge (tgt := 96) G dX9_free_59 (by decide) (fun c_59 => ?_) (fun c_59 => ?_)
                · refine zv_iload (j := 3) G dX9_free_96 rfl ?_
                  refine zv_iload (j := 1) G dX9_free_98 rfl ?_
                  refine zv_iadd G dX9_free_100 ?_
                  refine zv_bipush (v := 100) G dX9_free_101 (by decide) ?_
                  refine zv_icmp_gt (tgt := 111) G dX9_free_103 (by decide) (fun c_103 => ?_) (fun c_103 => ?_)
                  · refine zv_bipush (v := (-2)) G dX9_free_111 (by decide) ?_
                    exact zv_iret G hr dX9_free_113 rfl
                  · refine zv_iload (j := 3) G dX9_free_106 rfl ?_
                    refine zv_goto (tgt := 113) G dX9_free_108 (by decide) ?_
                    exact zv_iret G hr dX9_free_113 rfl
                · refine zv_aload (j := 2) G dX9_free_62 rfl ?_
                  refine zv_iload (j := 4) G dX9_free_64 rfl ?_
                  refine zv_iload_n (j := 0) G dX9_free_66 rfl rfl ?_
                  refine zv_iload (j := 3) G dX9_free_67 rfl ?_
                  refine zv_iload (j := 3) G dX9_free_69 rfl ?_
                  refine zv_iload (j := 1) G dX9_free_71 rfl ?_
                  refine zv_iadd G dX9_free_73 ?_
                  refine zv_callVNi (as := [za_I y7_52, za_I a2, za_I y6_52, za_I (y6_52 + a4)]) G (by decide) rfl rfl (zc_X6_touches l E w_41 y7_52 a2 y6_52 (y6_52 + a4) σ ) zk_X6_touches zm_766 rfl ⟨(Nat.le_of_ble_eq_true rfl), (Nat.le_of_ble_eq_true rfl)⟩ ⟨Nat.zero_le _, Nat.zero_le _⟩ (Nat.le_of_ble_eq_true rfl) dX9_free_74 (fun r_74 σ h_74 => ?_)
                  obtain ⟨h_74, rfl⟩ := h_74
                  refine zv_if_eq (tgt := 90) G dX9_free_77 (by decide) (fun c_77 => ?_) (fun c_77 => ?_)
                  · obtain ⟨x_90, e_90⟩ : ∃ y : Int32, y = y7_52 + 1 := ⟨_, rfl⟩
                    refine zv_iinc (j := 4) (v := x_90) (lv' := [(7, za_I x_90), (2, za_I a2), (4, za_I a4), (5, za_O 2 w_41), (6, za_I y6_52)]) G dX9_free_90 rfl (by rw [e_90]; rfl) (by decide) rfl ?_
                    refine zv_goto (tgt := 52) G dX9_free_93 (by decide) ?_
                    refine zv_sub [1, 2, 3, 4, 0] (lv' := [(2, za_I a2), (4, za_I a4), (5, za_O 2 w_41), (6, za_I y6_52), (7, za_I x_90)]) rfl ?_
                    exact ih_52 y6_52 x_90 (z_meas c_59 e_90 hn_52)
                  · refine zv_aload (j := 2) G dX9_free_80 rfl ?_
                    refine zv_iload (j := 4) G dX9_free_82 rfl ?_
                    refine zv_iconst (v := 3) G dX9_free_84 (by decide) ?_
                    refine zv_callVNi (as := [za_I y7_52, za_I 3]) G (by decide) rfl rfl (zc_X6_cell l E w_41 y7_52 (3 : Int32) σ ) zk_X6_cell zm_592 rfl ⟨(Nat.le_of_ble_eq_true rfl), (Nat.le_of_ble_eq_true rfl)⟩ ⟨Nat.zero_le _, Nat.zero_le _⟩ (Nat.le_of_ble_eq_true rfl) dX9_free_85 (fun r_85 σ h_85 => ?_)
                    subst h_85
                    refine zv_istore (lv' := [(6, za_I r_85), (2, za_I a2), (4, za_I a4), (5, za_O 2 w_41), (7, za_I y7_52)]) G dX9_free_88 (by decide) rfl ?_
                    obtain ⟨x_90, e_90⟩ : ∃ y : Int32, y = y7_52 + 1 := ⟨_, rfl⟩
                    refine zv_iinc (j := 4) (v := x_90) (lv' := [(7, za_I x_90), (6, za_I r_85), (2, za_I a2), (4, za_I a4), (5, za_O 2 w_41)]) G dX9_free_90 rfl (by rw [e_90]; rfl) (by decide) rfl ?_
                    refine zv_goto (tgt := 52) G dX9_free_93 (by decide) ?_
                    refine zv_sub [2, 3, 4, 1, 0] (lv' := [(2, za_I a2), (4, za_I a4), (5, za_O 2 w_41), (6, za_I r_85), (7, za_I x_90)]) rfl ?_
                    exact ih_52 r_85 x_90 (z_meas c_59 e_90 hn_52)
            refine zv_istore (lv' := [(7, za_I 0), (6, za_I a3), (5, za_O 2 w_41), (0, za_O 0 0), (1, za_I a1), (2, za_I a2), (3, za_I a3), (4, za_I a4)]) G dX9_free_50 (by decide) rfl ?_
            refine zv_sub [5, 7, 2, 1, 0] (lv' := [(2, za_I a2), (4, za_I a4), (5, za_O 2 w_41), (6, za_I a3), (7, za_I 0)]) rfl ?_
            exact J_52 _ a3 (0 : Int32) (Nat.lt_succ_self _)
          · refine zv_iconst (v := (-1)) G dX9_free_34 (by decide) ?_
            exact zv_iret G hr dX9_free_35 rfl
set_option maxHeartbeats 4000000 in
set_option maxRecDepth 100000 in
theorem zc_X5_clear (l : Launch) (E : za_E)  (σ0 : za_S)  : zMv l E yX5_clear cX5_clear 1 (Option.none : Option Jvm.ClassFile.FieldType) 1 21 [za_O 15 89] σ0 (fun σ' => zc σ0 σ') := by
  refine zMv_of [(0, za_O 15 89)] (by decide) rfl rfl (Nat.le_of_ble_eq_true rfl) ?_
  intro ho p e s m args below meth c G hr
  refine zv_gen (R9 := zc σ0) (zc_r σ0) (fun σ hz => ?_)
  refine zv_aload_n (j := 0) G dX5_clear_0 rfl rfl ?_
  refine zv_iconst (v := 0) G dX5_clear_1 (by decide) ?_
  refine zp_X5_7 G dX5_clear_2 ?_
  refine zv_gen (R9 := zc σ0) (zc_t hz (zc_k15 rfl)) (fun σ hz => ?_)
  refine zv_aload_n (j := 0) G dX5_clear_5 rfl rfl ?_
  refine zv_iconst (v := 0) G dX5_clear_6 (by decide) ?_
  refine zp_X5_13 G dX5_clear_7 ?_
  refine zv_gen (R9 := zc σ0) (zc_t hz (zc_k15 rfl)) (fun σ hz => ?_)
  exact zv_vret G hr dX5_clear_10 hz
set_option maxHeartbeats 4000000 in
set_option maxRecDepth 100000 in
theorem zc_X5_add (l : Launch) (E : za_E) (a1 : Int32) (a2 : Int32) (a3 : Int32) (a4 : Int32) (σ0 : za_S)  : zMv l E yX5_add cX5_add 6 (Option.none : Option Jvm.ClassFile.FieldType) 1 21 [za_O 15 89, za_I a1, za_I a2, za_I a3, za_I a4] σ0 (fun σ' => zc σ0 σ') := by
  refine zMv_of [(0, za_O 15 89), (1, za_I a1), (2, za_I a2), (3, za_I a3), (4, za_I a4)] (by decide) rfl rfl (Nat.le_of_ble_eq_true rfl) ?_
  intro ho p e s m args below meth c G hr
  refine zv_gen (R9 := zc σ0) (zc_r σ0) (fun σ hz => ?_)
  refine zv_aload_n (j := 0) G dX5_add_0 rfl rfl ?_
  refine zg_X5_7 G dX5_add_1 ?_
  have J_37 : ∀ (s0_37 : Int32) (σ : za_S) (hz : zc σ0 σ), zV p l e (zRm 1 21) s m args below meth c E (za_A E) 6 0 0 (MQ below (va_Qv (fun σ' => zc σ0 σ') (zB E) (za_A E)) args s 0 0 (za_A E)) 37 [(0, za_O 15 89), (1, za_I a1), (2, za_I a2), (3, za_I a3), (4, za_I a4)] [za_I s0_37] σ := by
    intro s0_37 σ hz
    refine zv_istore (lv' := [(5, za_I s0_37), (0, za_O 15 89), (1, za_I a1), (2, za_I a2), (3, za_I a3), (4, za_I a4)]) G dX5_add_37 (by decide) rfl ?_
    refine zv_iload (j := 0) G dX5_add_39 rfl ?_
    have J_54 : ∀  (σ : za_S) (hz : zc σ0 σ), zV p l e (zRm 1 21) s m args below meth c E (za_A E) 6 0 0 (MQ below (va_Qv (fun σ' => zc σ0 σ') (zB E) (za_A E)) args s 0 0 (za_A E)) 54 [(0, za_O 15 89), (1, za_I a1), (2, za_I a2), (3, za_I a3), (4, za_I a4), (5, za_I s0_37)] [] σ := by
      intro σ hz
      refine zv_iload (j := 5) G dX5_add_54 rfl ?_
      have J_77 : ∀  (σ : za_S) (hz : zc σ0 σ), zV p l e (zRm 1 21) s m args below meth c E (za_A E) 6 0 0 (MQ below (va_Qv (fun σ' => zc σ0 σ') (zB E) (za_A E)) args s 0 0 (za_A E)) 77 [(0, za_O 15 89), (1, za_I a1), (2, za_I a2), (3, za_I a3), (4, za_I a4)] [] σ := by
        intro σ hz
        refine zv_aload_n (j := 0) G dX5_add_77 rfl rfl ?_
        refine zg_X5_7 G dX5_add_78 ?_
        refine zv_iconst (v := 1) G dX5_add_81 (by decide) ?_
        have J_90 : ∀  (σ : za_S) (hz : zc σ0 σ), zV p l e (zRm 1 21) s m args below meth c E (za_A E) 6 0 0 (MQ below (va_Qv (fun σ' => zc σ0 σ') (zB E) (za_A E)) args s 0 0 (za_A E)) 90 [(0, za_O 15 89), (1, za_I a1), (2, za_I a2), (3, za_I a3), (4, za_I a4)] [] σ := by
          intro σ hz
          refine zv_aload_n (j := 0) G dX5_add_90 rfl rfl ?_
          refine zv_dupO G dX5_add_91 ?_
          refine zg_X5_13 G dX5_add_92 ?_
          refine zv_iload_n (j := 3) G dX5_add_95 rfl rfl ?_
          refine zv_iload_n (j := 2) G dX5_add_96 rfl rfl ?_
          refine zv_isub G dX5_add_97 ?_
          refine zv_iadd G dX5_add_98 ?_
          refine zp_X5_13 G dX5_add_99 ?_
          refine zv_gen (R9 := zc σ0) (zc_t hz (zc_k15 rfl)) (fun σ hz => ?_)
          refine zv_aload_n (j := 0) G dX5_add_102 rfl rfl ?_
          refine zv_iload_n (j := 1) G dX5_add_103 rfl rfl ?_
          refine zp_X5_16 G dX5_add_104 ?_
          refine zv_gen (R9 := zc σ0) (zc_t hz (zc_k15 rfl)) (fun σ hz => ?_)
          refine zv_aload_n (j := 0) G dX5_add_107 rfl rfl ?_
          refine zv_iload_n (j := 3) G dX5_add_108 rfl rfl ?_
          refine zp_X5_19 G dX5_add_109 ?_
          refine zv_gen (R9 := zc σ0) (zc_t hz (zc_k15 rfl)) (fun σ hz => ?_)
          refine zv_aload_n (j := 0) G dX5_add_112 rfl rfl ?_
          refine zv_iload (j := 4) G dX5_add_113 rfl ?_
          refine zp_X5_22 G dX5_add_115 ?_
          refine zv_gen (R9 := zc σ0) (zc_t hz (zc_k15 rfl)) (fun σ hz => ?_)
          exact zv_vret G hr dX5_add_118 hz
        refine zv_icmp_ne (tgt := 90) G dX5_add_82 (by decide) (fun c_82 => ?_) (fun c_82 => ?_)
        · refine zv_sub [0, 1, 2, 3, 4] (lv' := [(0, za_O 15 89), (1, za_I a1), (2, za_I a2), (3, za_I a3), (4, za_I a4)]) rfl ?_
          exact J_90 σ hz
        · refine zv_aload_n (j := 0) G dX5_add_85 rfl rfl ?_
          refine zv_iload_n (j := 3) G dX5_add_86 rfl rfl ?_
          refine zp_X5_31 G dX5_add_87 ?_
          refine zv_gen (R9 := zc σ0) (zc_t hz (zc_k15 rfl)) (fun σ hz => ?_)
          refine zv_sub [0, 1, 2, 3, 4] (lv' := [(0, za_O 15 89), (1, za_I a1), (2, za_I a2), (3, za_I a3), (4, za_I a4)]) rfl ?_
          exact J_90 σ hz
      refine zv_if_ne (tgt := 77) G dX5_add_56 (by decide) (fun c_56 => ?_) (fun c_56 => ?_)
      · refine zv_sub [0, 1, 2, 3, 4] (lv' := [(0, za_O 15 89), (1, za_I a1), (2, za_I a2), (3, za_I a3), (4, za_I a4)]) rfl ?_
        exact J_77 σ hz
      · refine zv_aload_n (j := 0) G dX5_add_59 rfl rfl ?_
        refine zg_X5_7 G dX5_add_60 ?_
        refine zv_iconst (v := 1) G dX5_add_63 (by decide) ?_
        refine zv_icmp_ne (tgt := 77) G dX5_add_64 (by decide) (fun c_64 => ?_) (fun c_64 => ?_)
        · refine zv_sub [0, 1, 2, 3, 4] (lv' := [(0, za_O 15 89), (1, za_I a1), (2, za_I a2), (3, za_I a3), (4, za_I a4)]) rfl ?_
          exact J_77 σ hz
        · refine zv_aload_n (j := 0) G dX5_add_67 rfl rfl ?_
          refine zv_iload_n (j := 1) G dX5_add_68 rfl rfl ?_
          refine zp_X5_25 G dX5_add_69 ?_
          refine zv_gen (R9 := zc σ0) (zc_t hz (zc_k15 rfl)) (fun σ hz => ?_)
          refine zv_aload_n (j := 0) G dX5_add_72 rfl rfl ?_
          refine zv_iload_n (j := 2) G dX5_add_73 rfl rfl ?_
          refine zp_X5_28 G dX5_add_74 ?_
          refine zv_gen (R9 := zc σ0) (zc_t hz (zc_k15 rfl)) (fun σ hz => ?_)
          refine zv_sub [0, 1, 2, 3, 4] (lv' := [(0, za_O 15 89), (1, za_I a1), (2, za_I a2), (3, za_I a3), (4, za_I a4)]) rfl ?_
          exact J_77 σ hz
    refine zv_if_ne (tgt := 54) G dX5_add_41 (by decide) (fun c_41 => ?_) (fun c_41 => ?_)
    · refine zv_sub [1, 2, 3, 4, 5, 0] (lv' := [(0, za_O 15 89), (1, za_I a1), (2, za_I a2), (3, za_I a3), (4, za_I a4), (5, za_I s0_37)]) rfl ?_
      exact J_54 σ hz
    · refine zv_aload_n (j := 1) G dX5_add_44 rfl rfl ?_
      refine zv_dupO G dX5_add_45 ?_
      refine zg_X5_7 G dX5_add_46 ?_
      refine zv_iconst (v := 1) G dX5_add_49 (by decide) ?_
      refine zv_iadd G dX5_add_50 ?_
      refine zp_X5_7 G dX5_add_51 ?_
      refine zv_gen (R9 := zc σ0) (zc_t hz (zc_k15 rfl)) (fun σ hz => ?_)
      refine zv_sub [1, 2, 3, 4, 5, 0] (lv' := [(0, za_O 15 89), (1, za_I a1), (2, za_I a2), (3, za_I a3), (4, za_I a4), (5, za_I s0_37)]) rfl ?_
      exact J_54 σ hz
  have J_36 : ∀  (σ : za_S) (hz : zc σ0 σ), zV p l e (zRm 1 21) s m args below meth c E (za_A E) 6 0 0 (MQ below (va_Qv (fun σ' => zc σ0 σ') (zB E) (za_A E)) args s 0 0 (za_A E)) 36 [(0, za_O 15 89), (1, za_I a1), (2, za_I a2), (3, za_I a3), (4, za_I a4)] [] σ := by
    intro σ hz
    refine zv_iconst (v := 0) G dX5_add_36 (by decide) ?_
    refine zv_sub [0, 1, 2, 3, 4] (lv' := [(0, za_O 15 89), (1, za_I a1), (2, za_I a2), (3, za_I a3), (4, za_I a4)]) rfl ?_
    exact J_37 (0 : Int32) σ hz
  refine zv_if_le (tgt := 36) G dX5_add_4 (by decide) (fun c_4 => ?_) (fun c_4 => ?_)
  · refine zv_sub [0, 1, 2, 3, 4] (lv' := [(0, za_O 15 89), (1, za_I a1), (2, za_I a2), (3, za_I a3), (4, za_I a4)]) rfl ?_
    exact J_36 σ hz
  · refine zv_iload_n (j := 1) G dX5_add_7 rfl rfl ?_
    refine zv_aload_n (j := 0) G dX5_add_8 rfl rfl ?_
    refine zg_X5_16 G dX5_add_9 ?_
    refine zv_icmp_ne (tgt := 36) G dX5_add_12 (by decide) (fun c_12 => ?_) (fun c_12 => ?_)
    · refine zv_sub [0, 1, 2, 3, 4] (lv' := [(0, za_O 15 89), (1, za_I a1), (2, za_I a2), (3, za_I a3), (4, za_I a4)]) rfl ?_
      exact J_36 σ hz
    · refine zv_iload_n (j := 2) G dX5_add_15 rfl rfl ?_
      refine zv_aload_n (j := 0) G dX5_add_16 rfl rfl ?_
      refine zg_X5_19 G dX5_add_17 ?_
      refine zv_icmp_ne (tgt := 36) G dX5_add_20 (by decide) (fun c_20 => ?_) (fun c_20 => ?_)
      · refine zv_sub [0, 1, 2, 3, 4] (lv' := [(0, za_O 15 89), (1, za_I a1), (2, za_I a2), (3, za_I a3), (4, za_I a4)]) rfl ?_
        exact J_36 σ hz
      · refine zv_iload (j := 4) G dX5_add_23 rfl ?_
        refine zv_aload_n (j := 0) G dX5_add_25 rfl rfl ?_
        refine zg_X5_22 G dX5_add_26 ?_
        refine zv_icmp_ne (tgt := 36) G dX5_add_29 (by decide) (fun c_29 => ?_) (fun c_29 => ?_)
        · refine zv_sub [0, 1, 2, 3, 4] (lv' := [(0, za_O 15 89), (1, za_I a1), (2, za_I a2), (3, za_I a3), (4, za_I a4)]) rfl ?_
          exact J_36 σ hz
        · refine zv_iconst (v := 1) G dX5_add_32 (by decide) ?_
          refine zv_goto (tgt := 37) G dX5_add_33 (by decide) ?_
          refine zv_sub [0, 1, 2, 3, 4] (lv' := [(0, za_O 15 89), (1, za_I a1), (2, za_I a2), (3, za_I a3), (4, za_I a4)]) rfl ?_
          exact J_37 (1 : Int32) σ hz
set_option maxHeartbeats 4000000 in
set_option maxRecDepth 100000 in
theorem zc_X9_meetRows (l : Launch) (E : za_E) (a1 : Int32) (a2 : Int32) (a3 : Int32) (a4 : Int32) (σ0 : za_S)  : zMv l E yX9_meetRows cX9_meetRows 9 (Option.none : Option Jvm.ClassFile.FieldType) 3 64 [za_O 0 0, za_I a1, za_I a2, za_I a3, za_I a4] σ0 (fun σ' => zc σ0 σ') := by
  refine zMv_of [(0, za_O 0 0), (1, za_I a1), (2, za_I a2), (3, za_I a3), (4, za_I a4)] (by decide) rfl rfl (Nat.le_of_ble_eq_true rfl) ?_
  intro ho p e s m args below meth c G hr
  refine zv_gen (R9 := zc σ0) (zc_r σ0) (fun σ hz => ?_)
  refine zv_aload_n (j := 0) G dX9_meetRows_0 rfl rfl ?_
  refine zg_X9_10 G dX9_meetRows_1 ?_
  refine zg_X9_102 G dX9_meetRows_4 ?_
  refine zv_iload_n (j := 1) G dX9_meetRows_7 rfl rfl ?_
  refine zv_iconst (v := 4) G dX9_meetRows_8 (by decide) ?_
  refine zv_callVNi (as := [za_I a1, za_I 4]) G (by decide) rfl rfl (zc_X6_cell l E 2 a1 (4 : Int32) σ ) zk_X6_cell zm_592 rfl ⟨(Nat.le_of_ble_eq_true rfl), (Nat.le_of_ble_eq_true rfl)⟩ ⟨Nat.zero_le _, Nat.zero_le _⟩ (Nat.le_of_ble_eq_true rfl) dX9_meetRows_9 (fun r_9 σ h_9 => ?_)
  subst h_9
  refine zv_istore (lv' := [(5, za_I r_9), (0, za_O 0 0), (1, za_I a1), (2, za_I a2), (3, za_I a3), (4, za_I a4)]) G dX9_meetRows_12 (by decide) rfl ?_
  refine zv_iload_n (j := 4) G dX9_meetRows_14 rfl rfl ?_
  refine zv_aload_n (j := 1) G dX9_meetRows_15 rfl rfl ?_
  refine zg_X9_10 G dX9_meetRows_16 ?_
  refine zg_X9_102 G dX9_meetRows_19 ?_
  refine zv_iload_n (j := 2) G dX9_meetRows_22 rfl rfl ?_
  refine zv_iconst (v := 2) G dX9_meetRows_23 (by decide) ?_
  refine zv_callVNi (as := [za_I a1, za_I 2]) G (by decide) rfl rfl (zc_X6_cell l E 2 a1 (2 : Int32) σ ) zk_X6_cell zm_592 rfl ⟨(Nat.le_of_ble_eq_true rfl), (Nat.le_of_ble_eq_true rfl)⟩ ⟨Nat.zero_le _, Nat.zero_le _⟩ (Nat.le_of_ble_eq_true rfl) dX9_meetRows_24 (fun r_24 σ h_24 => ?_)
  subst h_24
  refine zv_aload_n (j := 1) G dX9_meetRows_27 rfl rfl ?_
  refine zg_X9_10 G dX9_meetRows_28 ?_
  refine zg_X9_179 G dX9_meetRows_31 ?_
  refine zv_iload_n (j := 3) G dX9_meetRows_34 rfl rfl ?_
  refine zv_iconst (v := 2) G dX9_meetRows_35 (by decide) ?_
  refine zv_callVNi (as := [za_I a2, za_I 2]) G (by decide) rfl rfl (zc_X6_cell l E 4 a2 (2 : Int32) σ ) zk_X6_cell zm_592 rfl ⟨(Nat.le_of_ble_eq_true rfl), (Nat.le_of_ble_eq_true rfl)⟩ ⟨Nat.zero_le _, Nat.zero_le _⟩ (Nat.le_of_ble_eq_true rfl) dX9_meetRows_36 (fun r_36 σ h_36 => ?_)
  subst h_36
  refine zv_mmax G zm_394 zm_395 zm_147 zm_396 (Nat.le_of_ble_eq_true rfl) (Nat.le_of_ble_eq_true rfl) (Nat.zero_le _) (Nat.zero_le _) dX9_meetRows_39 ?_
  refine zv_top (fun x_39 e_39 => ?_)
  refine zv_mmax G zm_394 zm_395 zm_147 zm_396 (Nat.le_of_ble_eq_true rfl) (Nat.le_of_ble_eq_true rfl) (Nat.zero_le _) (Nat.zero_le _) dX9_meetRows_42 ?_
  refine zv_top (fun x_42 e_42 => ?_)
  refine zv_istore (lv' := [(6, za_I x_42), (5, za_I r_9), (0, za_O 0 0), (1, za_I a1), (2, za_I a2), (3, za_I a3), (4, za_I a4)]) G dX9_meetRows_45 (by decide) rfl ?_
  refine zv_iload (j := 6) G dX9_meetRows_47 rfl ?_
  refine zv_aload_n (j := 2) G dX9_meetRows_49 rfl rfl ?_
  refine zg_X9_10 G dX9_meetRows_50 ?_
  refine zg_X9_102 G dX9_meetRows_53 ?_
  refine zv_iload_n (j := 3) G dX9_meetRows_56 rfl rfl ?_
  refine zv_iconst (v := 3) G dX9_meetRows_57 (by decide) ?_
  refine zv_callVNi (as := [za_I a1, za_I 3]) G (by decide) rfl rfl (zc_X6_cell l E 2 a1 (3 : Int32) σ ) zk_X6_cell zm_592 rfl ⟨(Nat.le_of_ble_eq_true rfl), (Nat.le_of_ble_eq_true rfl)⟩ ⟨Nat.zero_le _, Nat.zero_le _⟩ (Nat.le_of_ble_eq_true rfl) dX9_meetRows_58 (fun r_58 σ h_58 => ?_)
  subst h_58
  refine zv_aload_n (j := 2) G dX9_meetRows_61 rfl rfl ?_
  refine zg_X9_10 G dX9_meetRows_62 ?_
  refine zg_X9_179 G dX9_meetRows_65 ?_
  refine zv_iload_n (j := 4) G dX9_meetRows_68 rfl rfl ?_
  refine zv_iconst (v := 3) G dX9_meetRows_69 (by decide) ?_
  refine zv_callVNi (as := [za_I a2, za_I 3]) G (by decide) rfl rfl (zc_X6_cell l E 4 a2 (3 : Int32) σ ) zk_X6_cell zm_592 rfl ⟨(Nat.le_of_ble_eq_true rfl), (Nat.le_of_ble_eq_true rfl)⟩ ⟨Nat.zero_le _, Nat.zero_le _⟩ (Nat.le_of_ble_eq_true rfl) dX9_meetRows_70 (fun r_70 σ h_70 => ?_)
  subst h_70
  refine zv_mmin G zm_391 zm_392 zm_147 zm_393 (Nat.le_of_ble_eq_true rfl) (Nat.le_of_ble_eq_true rfl) (Nat.zero_le _) (Nat.zero_le _) dX9_meetRows_73 ?_
  refine zv_top (fun x_73 e_73 => ?_)
  refine zv_mmin G zm_391 zm_392 zm_147 zm_393 (Nat.le_of_ble_eq_true rfl) (Nat.le_of_ble_eq_true rfl) (Nat.zero_le _) (Nat.zero_le _) dX9_meetRows_76 ?_
  refine zv_top (fun x_76 e_76 => ?_)
  refine zv_istore (lv' := [(7, za_I x_76), (6, za_I x_42), (5, za_I r_9), (0, za_O 0 0), (1, za_I a1), (2, za_I a2), (3, za_I a3), (4, za_I a4)]) G dX9_meetRows_79 (by decide) rfl ?_
  refine zv_aload_n (j := 3) G dX9_meetRows_81 rfl rfl ?_
  refine zg_X9_10 G dX9_meetRows_82 ?_
  refine zg_X9_179 G dX9_meetRows_85 ?_
  refine zv_iload_n (j := 5) G dX9_meetRows_88 rfl rfl ?_
  refine zv_iconst (v := 0) G dX9_meetRows_89 (by decide) ?_
  refine zv_callVNi (as := [za_I a2, za_I 0]) G (by decide) rfl rfl (zc_X6_cell l E 4 a2 (0 : Int32) σ ) zk_X6_cell zm_592 rfl ⟨(Nat.le_of_ble_eq_true rfl), (Nat.le_of_ble_eq_true rfl)⟩ ⟨Nat.zero_le _, Nat.zero_le _⟩ (Nat.le_of_ble_eq_true rfl) dX9_meetRows_90 (fun r_90 σ h_90 => ?_)
  subst h_90
  refine zv_iload (j := 2) G dX9_meetRows_93 rfl ?_
  refine zv_icmp_ne (tgt := 166) G dX9_meetRows_95 (by decide) (fun c_95 => ?_) (fun c_95 => ?_)
  · exact zv_vret G hr dX9_meetRows_166 hz
  · refine zv_iload (j := 1) G dX9_meetRows_98 rfl ?_
    refine zv_iload (j := 0) G dX9_meetRows_100 rfl ?_
    refine zv_icmp_ge (tgt := 166) G dX9_meetRows_102 (by decide) (fun c_102 => ?_) (fun c_102 => ?_)
    · exact zv_vret G hr dX9_meetRows_166 hz
    · refine zv_aload_n (j := 3) G dX9_meetRows_105 rfl rfl ?_
      refine zg_X9_10 G dX9_meetRows_106 ?_
      refine zg_X9_102 G dX9_meetRows_109 ?_
      refine zv_iload_n (j := 4) G dX9_meetRows_112 rfl rfl ?_
      refine zv_iconst (v := 1) G dX9_meetRows_113 (by decide) ?_
      refine zv_callVNi (as := [za_I a1, za_I 1]) G (by decide) rfl rfl (zc_X6_cell l E 2 a1 (1 : Int32) σ ) zk_X6_cell zm_592 rfl ⟨(Nat.le_of_ble_eq_true rfl), (Nat.le_of_ble_eq_true rfl)⟩ ⟨Nat.zero_le _, Nat.zero_le _⟩ (Nat.le_of_ble_eq_true rfl) dX9_meetRows_114 (fun r_114 σ h_114 => ?_)
      subst h_114
      refine zv_bipush (v := 100) G dX9_meetRows_117 (by decide) ?_
      refine zv_imul G dX9_meetRows_119 ?_
      refine zv_aload_n (j := 3) G dX9_meetRows_120 rfl rfl ?_
      refine zg_X9_10 G dX9_meetRows_121 ?_
      refine zg_X9_179 G dX9_meetRows_124 ?_
      refine zv_iload_n (j := 5) G dX9_meetRows_127 rfl rfl ?_
      refine zv_iconst (v := 1) G dX9_meetRows_128 (by decide) ?_
      refine zv_callVNi (as := [za_I a2, za_I 1]) G (by decide) rfl rfl (zc_X6_cell l E 4 a2 (1 : Int32) σ ) zk_X6_cell zm_592 rfl ⟨(Nat.le_of_ble_eq_true rfl), (Nat.le_of_ble_eq_true rfl)⟩ ⟨Nat.zero_le _, Nat.zero_le _⟩ (Nat.le_of_ble_eq_true rfl) dX9_meetRows_129 (fun r_129 σ h_129 => ?_)
      subst h_129
      refine zv_iadd G dX9_meetRows_132 ?_
      refine zv_top (fun x_133 e_133 => ?_)
      refine zv_istore (lv' := [(8, za_I x_133), (7, za_I x_76), (6, za_I x_42), (5, za_I r_9), (0, za_O 0 0), (1, za_I a1), (2, za_I a2), (3, za_I a3), (4, za_I a4)]) G dX9_meetRows_133 (by decide) rfl ?_
      refine zv_aload_n (j := 4) G dX9_meetRows_135 rfl rfl ?_
      refine zg_X9_64 G dX9_meetRows_136 ?_
      refine zv_aload_n (j := 4) G dX9_meetRows_139 rfl rfl ?_
      refine zg_X9_10 G dX9_meetRows_140 ?_
      refine zg_X9_102 G dX9_meetRows_143 ?_
      refine zv_iload_n (j := 5) G dX9_meetRows_146 rfl rfl ?_
      refine zv_iconst (v := 0) G dX9_meetRows_147 (by decide) ?_
      refine zv_callVNi (as := [za_I a1, za_I 0]) G (by decide) rfl rfl (zc_X6_cell l E 2 a1 (0 : Int32) σ ) zk_X6_cell zm_592 rfl ⟨(Nat.le_of_ble_eq_true rfl), (Nat.le_of_ble_eq_true rfl)⟩ ⟨Nat.zero_le _, Nat.zero_le _⟩ (Nat.le_of_ble_eq_true rfl) dX9_meetRows_148 (fun r_148 σ h_148 => ?_)
      subst h_148
      refine zv_iload (j := 2) G dX9_meetRows_151 rfl ?_
      refine zv_iload (j := 1) G dX9_meetRows_153 rfl ?_
      refine zv_iload (j := 0) G dX9_meetRows_155 rfl ?_
      refine zv_bipush (v := 11) G dX9_meetRows_157 (by decide) ?_
      refine zv_imul G dX9_meetRows_159 ?_
      refine zv_iload (j := 3) G dX9_meetRows_160 rfl ?_
      refine zv_iadd G dX9_meetRows_162 ?_
      refine zv_callVNv (as := [za_I r_148, za_I x_42, za_I x_76, za_I ((x_133 * 11) + r_9)]) G (by decide) rfl rfl (zc_X5_add l E r_148 x_42 x_76 ((x_133 * 11) + r_9) σ ) zk_X5_add zm_838 rfl ⟨(Nat.le_of_ble_eq_true rfl), (Nat.le_of_ble_eq_true rfl)⟩ ⟨Nat.zero_le _, Nat.zero_le _⟩ (Nat.le_of_ble_eq_true rfl) dX9_meetRows_163 (fun σ h_163 => ?_)
      have hz9 := h_163
      have hz := zc_t hz hz9
      exact zv_vret G hr dX9_meetRows_166 hz
set_option maxHeartbeats 4000000 in
set_option maxRecDepth 100000 in
theorem zc_X9_tellStretches (l : Launch) (E : za_E)  (σ0 : za_S)  : zMi l E yX9_tellStretches cX9_tellStretches 1 (Option.some Jvm.ClassFile.FieldType.int) 3 65 [za_O 0 0] σ0 (fun r σ' => zc σ0 σ') := by
  refine zMi_of [(0, za_O 0 0)] (by decide) rfl rfl (Nat.le_of_ble_eq_true rfl) ?_
  intro ho p e s m args below meth c G hr
  refine zv_gen (R9 := zc σ0) (zc_r σ0) (fun σ hz => ?_)
  refine zv_aload_n (j := 0) G dX9_tellStretches_0 rfl rfl ?_
  refine zg_X9_40 G dX9_tellStretches_1 ?_
  refine zv_aload_n (j := 0) G dX9_tellStretches_4 rfl rfl ?_
  refine zg_X9_64 G dX9_tellStretches_5 ?_
  refine zg_X9_338 G dX9_tellStretches_8 ?_
  refine zv_i2l G dX9_tellStretches_11 ?_
  refine zv_callVNv (as := [za_L ((σ.1 89 1).toInt64)]) G (by decide) rfl rfl (zc_X8_tell l E ((σ.1 89 1).toInt64) σ ) zk_X8_tell zm_527 rfl ⟨(Nat.le_of_ble_eq_true rfl), (Nat.le_of_ble_eq_true rfl)⟩ ⟨Nat.zero_le _, Nat.zero_le _⟩ (Nat.le_of_ble_eq_true rfl) dX9_tellStretches_12 (fun σ h_12 => ?_)
  have hz9 := h_12
  have hz := zc_t hz hz9
  refine zv_aload_n (j := 0) G dX9_tellStretches_15 rfl rfl ?_
  refine zg_X9_64 G dX9_tellStretches_16 ?_
  refine zg_X9_341 G dX9_tellStretches_19 ?_
  refine zv_if_le (tgt := 70) G dX9_tellStretches_22 (by decide) (fun c_22 => ?_) (fun c_22 => ?_)
  · refine zv_aload_n (j := 0) G dX9_tellStretches_70 rfl rfl ?_
    refine zg_X9_64 G dX9_tellStretches_71 ?_
    refine zg_X9_341 G dX9_tellStretches_74 ?_
    exact zv_iret G hr dX9_tellStretches_77 hz
  · refine zv_aload_n (j := 0) G dX9_tellStretches_25 rfl rfl ?_
    refine zg_X9_40 G dX9_tellStretches_26 ?_
    refine zv_aload_n (j := 0) G dX9_tellStretches_29 rfl rfl ?_
    refine zg_X9_64 G dX9_tellStretches_30 ?_
    refine zg_X9_342 G dX9_tellStretches_33 ?_
    refine zv_i2l G dX9_tellStretches_36 ?_
    refine zv_callVNv (as := [za_L ((σ.1 89 2).toInt64)]) G (by decide) rfl rfl (zc_X8_add l E ((σ.1 89 2).toInt64) σ ) zk_X8_add zm_778 rfl ⟨(Nat.le_of_ble_eq_true rfl), (Nat.le_of_ble_eq_true rfl)⟩ ⟨Nat.zero_le _, Nat.zero_le _⟩ (Nat.le_of_ble_eq_true rfl) dX9_tellStretches_37 (fun σ h_37 => ?_)
    have hz9 := h_37
    have hz := zc_t hz hz9
    refine zv_aload_n (j := 0) G dX9_tellStretches_40 rfl rfl ?_
    refine zg_X9_40 G dX9_tellStretches_41 ?_
    refine zv_aload_n (j := 0) G dX9_tellStretches_44 rfl rfl ?_
    refine zg_X9_64 G dX9_tellStretches_45 ?_
    refine zg_X9_345 G dX9_tellStretches_48 ?_
    refine zv_i2l G dX9_tellStretches_51 ?_
    refine zv_callVNv (as := [za_L ((σ.1 89 3).toInt64)]) G (by decide) rfl rfl (zc_X8_add l E ((σ.1 89 3).toInt64) σ ) zk_X8_add zm_778 rfl ⟨(Nat.le_of_ble_eq_true rfl), (Nat.le_of_ble_eq_true rfl)⟩ ⟨Nat.zero_le _, Nat.zero_le _⟩ (Nat.le_of_ble_eq_true rfl) dX9_tellStretches_52 (fun σ h_52 => ?_)
    have hz9 := h_52
    have hz := zc_t hz hz9
    refine zv_aload_n (j := 0) G dX9_tellStretches_55 rfl rfl ?_
    refine zg_X9_40 G dX9_tellStretches_56 ?_
    refine zv_aload_n (j := 0) G dX9_tellStretches_59 rfl rfl ?_
    refine zg_X9_64 G dX9_tellStretches_60 ?_
    refine zg_X9_348 G dX9_tellStretches_63 ?_
    refine zv_i2l G dX9_tellStretches_66 ?_
    refine zv_callVNv (as := [za_L ((σ.1 89 4).toInt64)]) G (by decide) rfl rfl (zc_X8_add l E ((σ.1 89 4).toInt64) σ ) zk_X8_add zm_778 rfl ⟨(Nat.le_of_ble_eq_true rfl), (Nat.le_of_ble_eq_true rfl)⟩ ⟨Nat.zero_le _, Nat.zero_le _⟩ (Nat.le_of_ble_eq_true rfl) dX9_tellStretches_67 (fun σ h_67 => ?_)
    have hz9 := h_67
    have hz := zc_t hz hz9
    refine zv_aload_n (j := 0) G dX9_tellStretches_70 rfl rfl ?_
    refine zg_X9_64 G dX9_tellStretches_71 ?_
    refine zg_X9_341 G dX9_tellStretches_74 ?_
    exact zv_iret G hr dX9_tellStretches_77 hz
set_option maxHeartbeats 4000000 in
set_option maxRecDepth 100000 in
theorem zc_X9_meets (l : Launch) (E : za_E) (a1 : Int32) (a2 : Int32) (σ0 : za_S)  : zMi l E yX9_meets cX9_meets 5 (Option.some Jvm.ClassFile.FieldType.int) 4 92 [za_O 0 0, za_I a1, za_I a2] σ0 (fun r σ' => zc σ0 σ') := by
  refine zMi_of [(0, za_O 0 0), (1, za_I a1), (2, za_I a2)] (by decide) rfl rfl (Nat.le_of_ble_eq_true rfl) ?_
  intro ho p e s m args below meth c G hr
  refine zv_gen (R9 := zc σ0) (zc_r σ0) (fun σ hz => ?_)
  refine zv_iload_n (j := 1) G dX9_meets_0 rfl rfl ?_
  refine zv_iload_n (j := 2) G dX9_meets_1 rfl rfl ?_
  refine zv_callSi (as := [za_I a1, za_I a2]) G (zc_X9_isPeriod l E a1 a2 σ ) zk_X9_isPeriod zm_444 rfl ⟨(Nat.le_of_ble_eq_true rfl), (Nat.le_of_ble_eq_true rfl)⟩ ⟨Nat.zero_le _, Nat.zero_le _⟩ (Nat.le_of_ble_eq_true rfl) dX9_meets_2 (fun r_2 σ h_2 => ?_)
  obtain ⟨h_2, rfl⟩ := h_2
  refine zv_if_ne (tgt := 10) G dX9_meets_5 (by decide) (fun c_5 => ?_) (fun c_5 => ?_)
  · refine zv_aload_n (j := 0) G dX9_meets_10 rfl rfl ?_
    refine zg_X9_64 G dX9_meets_11 ?_
    refine zv_callVNv (as := []) G (by decide) rfl rfl (zc_X5_clear l E  σ ) zk_X5_clear zm_830 rfl ⟨(Nat.le_of_ble_eq_true rfl), (Nat.le_of_ble_eq_true rfl)⟩ ⟨Nat.zero_le _, Nat.zero_le _⟩ (Nat.le_of_ble_eq_true rfl) dX9_meets_14 (fun σ h_14 => ?_)
    have hz9 := h_14
    have hz := zc_t hz hz9
    refine zv_iconst (v := 0) G dX9_meets_17 (by decide) ?_
    have J_19 : ∀ (n : Nat) (y3_19 : Int32) (σ : za_S) (hz : zc σ0 σ) (hn_19 : (2147483648 - y3_19.toInt).toNat < n), zV p l e (zRm 4 92) s m args below meth c E (za_A E) 5 0 0 (MQ below (va_Qi (fun r σ' => zc σ0 σ') (zB E) (za_A E)) args s 0 0 (za_A E)) 19 [(0, za_O 0 0), (1, za_I a1), (2, za_I a2), (3, za_I y3_19)] [] σ := by
      intro n
      induction n with
      | zero => intro y3_19 σ hz hn; exact absurd hn (Nat.not_lt_zero _)
      | succ n ih_19 =>
        intro y3_19 σ hz hn_19
        refine zv_iload_n (j := 3) G dX9_meets_19 rfl rfl ?_
        refine zv_aload_n (j := 0) G dX9_meets_20 rfl rfl ?_
        refine zg_X9_10 G dX9_meets_21 ?_
        refine zg_X9_102 G dX9_meets_24 ?_
        refine zg_X9_106 G dX9_meets_27 ?_
        refine zv_icmp_ge (tgt := 72) G dX9_meets_30 (by decide) (fun c_30 => ?_) (fun c_30 => ?_)
        · refine zv_aload_n (j := 0) G dX9_meets_72 rfl rfl ?_
          refine zv_callVi (as := []) G (by decide) rfl rfl (zc_X9_tellStretches l E  σ ) zk_X9_tellStretches zm_842 rfl ⟨(Nat.le_of_ble_eq_true rfl), (Nat.le_of_ble_eq_true rfl)⟩ ⟨Nat.zero_le _, Nat.zero_le _⟩ (Nat.le_of_ble_eq_true rfl) dX9_meets_73 (fun r_73 σ h_73 => ?_)
          have hz9 := h_73
          have hz := zc_t hz hz9
          exact zv_iret G hr dX9_meets_76 hz
        · refine zv_iconst (v := 0) G dX9_meets_33 (by decide) ?_
          have J_36 : ∀ (n : Nat) (y4_36 : Int32) (σ : za_S) (hz : zc σ0 σ) (hn_36 : (2147483648 - y4_36.toInt).toNat < n), zV p l e (zRm 4 92) s m args below meth c E (za_A E) 5 0 0 (MQ below (va_Qi (fun r σ' => zc σ0 σ') (zB E) (za_A E)) args s 0 0 (za_A E)) 36 [(0, za_O 0 0), (1, za_I a1), (2, za_I a2), (3, za_I y3_19), (4, za_I y4_36)] [] σ := by
            intro n
            induction n with
            | zero => intro y4_36 σ hz hn; exact absurd hn (Nat.not_lt_zero _)
            | succ n ih_36 =>
              intro y4_36 σ hz hn_36
              refine zv_iload (j := 4) G dX9_meets_36 rfl ?_
              refine zv_aload_n (j := 0) G dX9_meets_38 rfl rfl ?_
              refine zg_X9_10 G dX9_meets_39 ?_
              refine zg_X9_179 G dX9_meets_42 ?_
              refine zg_X9_106 G dX9_meets_45 ?_
              refine zv_icmp_ge (tgt := 66) G dX9_meets_48 (by decide) (fun c_48 => ?_) (fun c_48 => ?_)
              · obtain ⟨x_66, e_66⟩ : ∃ y : Int32, y = y3_19 + 1 := ⟨_, rfl⟩
                refine zv_iinc (j := 3) (v := x_66) (lv' := [(3, za_I x_66), (0, za_O 0 0), (1, za_I a1), (2, za_I a2), (4, za_I y4_36)]) G dX9_meets_66 rfl (by rw [e_66]; rfl) (by decide) rfl ?_
                refine zv_goto (tgt := 19) G dX9_meets_69 (by decide) ?_
                refine zv_sub [1, 2, 3, 0] (lv' := [(0, za_O 0 0), (1, za_I a1), (2, za_I a2), (3, za_I x_66)]) rfl ?_
                exact ih_19 x_66 σ hz (z_meas c_30 e_66 hn_19)
              · refine zv_aload_n (j := 0) G dX9_meets_51 rfl rfl ?_
                refine zv_iload_n (j := 3) G dX9_meets_52 rfl rfl ?_
                refine zv_iload (j := 4) G dX9_meets_53 rfl ?_
                refine zv_iload_n (j := 1) G dX9_meets_55 rfl rfl ?_
                refine zv_iload_n (j := 2) G dX9_meets_56 rfl rfl ?_
                refine zv_callVv (as := [za_I y3_19, za_I y4_36, za_I a1, za_I a2]) G (by decide) rfl rfl (zc_X9_meetRows l E y3_19 y4_36 a1 a2 σ ) zk_X9_meetRows zm_834 rfl ⟨(Nat.le_of_ble_eq_true rfl), (Nat.le_of_ble_eq_true rfl)⟩ ⟨Nat.zero_le _, Nat.zero_le _⟩ (Nat.le_of_ble_eq_true rfl) dX9_meets_57 (fun σ h_57 => ?_)
                have hz9 := h_57
                have hz := zc_t hz hz9
                obtain ⟨x_60, e_60⟩ : ∃ y : Int32, y = y4_36 + 1 := ⟨_, rfl⟩
                refine zv_iinc (j := 4) (v := x_60) (lv' := [(4, za_I x_60), (0, za_O 0 0), (1, za_I a1), (2, za_I a2), (3, za_I y3_19)]) G dX9_meets_60 rfl (by rw [e_60]; rfl) (by decide) rfl ?_
                refine zv_goto (tgt := 36) G dX9_meets_63 (by decide) ?_
                refine zv_sub [1, 2, 3, 4, 0] (lv' := [(0, za_O 0 0), (1, za_I a1), (2, za_I a2), (3, za_I y3_19), (4, za_I x_60)]) rfl ?_
                exact ih_36 x_60 σ hz (z_meas c_48 e_60 hn_36)
          refine zv_istore (lv' := [(4, za_I 0), (0, za_O 0 0), (1, za_I a1), (2, za_I a2), (3, za_I y3_19)]) G dX9_meets_34 (by decide) rfl ?_
          refine zv_sub [1, 2, 3, 4, 0] (lv' := [(0, za_O 0 0), (1, za_I a1), (2, za_I a2), (3, za_I y3_19), (4, za_I 0)]) rfl ?_
          exact J_36 _ (0 : Int32) σ hz (Nat.lt_succ_self _)
    refine zv_istore_n (lv' := [(3, za_I 0), (0, za_O 0 0), (1, za_I a1), (2, za_I a2)]) G dX9_meets_18 rfl (by decide) rfl ?_
    refine zv_sub [1, 2, 3, 0] (lv' := [(0, za_O 0 0), (1, za_I a1), (2, za_I a2), (3, za_I 0)]) rfl ?_
    exact J_19 _ (0 : Int32) σ hz (Nat.lt_succ_self _)
  · refine zv_iconst (v := (-1)) G dX9_meets_8 (by decide) ?_
    exact zv_iret G hr dX9_meets_9 hz
set_option maxHeartbeats 4000000 in
set_option maxRecDepth 100000 in
theorem zc_X9_markBoth (l : Launch) (E : za_E) (a1 : Int32) (σ0 : za_S)  : zMv l E yX9_markBoth cX9_markBoth 2 (Option.none : Option Jvm.ClassFile.FieldType) 4 88 [za_O 0 0, za_I a1] σ0 (fun σ' => zc σ0 σ') := by
  refine zMv_of [(0, za_O 0 0), (1, za_I a1)] (by decide) rfl rfl (Nat.le_of_ble_eq_true rfl) ?_
  intro ho p e s m args below meth c G hr
  refine zv_gen (R9 := zc σ0) (zc_r σ0) (fun σ hz => ?_)
  refine zv_aload_n (j := 0) G dX9_markBoth_0 rfl rfl ?_
  refine zg_X9_54 G dX9_markBoth_1 ?_
  refine zv_callVNv (as := []) G (by decide) rfl rfl (zc_X1_clear l E 85 σ ) zk_X1_clear zm_577 rfl ⟨(Nat.le_of_ble_eq_true rfl), (Nat.le_of_ble_eq_true rfl)⟩ ⟨Nat.zero_le _, Nat.zero_le _⟩ (Nat.le_of_ble_eq_true rfl) dX9_markBoth_4 (fun σ h_4 => ?_)
  have hz9 := h_4
  have hz := zc_t hz hz9
  refine zv_aload_n (j := 0) G dX9_markBoth_7 rfl rfl ?_
  refine zg_X9_54 G dX9_markBoth_8 ?_
  refine zv_aload_n (j := 0) G dX9_markBoth_11 rfl rfl ?_
  refine zg_X9_10 G dX9_markBoth_12 ?_
  refine zg_X9_102 G dX9_markBoth_15 ?_
  refine zv_iload_n (j := 1) G dX9_markBoth_18 rfl rfl ?_
  refine zv_iconst (v := 1) G dX9_markBoth_19 (by decide) ?_
  refine zv_callVNv (as := [za_O 2 2, za_I a1, za_I 1]) G (by decide) rfl rfl (zc_X1_addRows l E 85 2 a1 (1 : Int32) σ ) zk_X1_addRows zm_581 rfl ⟨(Nat.le_of_ble_eq_true rfl), (Nat.le_of_ble_eq_true rfl)⟩ ⟨Nat.zero_le _, Nat.zero_le _⟩ (Nat.le_of_ble_eq_true rfl) dX9_markBoth_20 (fun σ h_20 => ?_)
  have hz9 := h_20
  have hz := zc_t hz hz9
  refine zv_aload_n (j := 0) G dX9_markBoth_23 rfl rfl ?_
  refine zg_X9_54 G dX9_markBoth_24 ?_
  refine zv_aload_n (j := 0) G dX9_markBoth_27 rfl rfl ?_
  refine zg_X9_10 G dX9_markBoth_28 ?_
  refine zg_X9_179 G dX9_markBoth_31 ?_
  refine zv_iload_n (j := 1) G dX9_markBoth_34 rfl rfl ?_
  refine zv_iconst (v := 2) G dX9_markBoth_35 (by decide) ?_
  refine zv_callVNv (as := [za_O 2 4, za_I a1, za_I 2]) G (by decide) rfl rfl (zc_X1_addRows l E 85 4 a1 (2 : Int32) σ ) zk_X1_addRows zm_581 rfl ⟨(Nat.le_of_ble_eq_true rfl), (Nat.le_of_ble_eq_true rfl)⟩ ⟨Nat.zero_le _, Nat.zero_le _⟩ (Nat.le_of_ble_eq_true rfl) dX9_markBoth_36 (fun σ h_36 => ?_)
  have hz9 := h_36
  have hz := zc_t hz hz9
  exact zv_vret G hr dX9_markBoth_39 hz
set_option maxHeartbeats 4000000 in
set_option maxRecDepth 100000 in
theorem zc_X9_lacks (l : Launch) (E : za_E) (a1 : Int32) (σ0 : za_S)  : zMi l E yX9_lacks cX9_lacks 4 (Option.some Jvm.ClassFile.FieldType.int) 5 109 [za_O 0 0, za_I a1] σ0 (fun r σ' => zc σ0 σ') := by
  refine zMi_of [(0, za_O 0 0), (1, za_I a1)] (by decide) rfl rfl (Nat.le_of_ble_eq_true rfl) ?_
  intro ho p e s m args below meth c G hr
  refine zv_gen (R9 := zc σ0) (zc_r σ0) (fun σ hz => ?_)
  refine zv_iload_n (j := 1) G dX9_lacks_0 rfl rfl ?_
  refine zv_callSi (as := [za_I a1]) G (zc_X9_isTable l E a1 σ ) zk_X9_isTable zm_438 rfl ⟨(Nat.le_of_ble_eq_true rfl), (Nat.le_of_ble_eq_true rfl)⟩ ⟨Nat.zero_le _, Nat.zero_le _⟩ (Nat.le_of_ble_eq_true rfl) dX9_lacks_1 (fun r_1 σ h_1 => ?_)
  obtain ⟨h_1, rfl⟩ := h_1
  refine zv_if_ne (tgt := 9) G dX9_lacks_4 (by decide) (fun c_4 => ?_) (fun c_4 => ?_)
  · refine zv_aload_n (j := 0) G dX9_lacks_9 rfl rfl ?_
    refine zg_X9_64 G dX9_lacks_10 ?_
    refine zv_callVNv (as := []) G (by decide) rfl rfl (zc_X5_clear l E  σ ) zk_X5_clear zm_830 rfl ⟨(Nat.le_of_ble_eq_true rfl), (Nat.le_of_ble_eq_true rfl)⟩ ⟨Nat.zero_le _, Nat.zero_le _⟩ (Nat.le_of_ble_eq_true rfl) dX9_lacks_13 (fun σ h_13 => ?_)
    have hz9 := h_13
    have hz := zc_t hz hz9
    refine zv_iconst (v := 0) G dX9_lacks_16 (by decide) ?_
    have J_18 : ∀ (n : Nat) (y2_18 : Int32) (σ : za_S) (hz : zc σ0 σ) (hn_18 : (2147483648 - y2_18.toInt).toNat < n), zV p l e (zRm 5 109) s m args below meth c E (za_A E) 4 0 0 (MQ below (va_Qi (fun r σ' => zc σ0 σ') (zB E) (za_A E)) args s 0 0 (za_A E)) 18 [(0, za_O 0 0), (1, za_I a1), (2, za_I y2_18)] [] σ := by
      intro n
      induction n with
      | zero => intro y2_18 σ hz hn; exact absurd hn (Nat.not_lt_zero _)
      | succ n ih_18 =>
        intro y2_18 σ hz hn_18
        refine zv_iload_n (j := 2) G dX9_lacks_18 rfl rfl ?_
        refine zv_bipush (v := 10) G dX9_lacks_19 (by decide) ?_
        refine zv_icmp_ge (tgt := 76) G dX9_lacks_21 (by decide) (fun c_21 => ?_) (fun c_21 => ?_)
        · refine zv_aload_n (j := 0) G dX9_lacks_76 rfl rfl ?_
          refine zv_callVi (as := []) G (by decide) rfl rfl (zc_X9_tellStretches l E  σ ) zk_X9_tellStretches zm_842 rfl ⟨(Nat.le_of_ble_eq_true rfl), (Nat.le_of_ble_eq_true rfl)⟩ ⟨Nat.zero_le _, Nat.zero_le _⟩ (Nat.le_of_ble_eq_true rfl) dX9_lacks_77 (fun r_77 σ h_77 => ?_)
          have hz9 := h_77
          have hz := zc_t hz hz9
          exact zv_iret G hr dX9_lacks_80 hz
        · refine zv_aload_n (j := 0) G dX9_lacks_24 rfl rfl ?_
          refine zv_iload_n (j := 2) G dX9_lacks_25 rfl rfl ?_
          refine zv_callVv (as := [za_I y2_18]) G (by decide) rfl rfl (zc_X9_markBoth l E y2_18 σ ) zk_X9_markBoth zm_850 rfl ⟨(Nat.le_of_ble_eq_true rfl), (Nat.le_of_ble_eq_true rfl)⟩ ⟨Nat.zero_le _, Nat.zero_le _⟩ (Nat.le_of_ble_eq_true rfl) dX9_lacks_26 (fun σ h_26 => ?_)
          have hz9 := h_26
          have hz := zc_t hz hz9
          refine zv_iconst (v := 0) G dX9_lacks_29 (by decide) ?_
          have J_31 : ∀ (n : Nat) (y3_31 : Int32) (σ : za_S) (hz : zc σ0 σ) (hn_31 : (2147483648 - y3_31.toInt).toNat < n), zV p l e (zRm 5 109) s m args below meth c E (za_A E) 4 0 0 (MQ below (va_Qi (fun r σ' => zc σ0 σ') (zB E) (za_A E)) args s 0 0 (za_A E)) 31 [(0, za_O 0 0), (1, za_I a1), (2, za_I y2_18), (3, za_I y3_31)] [] σ := by
            intro n
            induction n with
            | zero => intro y3_31 σ hz hn; exact absurd hn (Nat.not_lt_zero _)
            | succ n ih_31 =>
              intro y3_31 σ hz hn_31
              refine zv_iload_n (j := 3) G dX9_lacks_31 rfl rfl ?_
              refine zv_bipush (v := 100) G dX9_lacks_32 (by decide) ?_
              refine zv_icmp_ge (tgt := 70) G dX9_lacks_34 (by decide) (fun c_34 => ?_) (fun c_34 => ?_)
              · obtain ⟨x_70, e_70⟩ : ∃ y : Int32, y = y2_18 + 1 := ⟨_, rfl⟩
                refine zv_iinc (j := 2) (v := x_70) (lv' := [(2, za_I x_70), (0, za_O 0 0), (1, za_I a1), (3, za_I y3_31)]) G dX9_lacks_70 rfl (by rw [e_70]; rfl) (by decide) rfl ?_
                refine zv_goto (tgt := 18) G dX9_lacks_73 (by decide) ?_
                refine zv_sub [1, 2, 0] (lv' := [(0, za_O 0 0), (1, za_I a1), (2, za_I x_70)]) rfl ?_
                exact ih_18 x_70 σ hz (z_meas c_21 e_70 hn_18)
              · refine zv_aload_n (j := 0) G dX9_lacks_37 rfl rfl ?_
                refine zg_X9_54 G dX9_lacks_38 ?_
                refine zv_iload_n (j := 3) G dX9_lacks_41 rfl rfl ?_
                refine zv_callVNi (as := [za_I y3_31]) G (by decide) rfl rfl (zc_X1_amount l E 85 y3_31 σ ) zk_X1_amount zm_606 rfl ⟨(Nat.le_of_ble_eq_true rfl), (Nat.le_of_ble_eq_true rfl)⟩ ⟨Nat.zero_le _, Nat.zero_le _⟩ (Nat.le_of_ble_eq_true rfl) dX9_lacks_42 (fun r_42 σ h_42 => ?_)
                subst h_42
                refine zv_iconst (v := 1) G dX9_lacks_45 (by decide) ?_
                refine zv_iload_n (j := 1) G dX9_lacks_46 rfl rfl ?_
                refine zv_iadd G dX9_lacks_47 ?_
                refine zv_icmp_ne (tgt := 64) G dX9_lacks_48 (by decide) (fun c_48 => ?_) (fun c_48 => ?_)
                · obtain ⟨x_64, e_64⟩ : ∃ y : Int32, y = y3_31 + 1 := ⟨_, rfl⟩
                  refine zv_iinc (j := 3) (v := x_64) (lv' := [(3, za_I x_64), (0, za_O 0 0), (1, za_I a1), (2, za_I y2_18)]) G dX9_lacks_64 rfl (by rw [e_64]; rfl) (by decide) rfl ?_
                  refine zv_goto (tgt := 31) G dX9_lacks_67 (by decide) ?_
                  refine zv_sub [1, 2, 3, 0] (lv' := [(0, za_O 0 0), (1, za_I a1), (2, za_I y2_18), (3, za_I x_64)]) rfl ?_
                  exact ih_31 x_64 σ hz (z_meas c_34 e_64 hn_31)
                · refine zv_aload_n (j := 0) G dX9_lacks_51 rfl rfl ?_
                  refine zg_X9_64 G dX9_lacks_52 ?_
                  refine zv_iload_n (j := 2) G dX9_lacks_55 rfl rfl ?_
                  refine zv_iload_n (j := 3) G dX9_lacks_56 rfl rfl ?_
                  refine zv_iload_n (j := 3) G dX9_lacks_57 rfl rfl ?_
                  refine zv_iconst (v := 1) G dX9_lacks_58 (by decide) ?_
                  refine zv_iadd G dX9_lacks_59 ?_
                  refine zv_iconst (v := 0) G dX9_lacks_60 (by decide) ?_
                  refine zv_callVNv (as := [za_I y2_18, za_I y3_31, za_I (y3_31 + 1), za_I 0]) G (by decide) rfl rfl (zc_X5_add l E y2_18 y3_31 (y3_31 + 1) (0 : Int32) σ ) zk_X5_add zm_838 rfl ⟨(Nat.le_of_ble_eq_true rfl), (Nat.le_of_ble_eq_true rfl)⟩ ⟨Nat.zero_le _, Nat.zero_le _⟩ (Nat.le_of_ble_eq_true rfl) dX9_lacks_61 (fun σ h_61 => ?_)
                  have hz9 := h_61
                  have hz := zc_t hz hz9
                  obtain ⟨x_64, e_64⟩ : ∃ y : Int32, y = y3_31 + 1 := ⟨_, rfl⟩
                  refine zv_iinc (j := 3) (v := x_64) (lv' := [(3, za_I x_64), (0, za_O 0 0), (1, za_I a1), (2, za_I y2_18)]) G dX9_lacks_64 rfl (by rw [e_64]; rfl) (by decide) rfl ?_
                  refine zv_goto (tgt := 31) G dX9_lacks_67 (by decide) ?_
                  refine zv_sub [1, 2, 3, 0] (lv' := [(0, za_O 0 0), (1, za_I a1), (2, za_I y2_18), (3, za_I x_64)]) rfl ?_
                  exact ih_31 x_64 σ hz (z_meas c_34 e_64 hn_31)
          refine zv_istore_n (lv' := [(3, za_I 0), (0, za_O 0 0), (1, za_I a1), (2, za_I y2_18)]) G dX9_lacks_30 rfl (by decide) rfl ?_
          refine zv_sub [1, 2, 3, 0] (lv' := [(0, za_O 0 0), (1, za_I a1), (2, za_I y2_18), (3, za_I 0)]) rfl ?_
          exact J_31 _ (0 : Int32) σ hz (Nat.lt_succ_self _)
    refine zv_istore_n (lv' := [(2, za_I 0), (0, za_O 0 0), (1, za_I a1)]) G dX9_lacks_17 rfl (by decide) rfl ?_
    refine zv_sub [1, 2, 0] (lv' := [(0, za_O 0 0), (1, za_I a1), (2, za_I 0)]) rfl ?_
    exact J_18 _ (0 : Int32) σ hz (Nat.lt_succ_self _)
  · refine zv_iconst (v := (-1)) G dX9_lacks_7 (by decide) ?_
    exact zv_iret G hr dX9_lacks_8 hz
set_option maxHeartbeats 4000000 in
set_option maxRecDepth 100000 in
theorem zc_X9_either (l : Launch) (E : za_E)  (σ0 : za_S)  : zMi l E yX9_either cX9_either 4 (Option.some Jvm.ClassFile.FieldType.int) 5 109 [za_O 0 0] σ0 (fun r σ' => zc σ0 σ') := by
  refine zMi_of [(0, za_O 0 0)] (by decide) rfl rfl (Nat.le_of_ble_eq_true rfl) ?_
  intro ho p e s m args below meth c G hr
  refine zv_gen (R9 := zc σ0) (zc_r σ0) (fun σ hz => ?_)
  refine zv_iconst (v := 0) G dX9_either_0 (by decide) ?_
  refine zv_istore_n (lv' := [(1, za_I 0), (0, za_O 0 0)]) G dX9_either_1 rfl (by decide) rfl ?_
  refine zv_aload_n (j := 1) G dX9_either_2 rfl rfl ?_
  refine zg_X9_64 G dX9_either_3 ?_
  refine zv_callVNv (as := []) G (by decide) rfl rfl (zc_X5_clear l E  σ ) zk_X5_clear zm_830 rfl ⟨(Nat.le_of_ble_eq_true rfl), (Nat.le_of_ble_eq_true rfl)⟩ ⟨Nat.zero_le _, Nat.zero_le _⟩ (Nat.le_of_ble_eq_true rfl) dX9_either_6 (fun σ h_6 => ?_)
  have hz9 := h_6
  have hz := zc_t hz hz9
  refine zv_iconst (v := 0) G dX9_either_9 (by decide) ?_
  have J_11 : ∀ (n : Nat) (y1_11 : Int32) (y2_11 : Int32) (σ : za_S) (hz : zc σ0 σ) (hn_11 : (2147483648 - y2_11.toInt).toNat < n), zV p l e (zRm 5 109) s m args below meth c E (za_A E) 4 0 0 (MQ below (va_Qi (fun r σ' => zc σ0 σ') (zB E) (za_A E)) args s 0 0 (za_A E)) 11 [(0, za_O 0 0), (1, za_I y1_11), (2, za_I y2_11)] [] σ := by
    intro n
    induction n with
    | zero => intro y1_11 y2_11 σ hz hn; exact absurd hn (Nat.not_lt_zero _)
    | succ n ih_11 =>
      intro y1_11 y2_11 σ hz hn_11
      refine zv_iload_n (j := 2) G dX9_either_11 rfl rfl ?_
      refine zv_bipush (v := 10) G dX9_either_12 (by decide) ?_
      refine zv_icmp_ge (tgt := 81) G dX9_either_14 (by decide) (fun c_14 => ?_) (fun c_14 => ?_)
      · refine zv_aload_n (j := 0) G dX9_either_81 rfl rfl ?_
        refine zg_X9_40 G dX9_either_82 ?_
        refine zv_aload_n (j := 0) G dX9_either_85 rfl rfl ?_
        refine zg_X9_64 G dX9_either_86 ?_
        refine zg_X9_338 G dX9_either_89 ?_
        refine zv_i2l G dX9_either_92 ?_
        refine zv_iload_n (j := 1) G dX9_either_93 rfl rfl ?_
        refine zv_i2l G dX9_either_94 ?_
        refine zv_callVNv (as := [za_L ((σ.1 89 1).toInt64), za_L y1_11.toInt64]) G (by decide) rfl rfl (zc_X8_tell_ l E ((σ.1 89 1).toInt64) y1_11.toInt64 σ ) zk_X8_tell_ zm_608 rfl ⟨(Nat.le_of_ble_eq_true rfl), (Nat.le_of_ble_eq_true rfl)⟩ ⟨Nat.zero_le _, Nat.zero_le _⟩ (Nat.le_of_ble_eq_true rfl) dX9_either_95 (fun σ h_95 => ?_)
        have hz9 := h_95
        have hz := zc_t hz hz9
        refine zv_aload_n (j := 0) G dX9_either_98 rfl rfl ?_
        refine zg_X9_64 G dX9_either_99 ?_
        refine zg_X9_341 G dX9_either_102 ?_
        exact zv_iret G hr dX9_either_105 hz
      · refine zv_aload_n (j := 0) G dX9_either_17 rfl rfl ?_
        refine zv_iload_n (j := 2) G dX9_either_18 rfl rfl ?_
        refine zv_callVv (as := [za_I y2_11]) G (by decide) rfl rfl (zc_X9_markBoth l E y2_11 σ ) zk_X9_markBoth zm_850 rfl ⟨(Nat.le_of_ble_eq_true rfl), (Nat.le_of_ble_eq_true rfl)⟩ ⟨Nat.zero_le _, Nat.zero_le _⟩ (Nat.le_of_ble_eq_true rfl) dX9_either_19 (fun σ h_19 => ?_)
        have hz9 := h_19
        have hz := zc_t hz hz9
        refine zv_iconst (v := 0) G dX9_either_22 (by decide) ?_
        have J_24 : ∀ (n : Nat) (y1_24 : Int32) (y3_24 : Int32) (σ : za_S) (hz : zc σ0 σ) (hn_24 : (2147483648 - y3_24.toInt).toNat < n), zV p l e (zRm 5 109) s m args below meth c E (za_A E) 4 0 0 (MQ below (va_Qi (fun r σ' => zc σ0 σ') (zB E) (za_A E)) args s 0 0 (za_A E)) 24 [(0, za_O 0 0), (1, za_I y1_24), (2, za_I y2_11), (3, za_I y3_24)] [] σ := by
          intro n
          induction n with
          | zero => intro y1_24 y3_24 σ hz hn; exact absurd hn (Nat.not_lt_zero _)
          | succ n ih_24 =>
            intro y1_24 y3_24 σ hz hn_24
            refine zv_iload_n (j := 3) G dX9_either_24 rfl rfl ?_
            refine zv_bipush (v := 100) G dX9_either_25 (by decide) ?_
            refine zv_icmp_ge (tgt := 75) G dX9_either_27 (by decide) (fun c_27 => ?_) (fun c_27 => ?_)
            · obtain ⟨x_75, e_75⟩ : ∃ y : Int32, y = y2_11 + 1 := ⟨_, rfl⟩
              refine zv_iinc (j := 2) (v := x_75) (lv' := [(2, za_I x_75), (0, za_O 0 0), (1, za_I y1_24), (3, za_I y3_24)]) G dX9_either_75 rfl (by rw [e_75]; rfl) (by decide) rfl ?_
              refine zv_goto (tgt := 11) G dX9_either_78 (by decide) ?_
              refine zv_sub [1, 2, 0] (lv' := [(0, za_O 0 0), (1, za_I y1_24), (2, za_I x_75)]) rfl ?_
              exact ih_11 y1_24 x_75 σ hz (z_meas c_14 e_75 hn_11)
            · refine zv_aload_n (j := 0) G dX9_either_30 rfl rfl ?_
              refine zg_X9_54 G dX9_either_31 ?_
              refine zv_iload_n (j := 3) G dX9_either_34 rfl rfl ?_
              refine zv_callVNi (as := [za_I y3_24]) G (by decide) rfl rfl (zc_X1_amount l E 85 y3_24 σ ) zk_X1_amount zm_606 rfl ⟨(Nat.le_of_ble_eq_true rfl), (Nat.le_of_ble_eq_true rfl)⟩ ⟨Nat.zero_le _, Nat.zero_le _⟩ (Nat.le_of_ble_eq_true rfl) dX9_either_35 (fun r_35 σ h_35 => ?_)
              subst h_35
              have J_54 : ∀  (σ : za_S) (hz : zc σ0 σ), zV p l e (zRm 5 109) s m args below meth c E (za_A E) 4 0 0 (MQ below (va_Qi (fun r σ' => zc σ0 σ') (zB E) (za_A E)) args s 0 0 (za_A E)) 54 [(0, za_O 0 0), (1, za_I y1_24), (2, za_I y2_11), (3, za_I y3_24)] [] σ := by
                intro σ hz
                refine zv_aload_n (j := 0) G dX9_either_54 rfl rfl ?_
                refine zg_X9_54 G dX9_either_55 ?_
                refine zv_iload_n (j := 3) G dX9_either_58 rfl rfl ?_
                refine zv_callVNi (as := [za_I y3_24]) G (by decide) rfl rfl (zc_X1_amount l E 85 y3_24 σ ) zk_X1_amount zm_606 rfl ⟨(Nat.le_of_ble_eq_true rfl), (Nat.le_of_ble_eq_true rfl)⟩ ⟨Nat.zero_le _, Nat.zero_le _⟩ (Nat.le_of_ble_eq_true rfl) dX9_either_59 (fun r_59 σ h_59 => ?_)
                subst h_59
                refine zv_iconst (v := 3) G dX9_either_62 (by decide) ?_
                refine zv_icmp_ne (tgt := 69) G dX9_either_63 (by decide) (fun c_63 => ?_) (fun c_63 => ?_)
                · obtain ⟨x_69, e_69⟩ : ∃ y : Int32, y = y3_24 + 1 := ⟨_, rfl⟩
                  refine zv_iinc (j := 3) (v := x_69) (lv' := [(3, za_I x_69), (0, za_O 0 0), (1, za_I y1_24), (2, za_I y2_11)]) G dX9_either_69 rfl (by rw [e_69]; rfl) (by decide) rfl ?_
                  refine zv_goto (tgt := 24) G dX9_either_72 (by decide) ?_
                  refine zv_sub [1, 2, 3, 0] (lv' := [(0, za_O 0 0), (1, za_I y1_24), (2, za_I y2_11), (3, za_I x_69)]) rfl ?_
                  exact ih_24 y1_24 x_69 σ hz (z_meas c_27 e_69 hn_24)
                · obtain ⟨x_66, e_66⟩ : ∃ y : Int32, y = y1_24 + 1 := ⟨_, rfl⟩
                  refine zv_iinc (j := 1) (v := x_66) (lv' := [(1, za_I x_66), (0, za_O 0 0), (2, za_I y2_11), (3, za_I y3_24)]) G dX9_either_66 rfl (by rw [e_66]; rfl) (by decide) rfl ?_
                  obtain ⟨x_69, e_69⟩ : ∃ y : Int32, y = y3_24 + 1 := ⟨_, rfl⟩
                  refine zv_iinc (j := 3) (v := x_69) (lv' := [(3, za_I x_69), (1, za_I x_66), (0, za_O 0 0), (2, za_I y2_11)]) G dX9_either_69 rfl (by rw [e_69]; rfl) (by decide) rfl ?_
                  refine zv_goto (tgt := 24) G dX9_either_72 (by decide) ?_
                  refine zv_sub [2, 1, 3, 0] (lv' := [(0, za_O 0 0), (1, za_I x_66), (2, za_I y2_11), (3, za_I x_69)]) rfl ?_
                  exact ih_24 x_66 x_69 σ hz (z_meas c_27 e_69 hn_24)
              refine zv_if_le (tgt := 54) G dX9_either_38 (by decide) (fun c_38 => ?_) (fun c_38 => ?_)
              · refine zv_sub [0, 1, 2, 3] (lv' := [(0, za_O 0 0), (1, za_I y1_24), (2, za_I y2_11), (3, za_I y3_24)]) rfl ?_
                exact J_54 σ hz
              · refine zv_aload_n (j := 0) G dX9_either_41 rfl rfl ?_
                refine zg_X9_64 G dX9_either_42 ?_
                refine zv_iload_n (j := 2) G dX9_either_45 rfl rfl ?_
                refine zv_iload_n (j := 3) G dX9_either_46 rfl rfl ?_
                refine zv_iload_n (j := 3) G dX9_either_47 rfl rfl ?_
                refine zv_iconst (v := 1) G dX9_either_48 (by decide) ?_
                refine zv_iadd G dX9_either_49 ?_
                refine zv_iconst (v := 0) G dX9_either_50 (by decide) ?_
                refine zv_callVNv (as := [za_I y2_11, za_I y3_24, za_I (y3_24 + 1), za_I 0]) G (by decide) rfl rfl (zc_X5_add l E y2_11 y3_24 (y3_24 + 1) (0 : Int32) σ ) zk_X5_add zm_838 rfl ⟨(Nat.le_of_ble_eq_true rfl), (Nat.le_of_ble_eq_true rfl)⟩ ⟨Nat.zero_le _, Nat.zero_le _⟩ (Nat.le_of_ble_eq_true rfl) dX9_either_51 (fun σ h_51 => ?_)
                have hz9 := h_51
                have hz := zc_t hz hz9
                refine zv_sub [0, 1, 2, 3] (lv' := [(0, za_O 0 0), (1, za_I y1_24), (2, za_I y2_11), (3, za_I y3_24)]) rfl ?_
                exact J_54 σ hz
        refine zv_istore_n (lv' := [(3, za_I 0), (0, za_O 0 0), (1, za_I y1_11), (2, za_I y2_11)]) G dX9_either_23 rfl (by decide) rfl ?_
        refine zv_sub [1, 2, 3, 0] (lv' := [(0, za_O 0 0), (1, za_I y1_11), (2, za_I y2_11), (3, za_I 0)]) rfl ?_
        exact J_24 _ y1_11 (0 : Int32) σ hz (Nat.lt_succ_self _)
  refine zv_istore_n (lv' := [(2, za_I 0), (1, za_I 0), (0, za_O 0 0)]) G dX9_either_10 rfl (by decide) rfl ?_
  refine zv_sub [2, 1, 0] (lv' := [(0, za_O 0 0), (1, za_I 0), (2, za_I 0)]) rfl ?_
  exact J_11 _ (0 : Int32) (0 : Int32) σ hz (Nat.lt_succ_self _)
set_option maxHeartbeats 4000000 in
set_option maxRecDepth 100000 in
theorem zc_X9_sums (l : Launch) (E : za_E) (a1 : Int32) (a2 : Int32) (a3 : Int32) (σ0 : za_S)  : zMi l E yX9_sums cX9_sums 8 (Option.some Jvm.ClassFile.FieldType.int) 4 89 [za_O 0 0, za_I a1, za_I a2, za_I a3] σ0 (fun r σ' => zc σ0 σ') := by
  refine zMi_of [(0, za_O 0 0), (1, za_I a1), (2, za_I a2), (3, za_I a3)] (by decide) rfl rfl (Nat.le_of_ble_eq_true rfl) ?_
  intro ho p e s m args below meth c G hr
  refine zv_gen (R9 := zc σ0) (zc_r σ0) (fun σ hz => ?_)
  refine zv_iload_n (j := 1) G dX9_sums_0 rfl rfl ?_
  refine zv_callSi (as := [za_I a1]) G (zc_X9_isTable l E a1 σ ) zk_X9_isTable zm_438 rfl ⟨(Nat.le_of_ble_eq_true rfl), (Nat.le_of_ble_eq_true rfl)⟩ ⟨Nat.zero_le _, Nat.zero_le _⟩ (Nat.le_of_ble_eq_true rfl) dX9_sums_1 (fun r_1 σ h_1 => ?_)
  obtain ⟨h_1, rfl⟩ := h_1
  refine zv_if_eq (tgt := 15) G dX9_sums_4 (by decide) (fun c_4 => ?_) (fun c_4 => ?_)
  · refine zv_iconst (v := (-1)) G dX9_sums_15 (by decide) ?_
    exact zv_iret G hr dX9_sums_16 hz
  · refine zv_iload_n (j := 2) G dX9_sums_7 rfl rfl ?_
    refine zv_iload_n (j := 3) G dX9_sums_8 rfl rfl ?_
    refine zv_callSi (as := [za_I a2, za_I a3]) G (zc_X9_isPeriod l E a2 a3 σ ) zk_X9_isPeriod zm_444 rfl ⟨(Nat.le_of_ble_eq_true rfl), (Nat.le_of_ble_eq_true rfl)⟩ ⟨Nat.zero_le _, Nat.zero_le _⟩ (Nat.le_of_ble_eq_true rfl) dX9_sums_9 (fun r_9 σ h_9 => ?_)
    obtain ⟨h_9, rfl⟩ := h_9
    refine zv_if_ne (tgt := 17) G dX9_sums_12 (by decide) (fun c_12 => ?_) (fun c_12 => ?_)
    · refine zv_aload_n (j := 0) G dX9_sums_17 rfl rfl ?_
      refine zg_X9_10 G dX9_sums_18 ?_
      refine zv_iload_n (j := 1) G dX9_sums_21 rfl rfl ?_
      refine zv_callVNr (as := [za_I a1]) G (by decide) rfl rfl (zc_X4_table l E 1 a1 σ ) zk_X4_table zm_453 rfl ⟨(Nat.le_of_ble_eq_true rfl), (Nat.le_of_ble_eq_true rfl)⟩ ⟨Nat.zero_le _, Nat.zero_le _⟩ (Nat.le_of_ble_eq_true rfl) dX9_sums_22 (fun r_22 σ h_22 => ?_)
      obtain ⟨w_22, rfl, h_w_22, t_22, rfl⟩ := h_22
      refine zv_astore (lv' := [(4, za_O 2 w_22), (0, za_O 0 0), (1, za_I a1), (2, za_I a2), (3, za_I a3)]) G dX9_sums_25 (by decide) rfl ?_
      refine zv_aload_n (j := 1) G dX9_sums_27 rfl rfl ?_
      refine zg_X9_54 G dX9_sums_28 ?_
      refine zv_callVNv (as := []) G (by decide) rfl rfl (zc_X1_clear l E 85 σ ) zk_X1_clear zm_577 rfl ⟨(Nat.le_of_ble_eq_true rfl), (Nat.le_of_ble_eq_true rfl)⟩ ⟨Nat.zero_le _, Nat.zero_le _⟩ (Nat.le_of_ble_eq_true rfl) dX9_sums_31 (fun σ h_31 => ?_)
      have hz9 := h_31
      have hz := zc_t hz hz9
      refine zv_iconst (v := 0) G dX9_sums_34 (by decide) ?_
      have J_37 : ∀ (n : Nat) (y5_37 : Int32) (σ : za_S) (hz : zc σ0 σ) (hn_37 : (2147483648 - y5_37.toInt).toNat < n), zV p l e (zRm 4 89) s m args below meth c E (za_A E) 8 0 0 (MQ below (va_Qi (fun r σ' => zc σ0 σ') (zB E) (za_A E)) args s 0 0 (za_A E)) 37 [(0, za_O 0 0), (2, za_I a2), (3, za_I a3), (4, za_O 2 w_22), (5, za_I y5_37)] [] σ := by
        intro n
        induction n with
        | zero => intro y5_37 σ hz hn; exact absurd hn (Nat.not_lt_zero _)
        | succ n ih_37 =>
          intro y5_37 σ hz hn_37
          refine zv_iload (j := 4) G dX9_sums_37 rfl ?_
          refine zv_aload (j := 3) G dX9_sums_39 rfl ?_
          refine zg_X9_106 G dX9_sums_41 ?_
          refine zv_icmp_ge (tgt := 84) G dX9_sums_44 (by decide) (fun c_44 => ?_) (fun c_44 => ?_)
          · refine zv_iconst (v := 0) G dX9_sums_84 (by decide) ?_
            refine zv_istore (lv' := [(5, za_I 0), (0, za_O 0 0), (2, za_I a2), (3, za_I a3), (4, za_O 2 w_22)]) G dX9_sums_85 (by decide) rfl ?_
            refine zv_iload_n (j := 2) G dX9_sums_87 rfl rfl ?_
            refine zv_istore (lv' := [(6, za_I a2), (5, za_I 0), (0, za_O 0 0), (2, za_I a2), (3, za_I a3), (4, za_O 2 w_22)]) G dX9_sums_88 (by decide) rfl ?_
            refine zv_iload_n (j := 3) G dX9_sums_90 rfl rfl ?_
            have J_93 : ∀ (n : Nat) (y5_93 : Int32) (y6_93 : Int32) (y7_93 : Int32) (σ : za_S) (hz : zc σ0 σ) (hn_93 : (2147483648 - y7_93.toInt).toNat < n), zV p l e (zRm 4 89) s m args below meth c E (za_A E) 8 0 0 (MQ below (va_Qi (fun r σ' => zc σ0 σ') (zB E) (za_A E)) args s 0 0 (za_A E)) 93 [(0, za_O 0 0), (3, za_I a3), (5, za_I y5_93), (6, za_I y6_93), (7, za_I y7_93)] [] σ := by
              intro n
              induction n with
              | zero => intro y5_93 y6_93 y7_93 σ hz hn; exact absurd hn (Nat.not_lt_zero _)
              | succ n ih_93 =>
                intro y5_93 y6_93 y7_93 σ hz hn_93
                refine zv_iload (j := 4) G dX9_sums_93 rfl ?_
                refine zv_iload_n (j := 1) G dX9_sums_95 rfl rfl ?_
                refine zv_icmp_ge (tgt := 144) G dX9_sums_96 (by decide) (fun c_96 => ?_) (fun c_96 => ?_)
                · refine zv_aload_n (j := 0) G dX9_sums_144 rfl rfl ?_
                  refine zg_X9_40 G dX9_sums_145 ?_
                  refine zv_aload_n (j := 0) G dX9_sums_148 rfl rfl ?_
                  refine zg_X9_54 G dX9_sums_149 ?_
                  refine zv_iload (j := 3) G dX9_sums_152 rfl ?_
                  refine zv_callVNi (as := [za_I y6_93]) G (by decide) rfl rfl (zc_X1_amount l E 85 y6_93 σ ) zk_X1_amount zm_606 rfl ⟨(Nat.le_of_ble_eq_true rfl), (Nat.le_of_ble_eq_true rfl)⟩ ⟨Nat.zero_le _, Nat.zero_le _⟩ (Nat.le_of_ble_eq_true rfl) dX9_sums_154 (fun r_154 σ h_154 => ?_)
                  subst h_154
                  refine zv_i2l G dX9_sums_157 ?_
                  refine zv_iload (j := 3) G dX9_sums_158 rfl ?_
                  refine zv_i2l G dX9_sums_160 ?_
                  refine zv_callVNv (as := [za_L r_154.toInt64, za_L y6_93.toInt64]) G (by decide) rfl rfl (zc_X8_tell_ l E r_154.toInt64 y6_93.toInt64 σ ) zk_X8_tell_ zm_608 rfl ⟨(Nat.le_of_ble_eq_true rfl), (Nat.le_of_ble_eq_true rfl)⟩ ⟨Nat.zero_le _, Nat.zero_le _⟩ (Nat.le_of_ble_eq_true rfl) dX9_sums_161 (fun σ h_161 => ?_)
                  have hz9 := h_161
                  have hz := zc_t hz hz9
                  refine zv_iload (j := 2) G dX9_sums_164 rfl ?_
                  exact zv_iret G hr dX9_sums_166 hz
                · refine zv_iload (j := 2) G dX9_sums_99 rfl ?_
                  refine zv_aload_n (j := 0) G dX9_sums_101 rfl rfl ?_
                  refine zg_X9_54 G dX9_sums_102 ?_
                  refine zv_iload (j := 4) G dX9_sums_105 rfl ?_
                  refine zv_callVNi (as := [za_I y7_93]) G (by decide) rfl rfl (zc_X1_amount l E 85 y7_93 σ ) zk_X1_amount zm_606 rfl ⟨(Nat.le_of_ble_eq_true rfl), (Nat.le_of_ble_eq_true rfl)⟩ ⟨Nat.zero_le _, Nat.zero_le _⟩ (Nat.le_of_ble_eq_true rfl) dX9_sums_107 (fun r_107 σ h_107 => ?_)
                  subst h_107
                  refine zv_iadd G dX9_sums_110 ?_
                  refine zv_top (fun x_111 e_111 => ?_)
                  refine zv_istore (lv' := [(5, za_I x_111), (0, za_O 0 0), (3, za_I a3), (6, za_I y6_93), (7, za_I y7_93)]) G dX9_sums_111 (by decide) rfl ?_
                  refine zv_aload_n (j := 1) G dX9_sums_113 rfl rfl ?_
                  refine zg_X9_54 G dX9_sums_114 ?_
                  refine zv_iload (j := 4) G dX9_sums_117 rfl ?_
                  refine zv_callVNi (as := [za_I y7_93]) G (by decide) rfl rfl (zc_X1_amount l E 85 y7_93 σ ) zk_X1_amount zm_606 rfl ⟨(Nat.le_of_ble_eq_true rfl), (Nat.le_of_ble_eq_true rfl)⟩ ⟨Nat.zero_le _, Nat.zero_le _⟩ (Nat.le_of_ble_eq_true rfl) dX9_sums_119 (fun r_119 σ h_119 => ?_)
                  subst h_119
                  refine zv_aload_n (j := 1) G dX9_sums_122 rfl rfl ?_
                  refine zg_X9_54 G dX9_sums_123 ?_
                  refine zv_iload (j := 3) G dX9_sums_126 rfl ?_
                  refine zv_callVNi (as := [za_I y6_93]) G (by decide) rfl rfl (zc_X1_amount l E 85 y6_93 σ ) zk_X1_amount zm_606 rfl ⟨(Nat.le_of_ble_eq_true rfl), (Nat.le_of_ble_eq_true rfl)⟩ ⟨Nat.zero_le _, Nat.zero_le _⟩ (Nat.le_of_ble_eq_true rfl) dX9_sums_128 (fun r_128 σ h_128 => ?_)
                  subst h_128
                  refine zv_icmp_le (tgt := 138) G dX9_sums_131 (by decide) (fun c_131 => ?_) (fun c_131 => ?_)
                  · obtain ⟨x_138, e_138⟩ : ∃ y : Int32, y = y7_93 + 1 := ⟨_, rfl⟩
                    refine zv_iinc (j := 4) (v := x_138) (lv' := [(7, za_I x_138), (5, za_I x_111), (0, za_O 0 0), (3, za_I a3), (6, za_I y6_93)]) G dX9_sums_138 rfl (by rw [e_138]; rfl) (by decide) rfl ?_
                    refine zv_goto (tgt := 93) G dX9_sums_141 (by decide) ?_
                    refine zv_sub [2, 3, 1, 4, 0] (lv' := [(0, za_O 0 0), (3, za_I a3), (5, za_I x_111), (6, za_I y6_93), (7, za_I x_138)]) rfl ?_
                    exact ih_93 x_111 y6_93 x_138 σ hz (z_meas c_96 e_138 hn_93)
                  · refine zv_iload (j := 4) G dX9_sums_134 rfl ?_
                    refine zv_istore (lv' := [(6, za_I y7_93), (5, za_I x_111), (0, za_O 0 0), (3, za_I a3), (7, za_I y7_93)]) G dX9_sums_136 (by decide) rfl ?_
                    obtain ⟨x_138, e_138⟩ : ∃ y : Int32, y = y7_93 + 1 := ⟨_, rfl⟩
                    refine zv_iinc (j := 4) (v := x_138) (lv' := [(7, za_I x_138), (6, za_I y7_93), (5, za_I x_111), (0, za_O 0 0), (3, za_I a3)]) G dX9_sums_138 rfl (by rw [e_138]; rfl) (by decide) rfl ?_
                    refine zv_goto (tgt := 93) G dX9_sums_141 (by decide) ?_
                    refine zv_sub [3, 4, 2, 1, 0] (lv' := [(0, za_O 0 0), (3, za_I a3), (5, za_I x_111), (6, za_I y7_93), (7, za_I x_138)]) rfl ?_
                    exact ih_93 x_111 y7_93 x_138 σ hz (z_meas c_96 e_138 hn_93)
            refine zv_istore (lv' := [(7, za_I a2), (6, za_I a2), (5, za_I 0), (0, za_O 0 0), (2, za_I a2), (3, za_I a3), (4, za_O 2 w_22)]) G dX9_sums_91 (by decide) rfl ?_
            refine zv_sub [3, 5, 2, 1, 0] (lv' := [(0, za_O 0 0), (3, za_I a3), (5, za_I 0), (6, za_I a2), (7, za_I a2)]) rfl ?_
            exact J_93 _ (0 : Int32) a2 a2 σ hz (Nat.lt_succ_self _)
          · refine zv_aload_n (j := 0) G dX9_sums_47 rfl rfl ?_
            refine zg_X9_54 G dX9_sums_48 ?_
            refine zv_aload (j := 3) G dX9_sums_51 rfl ?_
            refine zv_iload (j := 4) G dX9_sums_53 rfl ?_
            refine zv_iconst (v := 2) G dX9_sums_55 (by decide) ?_
            refine zv_callVNi (as := [za_I y5_37, za_I 2]) G (by decide) rfl rfl (zc_X6_cell l E w_22 y5_37 (2 : Int32) σ ) zk_X6_cell zm_592 rfl ⟨(Nat.le_of_ble_eq_true rfl), (Nat.le_of_ble_eq_true rfl)⟩ ⟨Nat.zero_le _, Nat.zero_le _⟩ (Nat.le_of_ble_eq_true rfl) dX9_sums_56 (fun r_56 σ h_56 => ?_)
            subst h_56
            refine zv_aload (j := 3) G dX9_sums_59 rfl ?_
            refine zv_iload (j := 4) G dX9_sums_61 rfl ?_
            refine zv_iconst (v := 3) G dX9_sums_63 (by decide) ?_
            refine zv_callVNi (as := [za_I y5_37, za_I 3]) G (by decide) rfl rfl (zc_X6_cell l E w_22 y5_37 (3 : Int32) σ ) zk_X6_cell zm_592 rfl ⟨(Nat.le_of_ble_eq_true rfl), (Nat.le_of_ble_eq_true rfl)⟩ ⟨Nat.zero_le _, Nat.zero_le _⟩ (Nat.le_of_ble_eq_true rfl) dX9_sums_64 (fun r_64 σ h_64 => ?_)
            subst h_64
            refine zv_aload (j := 3) G dX9_sums_67 rfl ?_
            refine zv_iload (j := 4) G dX9_sums_69 rfl ?_
            refine zv_iconst (v := 1) G dX9_sums_71 (by decide) ?_
            refine zv_callVNi (as := [za_I y5_37, za_I 1]) G (by decide) rfl rfl (zc_X6_cell l E w_22 y5_37 (1 : Int32) σ ) zk_X6_cell zm_592 rfl ⟨(Nat.le_of_ble_eq_true rfl), (Nat.le_of_ble_eq_true rfl)⟩ ⟨Nat.zero_le _, Nat.zero_le _⟩ (Nat.le_of_ble_eq_true rfl) dX9_sums_72 (fun r_72 σ h_72 => ?_)
            subst h_72
            refine zv_callVNv (as := [za_I r_56, za_I r_64, za_I r_72]) G (by decide) rfl rfl (zc_X1_add l E 85 r_56 r_64 r_72 σ ) zk_X1_add zm_862 rfl ⟨(Nat.le_of_ble_eq_true rfl), (Nat.le_of_ble_eq_true rfl)⟩ ⟨Nat.zero_le _, Nat.zero_le _⟩ (Nat.le_of_ble_eq_true rfl) dX9_sums_75 (fun σ h_75 => ?_)
            have hz9 := h_75
            have hz := zc_t hz hz9
            obtain ⟨x_78, e_78⟩ : ∃ y : Int32, y = y5_37 + 1 := ⟨_, rfl⟩
            refine zv_iinc (j := 4) (v := x_78) (lv' := [(5, za_I x_78), (0, za_O 0 0), (2, za_I a2), (3, za_I a3), (4, za_O 2 w_22)]) G dX9_sums_78 rfl (by rw [e_78]; rfl) (by decide) rfl ?_
            refine zv_goto (tgt := 37) G dX9_sums_81 (by decide) ?_
            refine zv_sub [1, 2, 3, 4, 0] (lv' := [(0, za_O 0 0), (2, za_I a2), (3, za_I a3), (4, za_O 2 w_22), (5, za_I x_78)]) rfl ?_
            exact ih_37 x_78 σ hz (z_meas c_44 e_78 hn_37)
      refine zv_istore (lv' := [(5, za_I 0), (4, za_O 2 w_22), (0, za_O 0 0), (1, za_I a1), (2, za_I a2), (3, za_I a3)]) G dX9_sums_35 (by decide) rfl ?_
      refine zv_sub [2, 4, 5, 1, 0] (lv' := [(0, za_O 0 0), (2, za_I a2), (3, za_I a3), (4, za_O 2 w_22), (5, za_I 0)]) rfl ?_
      exact J_37 _ (0 : Int32) σ hz (Nat.lt_succ_self _)
    · refine zv_iconst (v := (-1)) G dX9_sums_15 (by decide) ?_
      exact zv_iret G hr dX9_sums_16 hz
set_option maxHeartbeats 4000000 in
set_option maxRecDepth 100000 in
theorem zc_X9_commonDivisor (l : Launch) (E : za_E) (a1 : Int32) (a2 : Int32) (σ : za_S)  : zMi l E yX9_commonDivisor cX9_commonDivisor 6 (Option.some Jvm.ClassFile.FieldType.int) 1 21 [za_I a1, za_I a2] σ (fun r σ' => (¬ r = 0) ∧ σ' = σ) := by
  refine zMi_of [(0, za_I a1), (1, za_I a2)] (by decide) rfl rfl (Nat.le_of_ble_eq_true rfl) ?_
  intro ho p e s m args below meth c G hr
  refine zv_iload_n (j := 0) G dX9_commonDivisor_0 rfl rfl ?_
  refine zv_istore_n (lv' := [(2, za_I a1), (0, za_I a1), (1, za_I a2)]) G dX9_commonDivisor_1 rfl (by decide) rfl ?_
  refine zv_iload_n (j := 2) G dX9_commonDivisor_2 rfl rfl ?_
  refine zv_istore_n (lv' := [(3, za_I a2), (2, za_I a1), (0, za_I a1), (1, za_I a2)]) G dX9_commonDivisor_3 rfl (by decide) rfl ?_
  refine zv_iconst (v := 0) G dX9_commonDivisor_4 (by decide) ?_
  have J_7 : ∀ (n : Nat) (y2_7 : Int32) (y3_7 : Int32) (y4_7 : Int32) (hn_7 : (2147483648 - y4_7.toInt).toNat < n), zV p l e (zRm 1 21) s m args below meth c E (za_A E) 6 0 0 (MQ below (va_Qi (fun r σ' => (¬ r = 0) ∧ σ' = σ) (zB E) (za_A E)) args s 0 0 (za_A E)) 7 [(2, za_I y2_7), (3, za_I y3_7), (4, za_I y4_7)] [] σ := by
    intro n
    induction n with
    | zero => intro y2_7 y3_7 y4_7 hn; exact absurd hn (Nat.not_lt_zero _)
    | succ n ih_7 =>
      intro y2_7 y3_7 y4_7 hn_7
      refine zv_iload (j := 2) G dX9_commonDivisor_7 rfl ?_
      refine zv_bipush (v := 64) G dX9_commonDivisor_9 (by decide) ?_
      refine zv_icmp_ge (tgt := 34) G dX9_commonDivisor_11 (by decide) (fun c_11 => ?_) (fun c_11 => ?_)
      · refine zv_iconst (v := 1) G dX9_commonDivisor_34 (by decide) ?_
        refine zv_iload_n (j := 0) G dX9_commonDivisor_35 rfl rfl ?_
        refine zv_mmax G zm_394 zm_395 zm_147 zm_396 (Nat.le_of_ble_eq_true rfl) (Nat.le_of_ble_eq_true rfl) (Nat.zero_le _) (Nat.zero_le _) dX9_commonDivisor_36 ?_
        refine zv_top (fun x_36 e_36 => ?_)
        exact zv_iret G hr dX9_commonDivisor_39 ⟨(z_max1 e_36), rfl⟩
      · refine zv_iload_n (j := 1) G dX9_commonDivisor_14 rfl rfl ?_
        refine zv_if_eq (tgt := 34) G dX9_commonDivisor_15 (by decide) (fun c_15 => ?_) (fun c_15 => ?_)
        · refine zv_iconst (v := 1) G dX9_commonDivisor_34 (by decide) ?_
          refine zv_iload_n (j := 0) G dX9_commonDivisor_35 rfl rfl ?_
          refine zv_mmax G zm_394 zm_395 zm_147 zm_396 (Nat.le_of_ble_eq_true rfl) (Nat.le_of_ble_eq_true rfl) (Nat.zero_le _) (Nat.zero_le _) dX9_commonDivisor_36 ?_
          refine zv_top (fun x_36 e_36 => ?_)
          exact zv_iret G hr dX9_commonDivisor_39 ⟨(z_max1 e_36), rfl⟩
        · refine zv_iload_n (j := 0) G dX9_commonDivisor_18 rfl rfl ?_
          refine zv_iload_n (j := 1) G dX9_commonDivisor_19 rfl rfl ?_
          refine zv_irem G dX9_commonDivisor_20 (by assumption) ?_
          refine zv_top (fun x_21 e_21 => ?_)
          refine zv_istore (lv' := [(5, za_I x_21), (2, za_I y2_7), (3, za_I y3_7), (4, za_I y4_7)]) G dX9_commonDivisor_21 (by decide) rfl ?_
          refine zv_iload_n (j := 2) G dX9_commonDivisor_23 rfl rfl ?_
          refine zv_istore_n (lv' := [(2, za_I y3_7), (5, za_I x_21), (3, za_I y3_7), (4, za_I y4_7)]) G dX9_commonDivisor_24 rfl (by decide) rfl ?_
          refine zv_iload (j := 1) G dX9_commonDivisor_25 rfl ?_
          refine zv_istore_n (lv' := [(3, za_I x_21), (2, za_I y3_7), (5, za_I x_21), (4, za_I y4_7)]) G dX9_commonDivisor_27 rfl (by decide) rfl ?_
          obtain ⟨x_28, e_28⟩ : ∃ y : Int32, y = y4_7 + 1 := ⟨_, rfl⟩
          refine zv_iinc (j := 3) (v := x_28) (lv' := [(4, za_I x_28), (3, za_I x_21), (2, za_I y3_7), (5, za_I x_21)]) G dX9_commonDivisor_28 rfl (by rw [e_28]; rfl) (by decide) rfl ?_
          refine zv_goto (tgt := 7) G dX9_commonDivisor_31 (by decide) ?_
          refine zv_sub [2, 1, 0] (lv' := [(2, za_I y3_7), (3, za_I x_21), (4, za_I x_28)]) rfl ?_
          exact ih_7 y3_7 x_21 x_28 (z_meas c_11 e_28 hn_7)
  refine zv_istore (lv' := [(4, za_I 0), (3, za_I a2), (2, za_I a1), (0, za_I a1), (1, za_I a2)]) G dX9_commonDivisor_5 (by decide) rfl ?_
  refine zv_sub [2, 1, 0] (lv' := [(2, za_I a1), (3, za_I a2), (4, za_I 0)]) rfl ?_
  exact J_7 _ a1 a2 (0 : Int32) (Nat.lt_succ_self _)
set_option maxHeartbeats 4000000 in
set_option maxRecDepth 100000 in
theorem zc_X9_mean (l : Launch) (E : za_E) (a1 : Int32) (a2 : Int32) (σ0 : za_S)  : zMi l E yX9_mean cX9_mean 7 (Option.some Jvm.ClassFile.FieldType.int) 5 115 [za_O 0 0, za_I a1, za_I a2] σ0 (fun r σ' => zc σ0 σ') := by
  refine zMi_of [(0, za_O 0 0), (1, za_I a1), (2, za_I a2)] (by decide) rfl rfl (Nat.le_of_ble_eq_true rfl) ?_
  intro ho p e s m args below meth c G hr
  refine zv_gen (R9 := zc σ0) (zc_r σ0) (fun σ hz => ?_)
  refine zv_iload_n (j := 1) G dX9_mean_0 rfl rfl ?_
  refine zv_callSi (as := [za_I a1]) G (zc_X9_isTable l E a1 σ ) zk_X9_isTable zm_438 rfl ⟨(Nat.le_of_ble_eq_true rfl), (Nat.le_of_ble_eq_true rfl)⟩ ⟨Nat.zero_le _, Nat.zero_le _⟩ (Nat.le_of_ble_eq_true rfl) dX9_mean_1 (fun r_1 σ h_1 => ?_)
  obtain ⟨h_1, rfl⟩ := h_1
  refine zv_if_eq (tgt := 14) G dX9_mean_4 (by decide) (fun c_4 => ?_) (fun c_4 => ?_)
  · refine zv_iconst (v := (-1)) G dX9_mean_14 (by decide) ?_
    exact zv_iret G hr dX9_mean_15 hz
  · refine zv_iload_n (j := 2) G dX9_mean_7 rfl rfl ?_
    refine zv_callSi (as := [za_I a2]) G (zc_X9_isKey l E a2 σ ) zk_X9_isKey zm_441 rfl ⟨(Nat.le_of_ble_eq_true rfl), (Nat.le_of_ble_eq_true rfl)⟩ ⟨Nat.zero_le _, Nat.zero_le _⟩ (Nat.le_of_ble_eq_true rfl) dX9_mean_8 (fun r_8 σ h_8 => ?_)
    obtain ⟨h_8, rfl⟩ := h_8
    refine zv_if_ne (tgt := 16) G dX9_mean_11 (by decide) (fun c_11 => ?_) (fun c_11 => ?_)
    · refine zv_aload_n (j := 0) G dX9_mean_16 rfl rfl ?_
      refine zg_X9_10 G dX9_mean_17 ?_
      refine zv_iload_n (j := 1) G dX9_mean_20 rfl rfl ?_
      refine zv_callVNr (as := [za_I a1]) G (by decide) rfl rfl (zc_X4_table l E 1 a1 σ ) zk_X4_table zm_453 rfl ⟨(Nat.le_of_ble_eq_true rfl), (Nat.le_of_ble_eq_true rfl)⟩ ⟨Nat.zero_le _, Nat.zero_le _⟩ (Nat.le_of_ble_eq_true rfl) dX9_mean_21 (fun r_21 σ h_21 => ?_)
      obtain ⟨w_21, rfl, h_w_21, t_21, rfl⟩ := h_21
      refine zv_astore_n (lv' := [(3, za_O 2 w_21), (0, za_O 0 0), (1, za_I a1), (2, za_I a2)]) G dX9_mean_24 rfl (by decide) rfl ?_
      refine zv_aload_n (j := 0) G dX9_mean_25 rfl rfl ?_
      refine zv_iload_n (j := 3) G dX9_mean_26 rfl rfl ?_
      refine zv_iconst (v := 0) G dX9_mean_27 (by decide) ?_
      refine zv_bipush (v := 100) G dX9_mean_28 (by decide) ?_
      refine zv_callVNi (as := [za_I a2, za_I 0, za_I 100]) G (by decide) rfl rfl (zc_X6_daysWithin l E w_21 a2 (0 : Int32) (100 : Int32) σ ) zk_X6_daysWithin zm_568 rfl ⟨(Nat.le_of_ble_eq_true rfl), (Nat.le_of_ble_eq_true rfl)⟩ ⟨Nat.zero_le _, Nat.zero_le _⟩ (Nat.le_of_ble_eq_true rfl) dX9_mean_30 (fun r_30 σ h_30 => ?_)
      subst h_30
      refine zv_istore (lv' := [(4, za_I r_30), (3, za_O 2 w_21), (0, za_O 0 0), (1, za_I a1), (2, za_I a2)]) G dX9_mean_33 (by decide) rfl ?_
      refine zv_iload (j := 0) G dX9_mean_35 rfl ?_
      refine zv_if_ne (tgt := 43) G dX9_mean_37 (by decide) (fun c_37 => ?_) (fun c_37 => ?_)
      · refine zv_iconst (v := 0) G dX9_mean_43 (by decide) ?_
        refine zv_istore (lv' := [(5, za_I 0), (4, za_I r_30), (3, za_O 2 w_21), (0, za_O 0 0), (1, za_I a1), (2, za_I a2)]) G dX9_mean_44 (by decide) rfl ?_
        refine zv_iconst (v := 0) G dX9_mean_46 (by decide) ?_
        have J_49 : ∀ (n : Nat) (y5_49 : Int32) (y6_49 : Int32) (σ : za_S) (hz : zc σ0 σ) (hn_49 : (2147483648 - y6_49.toInt).toNat < n), zV p l e (zRm 5 115) s m args below meth c E (za_A E) 7 0 0 (MQ below (va_Qi (fun r σ' => zc σ0 σ') (zB E) (za_A E)) args s 0 0 (za_A E)) 49 [(0, za_O 0 0), (2, za_I a2), (3, za_O 2 w_21), (4, za_I r_30), (5, za_I y5_49), (6, za_I y6_49)] [] σ := by
          intro n
          induction n with
          | zero => intro y5_49 y6_49 σ hz hn; exact absurd hn (Nat.not_lt_zero _)
          | succ n ih_49 =>
            intro y5_49 y6_49 σ hz hn_49
            refine zv_iload (j := 5) G dX9_mean_49 rfl ?_
            refine zv_aload_n (j := 2) G dX9_mean_51 rfl rfl ?_
            refine zg_X9_106 G dX9_mean_52 ?_
            refine zv_icmp_ge (tgt := 94) G dX9_mean_55 (by decide) (fun c_55 => ?_) (fun c_55 => ?_)
            · refine zv_iload (j := 4) G dX9_mean_94 rfl ?_
              refine zv_iload (j := 3) G dX9_mean_96 rfl ?_
              refine zv_callSi (as := [za_I y5_49, za_I r_30]) G (zc_X9_commonDivisor l E y5_49 r_30 σ ) zk_X9_commonDivisor zm_867 rfl ⟨(Nat.le_of_ble_eq_true rfl), (Nat.le_of_ble_eq_true rfl)⟩ ⟨Nat.zero_le _, Nat.zero_le _⟩ (Nat.le_of_ble_eq_true rfl) dX9_mean_98 (fun r_98 σ h_98 => ?_)
              obtain ⟨h_98, rfl⟩ := h_98
              refine zv_istore (lv' := [(6, za_I r_98), (0, za_O 0 0), (2, za_I a2), (3, za_O 2 w_21), (4, za_I r_30), (5, za_I y5_49)]) G dX9_mean_101 (by decide) rfl ?_
              refine zv_aload_n (j := 1) G dX9_mean_103 rfl rfl ?_
              refine zg_X9_40 G dX9_mean_104 ?_
              refine zv_iload (j := 5) G dX9_mean_107 rfl ?_
              refine zv_iload (j := 0) G dX9_mean_109 rfl ?_
              refine zv_idiv G dX9_mean_111 h_98 ?_
              refine zv_i2l G dX9_mean_112 ?_
              refine zv_iload (j := 4) G dX9_mean_113 rfl ?_
              refine zv_iload (j := 0) G dX9_mean_115 rfl ?_
              refine zv_idiv G dX9_mean_117 h_98 ?_
              refine zv_i2l G dX9_mean_118 ?_
              refine zv_iload (j := 4) G dX9_mean_119 rfl ?_
              refine zv_i2l G dX9_mean_121 ?_
              refine zv_callVNv (as := [za_L ((y5_49 / r_98).toInt64), za_L ((r_30 / r_98).toInt64), za_L r_30.toInt64]) G (by decide) rfl rfl (zc_X8_tell__ l E ((y5_49 / r_98).toInt64) ((r_30 / r_98).toInt64) r_30.toInt64 σ ) zk_X8_tell__ zm_767 rfl ⟨(Nat.le_of_ble_eq_true rfl), (Nat.le_of_ble_eq_true rfl)⟩ ⟨Nat.zero_le _, Nat.zero_le _⟩ (Nat.le_of_ble_eq_true rfl) dX9_mean_122 (fun σ h_122 => ?_)
              have hz9 := h_122
              have hz := zc_t hz hz9
              refine zv_iconst (v := 0) G dX9_mean_125 (by decide) ?_
              exact zv_iret G hr dX9_mean_126 hz
            · refine zv_aload_n (j := 2) G dX9_mean_58 rfl rfl ?_
              refine zv_iload (j := 5) G dX9_mean_59 rfl ?_
              refine zv_iconst (v := 0) G dX9_mean_61 (by decide) ?_
              refine zv_callVNi (as := [za_I y6_49, za_I 0]) G (by decide) rfl rfl (zc_X6_cell l E w_21 y6_49 (0 : Int32) σ ) zk_X6_cell zm_592 rfl ⟨(Nat.le_of_ble_eq_true rfl), (Nat.le_of_ble_eq_true rfl)⟩ ⟨Nat.zero_le _, Nat.zero_le _⟩ (Nat.le_of_ble_eq_true rfl) dX9_mean_62 (fun r_62 σ h_62 => ?_)
              subst h_62
              refine zv_iload_n (j := 1) G dX9_mean_65 rfl rfl ?_
              refine zv_icmp_ne (tgt := 88) G dX9_mean_66 (by decide) (fun c_66 => ?_) (fun c_66 => ?_)
              · obtain ⟨x_88, e_88⟩ : ∃ y : Int32, y = y6_49 + 1 := ⟨_, rfl⟩
                refine zv_iinc (j := 5) (v := x_88) (lv' := [(6, za_I x_88), (0, za_O 0 0), (2, za_I a2), (3, za_O 2 w_21), (4, za_I r_30), (5, za_I y5_49)]) G dX9_mean_88 rfl (by rw [e_88]; rfl) (by decide) rfl ?_
                refine zv_goto (tgt := 49) G dX9_mean_91 (by decide) ?_
                refine zv_sub [1, 2, 3, 4, 5, 0] (lv' := [(0, za_O 0 0), (2, za_I a2), (3, za_O 2 w_21), (4, za_I r_30), (5, za_I y5_49), (6, za_I x_88)]) rfl ?_
                exact ih_49 y5_49 x_88 σ hz (z_meas c_55 e_88 hn_49)
              · refine zv_iload (j := 4) G dX9_mean_69 rfl ?_
                refine zv_aload_n (j := 2) G dX9_mean_71 rfl rfl ?_
                refine zv_iload (j := 5) G dX9_mean_72 rfl ?_
                refine zv_iconst (v := 1) G dX9_mean_74 (by decide) ?_
                refine zv_callVNi (as := [za_I y6_49, za_I 1]) G (by decide) rfl rfl (zc_X6_cell l E w_21 y6_49 (1 : Int32) σ ) zk_X6_cell zm_592 rfl ⟨(Nat.le_of_ble_eq_true rfl), (Nat.le_of_ble_eq_true rfl)⟩ ⟨Nat.zero_le _, Nat.zero_le _⟩ (Nat.le_of_ble_eq_true rfl) dX9_mean_75 (fun r_75 σ h_75 => ?_)
                subst h_75
                refine zv_aload_n (j := 2) G dX9_mean_78 rfl rfl ?_
                refine zv_iload (j := 5) G dX9_mean_79 rfl ?_
                refine zv_callVNi (as := [za_I y6_49]) G (by decide) rfl rfl (zc_X6_daysOfRow l E w_21 y6_49 σ ) zk_X6_daysOfRow zm_821 rfl ⟨(Nat.le_of_ble_eq_true rfl), (Nat.le_of_ble_eq_true rfl)⟩ ⟨Nat.zero_le _, Nat.zero_le _⟩ (Nat.le_of_ble_eq_true rfl) dX9_mean_81 (fun r_81 σ h_81 => ?_)
                subst h_81
                refine zv_imul G dX9_mean_84 ?_
                refine zv_iadd G dX9_mean_85 ?_
                refine zv_top (fun x_86 e_86 => ?_)
                refine zv_istore (lv' := [(5, za_I x_86), (0, za_O 0 0), (2, za_I a2), (3, za_O 2 w_21), (4, za_I r_30), (6, za_I y6_49)]) G dX9_mean_86 (by decide) rfl ?_
                obtain ⟨x_88, e_88⟩ : ∃ y : Int32, y = y6_49 + 1 := ⟨_, rfl⟩
                refine zv_iinc (j := 5) (v := x_88) (lv' := [(6, za_I x_88), (5, za_I x_86), (0, za_O 0 0), (2, za_I a2), (3, za_O 2 w_21), (4, za_I r_30)]) G dX9_mean_88 rfl (by rw [e_88]; rfl) (by decide) rfl ?_
                refine zv_goto (tgt := 49) G dX9_mean_91 (by decide) ?_
                refine zv_sub [2, 3, 4, 5, 1, 0] (lv' := [(0, za_O 0 0), (2, za_I a2), (3, za_O 2 w_21), (4, za_I r_30), (5, za_I x_86), (6, za_I x_88)]) rfl ?_
                exact ih_49 x_86 x_88 σ hz (z_meas c_55 e_88 hn_49)
        refine zv_istore (lv' := [(6, za_I 0), (5, za_I 0), (4, za_I r_30), (3, za_O 2 w_21), (0, za_O 0 0), (1, za_I a1), (2, za_I a2)]) G dX9_mean_47 (by decide) rfl ?_
        refine zv_sub [4, 6, 3, 2, 1, 0] (lv' := [(0, za_O 0 0), (2, za_I a2), (3, za_O 2 w_21), (4, za_I r_30), (5, za_I 0), (6, za_I 0)]) rfl ?_
        exact J_49 _ (0 : Int32) (0 : Int32) σ hz (Nat.lt_succ_self _)
      · refine zv_bipush (v := (-2)) G dX9_mean_40 (by decide) ?_
        exact zv_iret G hr dX9_mean_42 hz
    · refine zv_iconst (v := (-1)) G dX9_mean_14 (by decide) ?_
      exact zv_iret G hr dX9_mean_15 hz
set_option maxHeartbeats 4000000 in
set_option maxRecDepth 100000 in
theorem zc_X9_fullest (l : Launch) (E : za_E) (a1 : Int32) (σ0 : za_S)  : zMi l E yX9_fullest cX9_fullest 6 (Option.some Jvm.ClassFile.FieldType.int) 4 89 [za_O 0 0, za_I a1] σ0 (fun r σ' => zc σ0 σ') := by
  refine zMi_of [(0, za_O 0 0), (1, za_I a1)] (by decide) rfl rfl (Nat.le_of_ble_eq_true rfl) ?_
  intro ho p e s m args below meth c G hr
  refine zv_gen (R9 := zc σ0) (zc_r σ0) (fun σ hz => ?_)
  refine zv_iload_n (j := 1) G dX9_fullest_0 rfl rfl ?_
  refine zv_callSi (as := [za_I a1]) G (zc_X9_isTable l E a1 σ ) zk_X9_isTable zm_438 rfl ⟨(Nat.le_of_ble_eq_true rfl), (Nat.le_of_ble_eq_true rfl)⟩ ⟨Nat.zero_le _, Nat.zero_le _⟩ (Nat.le_of_ble_eq_true rfl) dX9_fullest_1 (fun r_1 σ h_1 => ?_)
  obtain ⟨h_1, rfl⟩ := h_1
  refine zv_if_ne (tgt := 9) G dX9_fullest_4 (by decide) (fun c_4 => ?_) (fun c_4 => ?_)
  · refine zv_aload_n (j := 0) G dX9_fullest_9 rfl rfl ?_
    refine zg_X9_10 G dX9_fullest_10 ?_
    refine zv_iload_n (j := 1) G dX9_fullest_13 rfl rfl ?_
    refine zv_callVNr (as := [za_I a1]) G (by decide) rfl rfl (zc_X4_table l E 1 a1 σ ) zk_X4_table zm_453 rfl ⟨(Nat.le_of_ble_eq_true rfl), (Nat.le_of_ble_eq_true rfl)⟩ ⟨Nat.zero_le _, Nat.zero_le _⟩ (Nat.le_of_ble_eq_true rfl) dX9_fullest_14 (fun r_14 σ h_14 => ?_)
    obtain ⟨w_14, rfl, h_w_14, t_14, rfl⟩ := h_14
    refine zv_astore_n (lv' := [(2, za_O 2 w_14), (0, za_O 0 0), (1, za_I a1)]) G dX9_fullest_17 rfl (by decide) rfl ?_
    refine zv_aload_n (j := 1) G dX9_fullest_18 rfl rfl ?_
    refine zg_X9_54 G dX9_fullest_19 ?_
    refine zv_callVNv (as := []) G (by decide) rfl rfl (zc_X1_clear l E 85 σ ) zk_X1_clear zm_577 rfl ⟨(Nat.le_of_ble_eq_true rfl), (Nat.le_of_ble_eq_true rfl)⟩ ⟨Nat.zero_le _, Nat.zero_le _⟩ (Nat.le_of_ble_eq_true rfl) dX9_fullest_22 (fun σ h_22 => ?_)
    have hz9 := h_22
    have hz := zc_t hz hz9
    refine zv_iconst (v := 0) G dX9_fullest_25 (by decide) ?_
    have J_27 : ∀ (n : Nat) (y3_27 : Int32) (σ : za_S) (hz : zc σ0 σ) (hn_27 : (2147483648 - y3_27.toInt).toNat < n), zV p l e (zRm 4 89) s m args below meth c E (za_A E) 6 0 0 (MQ below (va_Qi (fun r σ' => zc σ0 σ') (zB E) (za_A E)) args s 0 0 (za_A E)) 27 [(0, za_O 0 0), (2, za_O 2 w_14), (3, za_I y3_27)] [] σ := by
      intro n
      induction n with
      | zero => intro y3_27 σ hz hn; exact absurd hn (Nat.not_lt_zero _)
      | succ n ih_27 =>
        intro y3_27 σ hz hn_27
        refine zv_iload_n (j := 2) G dX9_fullest_27 rfl rfl ?_
        refine zv_aload_n (j := 1) G dX9_fullest_28 rfl rfl ?_
        refine zg_X9_106 G dX9_fullest_29 ?_
        refine zv_icmp_ge (tgt := 61) G dX9_fullest_32 (by decide) (fun c_32 => ?_) (fun c_32 => ?_)
        · refine zv_iconst (v := 0) G dX9_fullest_61 (by decide) ?_
          refine zv_istore_n (lv' := [(3, za_I 0), (0, za_O 0 0), (2, za_O 2 w_14)]) G dX9_fullest_62 rfl (by decide) rfl ?_
          refine zv_iconst (v := 0) G dX9_fullest_63 (by decide) ?_
          refine zv_istore (lv' := [(4, za_I 0), (3, za_I 0), (0, za_O 0 0), (2, za_O 2 w_14)]) G dX9_fullest_64 (by decide) rfl ?_
          refine zv_iconst (v := 0) G dX9_fullest_66 (by decide) ?_
          have J_69 : ∀ (n : Nat) (y3_69 : Int32) (y4_69 : Int32) (y5_69 : Int32) (σ : za_S) (hz : zc σ0 σ) (hn_69 : (2147483648 - y5_69.toInt).toNat < n), zV p l e (zRm 4 89) s m args below meth c E (za_A E) 6 0 0 (MQ below (va_Qi (fun r σ' => zc σ0 σ') (zB E) (za_A E)) args s 0 0 (za_A E)) 69 [(0, za_O 0 0), (3, za_I y3_69), (4, za_I y4_69), (5, za_I y5_69)] [] σ := by
            intro n
            induction n with
            | zero => intro y3_69 y4_69 y5_69 σ hz hn; exact absurd hn (Nat.not_lt_zero _)
            | succ n ih_69 =>
              intro y3_69 y4_69 y5_69 σ hz hn_69
              refine zv_iload (j := 3) G dX9_fullest_69 rfl ?_
              refine zv_bipush (v := 100) G dX9_fullest_71 (by decide) ?_
              refine zv_icmp_ge (tgt := 131) G dX9_fullest_73 (by decide) (fun c_73 => ?_) (fun c_73 => ?_)
              · refine zv_aload_n (j := 0) G dX9_fullest_131 rfl rfl ?_
                refine zg_X9_40 G dX9_fullest_132 ?_
                refine zv_aload_n (j := 0) G dX9_fullest_135 rfl rfl ?_
                refine zg_X9_54 G dX9_fullest_136 ?_
                refine zv_iload_n (j := 1) G dX9_fullest_139 rfl rfl ?_
                refine zv_callVNi (as := [za_I y3_69]) G (by decide) rfl rfl (zc_X1_amount l E 85 y3_69 σ ) zk_X1_amount zm_606 rfl ⟨(Nat.le_of_ble_eq_true rfl), (Nat.le_of_ble_eq_true rfl)⟩ ⟨Nat.zero_le _, Nat.zero_le _⟩ (Nat.le_of_ble_eq_true rfl) dX9_fullest_140 (fun r_140 σ h_140 => ?_)
                subst h_140
                refine zv_i2l G dX9_fullest_143 ?_
                refine zv_iload (j := 2) G dX9_fullest_144 rfl ?_
                refine zv_i2l G dX9_fullest_146 ?_
                refine zv_callVNv (as := [za_L r_140.toInt64, za_L y4_69.toInt64]) G (by decide) rfl rfl (zc_X8_tell_ l E r_140.toInt64 y4_69.toInt64 σ ) zk_X8_tell_ zm_608 rfl ⟨(Nat.le_of_ble_eq_true rfl), (Nat.le_of_ble_eq_true rfl)⟩ ⟨Nat.zero_le _, Nat.zero_le _⟩ (Nat.le_of_ble_eq_true rfl) dX9_fullest_147 (fun σ h_147 => ?_)
                have hz9 := h_147
                have hz := zc_t hz hz9
                refine zv_iload_n (j := 1) G dX9_fullest_150 rfl rfl ?_
                exact zv_iret G hr dX9_fullest_151 hz
              · refine zv_aload_n (j := 0) G dX9_fullest_76 rfl rfl ?_
                refine zg_X9_54 G dX9_fullest_77 ?_
                refine zv_iload (j := 3) G dX9_fullest_80 rfl ?_
                refine zv_callVNi (as := [za_I y5_69]) G (by decide) rfl rfl (zc_X1_amount l E 85 y5_69 σ ) zk_X1_amount zm_606 rfl ⟨(Nat.le_of_ble_eq_true rfl), (Nat.le_of_ble_eq_true rfl)⟩ ⟨Nat.zero_le _, Nat.zero_le _⟩ (Nat.le_of_ble_eq_true rfl) dX9_fullest_82 (fun r_82 σ h_82 => ?_)
                subst h_82
                refine zv_aload_n (j := 0) G dX9_fullest_85 rfl rfl ?_
                refine zg_X9_54 G dX9_fullest_86 ?_
                refine zv_iload_n (j := 1) G dX9_fullest_89 rfl rfl ?_
                refine zv_callVNi (as := [za_I y3_69]) G (by decide) rfl rfl (zc_X1_amount l E 85 y3_69 σ ) zk_X1_amount zm_606 rfl ⟨(Nat.le_of_ble_eq_true rfl), (Nat.le_of_ble_eq_true rfl)⟩ ⟨Nat.zero_le _, Nat.zero_le _⟩ (Nat.le_of_ble_eq_true rfl) dX9_fullest_90 (fun r_90 σ h_90 => ?_)
                subst h_90
                have J_102 : ∀ (y3_102 : Int32) (y4_102 : Int32) (σ : za_S) (hz : zc σ0 σ), zV p l e (zRm 4 89) s m args below meth c E (za_A E) 6 0 0 (MQ below (va_Qi (fun r σ' => zc σ0 σ') (zB E) (za_A E)) args s 0 0 (za_A E)) 102 [(0, za_O 0 0), (3, za_I y3_102), (4, za_I y4_102), (5, za_I y5_69)] [] σ := by
                  intro y3_102 y4_102 σ hz
                  refine zv_aload_n (j := 0) G dX9_fullest_102 rfl rfl ?_
                  refine zg_X9_54 G dX9_fullest_103 ?_
                  refine zv_iload (j := 3) G dX9_fullest_106 rfl ?_
                  refine zv_callVNi (as := [za_I y5_69]) G (by decide) rfl rfl (zc_X1_amount l E 85 y5_69 σ ) zk_X1_amount zm_606 rfl ⟨(Nat.le_of_ble_eq_true rfl), (Nat.le_of_ble_eq_true rfl)⟩ ⟨Nat.zero_le _, Nat.zero_le _⟩ (Nat.le_of_ble_eq_true rfl) dX9_fullest_108 (fun r_108 σ h_108 => ?_)
                  subst h_108
                  refine zv_aload_n (j := 0) G dX9_fullest_111 rfl rfl ?_
                  refine zg_X9_54 G dX9_fullest_112 ?_
                  refine zv_iload_n (j := 1) G dX9_fullest_115 rfl rfl ?_
                  refine zv_callVNi (as := [za_I y3_102]) G (by decide) rfl rfl (zc_X1_amount l E 85 y3_102 σ ) zk_X1_amount zm_606 rfl ⟨(Nat.le_of_ble_eq_true rfl), (Nat.le_of_ble_eq_true rfl)⟩ ⟨Nat.zero_le _, Nat.zero_le _⟩ (Nat.le_of_ble_eq_true rfl) dX9_fullest_116 (fun r_116 σ h_116 => ?_)
                  subst h_116
                  refine zv_icmp_ne (tgt := 125) G dX9_fullest_119 (by decide) (fun c_119 => ?_) (fun c_119 => ?_)
                  · obtain ⟨x_125, e_125⟩ : ∃ y : Int32, y = y5_69 + 1 := ⟨_, rfl⟩
                    refine zv_iinc (j := 3) (v := x_125) (lv' := [(5, za_I x_125), (0, za_O 0 0), (3, za_I y3_102), (4, za_I y4_102)]) G dX9_fullest_125 rfl (by rw [e_125]; rfl) (by decide) rfl ?_
                    refine zv_goto (tgt := 69) G dX9_fullest_128 (by decide) ?_
                    refine zv_sub [1, 2, 3, 0] (lv' := [(0, za_O 0 0), (3, za_I y3_102), (4, za_I y4_102), (5, za_I x_125)]) rfl ?_
                    exact ih_69 y3_102 y4_102 x_125 σ hz (z_meas c_73 e_125 hn_69)
                  · obtain ⟨x_122, e_122⟩ : ∃ y : Int32, y = y4_102 + 1 := ⟨_, rfl⟩
                    refine zv_iinc (j := 2) (v := x_122) (lv' := [(4, za_I x_122), (0, za_O 0 0), (3, za_I y3_102), (5, za_I y5_69)]) G dX9_fullest_122 rfl (by rw [e_122]; rfl) (by decide) rfl ?_
                    obtain ⟨x_125, e_125⟩ : ∃ y : Int32, y = y5_69 + 1 := ⟨_, rfl⟩
                    refine zv_iinc (j := 3) (v := x_125) (lv' := [(5, za_I x_125), (4, za_I x_122), (0, za_O 0 0), (3, za_I y3_102)]) G dX9_fullest_125 rfl (by rw [e_125]; rfl) (by decide) rfl ?_
                    refine zv_goto (tgt := 69) G dX9_fullest_128 (by decide) ?_
                    refine zv_sub [2, 3, 1, 0] (lv' := [(0, za_O 0 0), (3, za_I y3_102), (4, za_I x_122), (5, za_I x_125)]) rfl ?_
                    exact ih_69 y3_102 x_122 x_125 σ hz (z_meas c_73 e_125 hn_69)
                refine zv_icmp_le (tgt := 102) G dX9_fullest_93 (by decide) (fun c_93 => ?_) (fun c_93 => ?_)
                · refine zv_sub [0, 1, 2, 3] (lv' := [(0, za_O 0 0), (3, za_I y3_69), (4, za_I y4_69), (5, za_I y5_69)]) rfl ?_
                  exact J_102 y3_69 y4_69 σ hz
                · refine zv_iload (j := 3) G dX9_fullest_96 rfl ?_
                  refine zv_istore_n (lv' := [(3, za_I y5_69), (0, za_O 0 0), (4, za_I y4_69), (5, za_I y5_69)]) G dX9_fullest_98 rfl (by decide) rfl ?_
                  refine zv_iconst (v := 0) G dX9_fullest_99 (by decide) ?_
                  refine zv_istore (lv' := [(4, za_I 0), (3, za_I y5_69), (0, za_O 0 0), (5, za_I y5_69)]) G dX9_fullest_100 (by decide) rfl ?_
                  refine zv_sub [2, 1, 0, 3] (lv' := [(0, za_O 0 0), (3, za_I y5_69), (4, za_I 0), (5, za_I y5_69)]) rfl ?_
                  exact J_102 y5_69 (0 : Int32) σ hz
          refine zv_istore (lv' := [(5, za_I 0), (4, za_I 0), (3, za_I 0), (0, za_O 0 0), (2, za_O 2 w_14)]) G dX9_fullest_67 (by decide) rfl ?_
          refine zv_sub [3, 2, 1, 0] (lv' := [(0, za_O 0 0), (3, za_I 0), (4, za_I 0), (5, za_I 0)]) rfl ?_
          exact J_69 _ (0 : Int32) (0 : Int32) (0 : Int32) σ hz (Nat.lt_succ_self _)
        · refine zv_aload_n (j := 0) G dX9_fullest_35 rfl rfl ?_
          refine zg_X9_54 G dX9_fullest_36 ?_
          refine zv_aload_n (j := 1) G dX9_fullest_39 rfl rfl ?_
          refine zv_iload_n (j := 2) G dX9_fullest_40 rfl rfl ?_
          refine zv_iconst (v := 2) G dX9_fullest_41 (by decide) ?_
          refine zv_callVNi (as := [za_I y3_27, za_I 2]) G (by decide) rfl rfl (zc_X6_cell l E w_14 y3_27 (2 : Int32) σ ) zk_X6_cell zm_592 rfl ⟨(Nat.le_of_ble_eq_true rfl), (Nat.le_of_ble_eq_true rfl)⟩ ⟨Nat.zero_le _, Nat.zero_le _⟩ (Nat.le_of_ble_eq_true rfl) dX9_fullest_42 (fun r_42 σ h_42 => ?_)
          subst h_42
          refine zv_aload_n (j := 1) G dX9_fullest_45 rfl rfl ?_
          refine zv_iload_n (j := 2) G dX9_fullest_46 rfl rfl ?_
          refine zv_iconst (v := 3) G dX9_fullest_47 (by decide) ?_
          refine zv_callVNi (as := [za_I y3_27, za_I 3]) G (by decide) rfl rfl (zc_X6_cell l E w_14 y3_27 (3 : Int32) σ ) zk_X6_cell zm_592 rfl ⟨(Nat.le_of_ble_eq_true rfl), (Nat.le_of_ble_eq_true rfl)⟩ ⟨Nat.zero_le _, Nat.zero_le _⟩ (Nat.le_of_ble_eq_true rfl) dX9_fullest_48 (fun r_48 σ h_48 => ?_)
          subst h_48
          refine zv_iconst (v := 1) G dX9_fullest_51 (by decide) ?_
          refine zv_callVNv (as := [za_I r_42, za_I r_48, za_I 1]) G (by decide) rfl rfl (zc_X1_add l E 85 r_42 r_48 (1 : Int32) σ ) zk_X1_add zm_862 rfl ⟨(Nat.le_of_ble_eq_true rfl), (Nat.le_of_ble_eq_true rfl)⟩ ⟨Nat.zero_le _, Nat.zero_le _⟩ (Nat.le_of_ble_eq_true rfl) dX9_fullest_52 (fun σ h_52 => ?_)
          have hz9 := h_52
          have hz := zc_t hz hz9
          obtain ⟨x_55, e_55⟩ : ∃ y : Int32, y = y3_27 + 1 := ⟨_, rfl⟩
          refine zv_iinc (j := 2) (v := x_55) (lv' := [(3, za_I x_55), (0, za_O 0 0), (2, za_O 2 w_14)]) G dX9_fullest_55 rfl (by rw [e_55]; rfl) (by decide) rfl ?_
          refine zv_goto (tgt := 27) G dX9_fullest_58 (by decide) ?_
          refine zv_sub [1, 2, 0] (lv' := [(0, za_O 0 0), (2, za_O 2 w_14), (3, za_I x_55)]) rfl ?_
          exact ih_27 x_55 σ hz (z_meas c_32 e_55 hn_27)
    refine zv_istore_n (lv' := [(3, za_I 0), (2, za_O 2 w_14), (0, za_O 0 0), (1, za_I a1)]) G dX9_fullest_26 rfl (by decide) rfl ?_
    refine zv_sub [2, 1, 0] (lv' := [(0, za_O 0 0), (2, za_O 2 w_14), (3, za_I 0)]) rfl ?_
    exact J_27 _ (0 : Int32) σ hz (Nat.lt_succ_self _)
  · refine zv_iconst (v := (-1)) G dX9_fullest_7 (by decide) ?_
    exact zv_iret G hr dX9_fullest_8 hz
set_option maxHeartbeats 4000000 in
set_option maxRecDepth 100000 in
theorem zc_X9_fewestBehind (l : Launch) (E : za_E) (a1 : Nat) (a2 : Int32) (a3 : Int32) (a4 : Int32) (σ : za_S)  : zMi l E yX9_fewestBehind cX9_fewestBehind 10 (Option.some Jvm.ClassFile.FieldType.int) 4 87 [za_O 0 0, za_O 2 a1, za_I a2, za_I a3, za_I a4] σ (fun r σ' => σ' = σ) := by
  refine zMi_of [(0, za_O 0 0), (1, za_O 2 a1), (2, za_I a2), (3, za_I a3), (4, za_I a4)] (by decide) rfl rfl (Nat.le_of_ble_eq_true rfl) ?_
  intro ho p e s m args below meth c G hr
  have h_a1 : za_kd a1 = 2 := za_okO (by decide) (List.forall_mem_cons.mp (List.forall_mem_cons.mp ho).2).1
  refine zv_iconst (v := 0) G dX9_fewestBehind_0 (by decide) ?_
  refine zv_istore (lv' := [(5, za_I 0), (0, za_O 0 0), (1, za_O 2 a1), (2, za_I a2), (3, za_I a3), (4, za_I a4)]) G dX9_fewestBehind_1 (by decide) rfl ?_
  refine zv_iload_n (j := 4) G dX9_fewestBehind_3 rfl rfl ?_
  refine zv_istore (lv' := [(6, za_I a3), (5, za_I 0), (0, za_O 0 0), (1, za_O 2 a1), (2, za_I a2), (3, za_I a3), (4, za_I a4)]) G dX9_fewestBehind_4 (by decide) rfl ?_
  refine zv_iconst (v := 0) G dX9_fewestBehind_6 (by decide) ?_
  have J_9 : ∀ (n : Nat) (y5_9 : Int32) (y6_9 : Int32) (y7_9 : Int32) (hn_9 : (2147483648 - y7_9.toInt).toNat < n), zV p l e (zRm 4 87) s m args below meth c E (za_A E) 10 0 0 (MQ below (va_Qi (fun r σ' => σ' = σ) (zB E) (za_A E)) args s 0 0 (za_A E)) 9 [(0, za_O 0 0), (1, za_O 2 a1), (2, za_I a2), (4, za_I a4), (5, za_I y5_9), (6, za_I y6_9), (7, za_I y7_9)] [] σ := by
    intro n
    induction n with
    | zero => intro y5_9 y6_9 y7_9 hn; exact absurd hn (Nat.not_lt_zero _)
    | succ n ih_9 =>
      intro y5_9 y6_9 y7_9 hn_9
      refine zv_iload (j := 6) G dX9_fewestBehind_9 rfl ?_
      refine zv_bipush (v := 100) G dX9_fewestBehind_11 (by decide) ?_
      refine zv_icmp_ge (tgt := 131) G dX9_fewestBehind_13 (by decide) (fun c_13 => ?_) (fun c_13 => ?_)
      · refine zv_iload (j := 4) G dX9_fewestBehind_131 rfl ?_
        exact zv_iret G hr dX9_fewestBehind_133 rfl
      · refine zv_iload (j := 5) G dX9_fewestBehind_16 rfl ?_
        refine zv_iload (j := 3) G dX9_fewestBehind_18 rfl ?_
        refine zv_icmp_ge (tgt := 131) G dX9_fewestBehind_20 (by decide) (fun c_20 => ?_) (fun c_20 => ?_)
        · refine zv_iload (j := 4) G dX9_fewestBehind_131 rfl ?_
          exact zv_iret G hr dX9_fewestBehind_133 rfl
        · refine zv_aload_n (j := 0) G dX9_fewestBehind_23 rfl rfl ?_
          refine zg_X9_54 G dX9_fewestBehind_24 ?_
          refine zv_iload (j := 5) G dX9_fewestBehind_27 rfl ?_
          refine zv_callVNi (as := [za_I y6_9]) G (by decide) rfl rfl (zc_X1_amount l E 85 y6_9 σ ) zk_X1_amount zm_606 rfl ⟨(Nat.le_of_ble_eq_true rfl), (Nat.le_of_ble_eq_true rfl)⟩ ⟨Nat.zero_le _, Nat.zero_le _⟩ (Nat.le_of_ble_eq_true rfl) dX9_fewestBehind_29 (fun r_29 σ h_29 => ?_)
          subst h_29
          refine zv_if_gt (tgt := 49) G dX9_fewestBehind_32 (by decide) (fun c_32 => ?_) (fun c_32 => ?_)
          · obtain ⟨x_49, e_49⟩ : ∃ y : Int32, y = y6_9 + 1 := ⟨_, rfl⟩
            refine zv_iinc (j := 5) (v := x_49) (lv' := [(6, za_I x_49), (0, za_O 0 0), (1, za_O 2 a1), (2, za_I a2), (4, za_I a4), (5, za_I y5_9), (7, za_I y7_9)]) G dX9_fewestBehind_49 rfl (by rw [e_49]; rfl) (by decide) rfl ?_
            refine zv_goto (tgt := 125) G dX9_fewestBehind_52 (by decide) ?_
            obtain ⟨x_125, e_125⟩ : ∃ y : Int32, y = y7_9 + 1 := ⟨_, rfl⟩
            refine zv_iinc (j := 6) (v := x_125) (lv' := [(7, za_I x_125), (6, za_I x_49), (0, za_O 0 0), (1, za_O 2 a1), (2, za_I a2), (4, za_I a4), (5, za_I y5_9)]) G dX9_fewestBehind_125 rfl (by rw [e_125]; rfl) (by decide) rfl ?_
            refine zv_goto (tgt := 9) G dX9_fewestBehind_128 (by decide) ?_
            refine zv_sub [2, 3, 4, 5, 6, 1, 0] (lv' := [(0, za_O 0 0), (1, za_O 2 a1), (2, za_I a2), (4, za_I a4), (5, za_I y5_9), (6, za_I x_49), (7, za_I x_125)]) rfl ?_
            exact ih_9 y5_9 x_49 x_125 (z_meas c_13 e_125 hn_9)
          · refine zv_aload_n (j := 1) G dX9_fewestBehind_35 rfl rfl ?_
            refine zv_iload_n (j := 2) G dX9_fewestBehind_36 rfl rfl ?_
            refine zv_iload (j := 5) G dX9_fewestBehind_37 rfl ?_
            refine zv_iload (j := 5) G dX9_fewestBehind_39 rfl ?_
            refine zv_iconst (v := 1) G dX9_fewestBehind_41 (by decide) ?_
            refine zv_iadd G dX9_fewestBehind_42 ?_
            refine zv_callVNi (as := [za_I a2, za_I y6_9, za_I (y6_9 + 1)]) G (by decide) rfl rfl (zc_X6_daysOfRowWithin l E a1 a2 y6_9 (y6_9 + 1) σ ) zk_X6_daysOfRowWithin zm_777 rfl ⟨(Nat.le_of_ble_eq_true rfl), (Nat.le_of_ble_eq_true rfl)⟩ ⟨Nat.zero_le _, Nat.zero_le _⟩ (Nat.le_of_ble_eq_true rfl) dX9_fewestBehind_43 (fun r_43 σ h_43 => ?_)
            subst h_43
            refine zv_if_le (tgt := 55) G dX9_fewestBehind_46 (by decide) (fun c_46 => ?_) (fun c_46 => ?_)
            · refine zv_iload (j := 5) G dX9_fewestBehind_55 rfl ?_
              refine zv_istore (lv' := [(8, za_I y6_9), (0, za_O 0 0), (1, za_O 2 a1), (2, za_I a2), (4, za_I a4), (5, za_I y5_9), (6, za_I y6_9), (7, za_I y7_9)]) G dX9_fewestBehind_57 (by decide) rfl ?_
              refine zv_iload_n (j := 3) G dX9_fewestBehind_59 rfl rfl ?_
              refine zv_iconst (v := 1) G dX9_fewestBehind_60 (by decide) ?_
              refine zv_iadd G dX9_fewestBehind_61 ?_
              have J_64 : ∀ (n : Nat) (y8_64 : Int32) (y9_64 : Int32) (hn_64 : (2147483648 - y9_64.toInt).toNat < n), zV p l e (zRm 4 87) s m args below meth c E (za_A E) 10 0 0 (MQ below (va_Qi (fun r σ' => σ' = σ) (zB E) (za_A E)) args s 0 0 (za_A E)) 64 [(0, za_O 0 0), (1, za_O 2 a1), (2, za_I a2), (4, za_I a4), (5, za_I y5_9), (6, za_I y6_9), (7, za_I y7_9), (8, za_I y8_64), (9, za_I y9_64)] [] σ := by
                intro n
                induction n with
                | zero => intro y8_64 y9_64 hn; exact absurd hn (Nat.not_lt_zero _)
                | succ n ih_64 =>
                  intro y8_64 y9_64 hn_64
                  refine zv_iload (j := 8) G dX9_fewestBehind_64 rfl ?_
                  refine zv_aload_n (j := 1) G dX9_fewestBehind_66 rfl rfl ?_
                  refine zg_X9_106 G dX9_fewestBehind_67 ?_
                  refine zv_icmp_ge (tgt := 108) G dX9_fewestBehind_70 (by decide) (fun c_70 => ?_) (fun c_70 => ?_)
                  · refine zv_iload (j := 7) G dX9_fewestBehind_108 rfl ?_
                    refine zv_iload (j := 5) G dX9_fewestBehind_110 rfl ?_
                    refine zv_icmp_ne (tgt := 118) G dX9_fewestBehind_112 (by decide) (fun c_112 => ?_) (fun c_112 => ?_)
                    · obtain ⟨x_118, e_118⟩ : ∃ y : Int32, y = y5_9 + 1 := ⟨_, rfl⟩
                      refine zv_iinc (j := 4) (v := x_118) (lv' := [(5, za_I x_118), (0, za_O 0 0), (1, za_O 2 a1), (2, za_I a2), (4, za_I a4), (6, za_I y6_9), (7, za_I y7_9), (8, za_I y8_64), (9, za_I y9_64)]) G dX9_fewestBehind_118 rfl (by rw [e_118]; rfl) (by decide) rfl ?_
                      refine zv_iload (j := 7) G dX9_fewestBehind_121 rfl ?_
                      refine zv_istore (lv' := [(6, za_I y8_64), (5, za_I x_118), (0, za_O 0 0), (1, za_O 2 a1), (2, za_I a2), (4, za_I a4), (7, za_I y7_9), (8, za_I y8_64), (9, za_I y9_64)]) G dX9_fewestBehind_123 (by decide) rfl ?_
                      obtain ⟨x_125, e_125⟩ : ∃ y : Int32, y = y7_9 + 1 := ⟨_, rfl⟩
                      refine zv_iinc (j := 6) (v := x_125) (lv' := [(7, za_I x_125), (6, za_I y8_64), (5, za_I x_118), (0, za_O 0 0), (1, za_O 2 a1), (2, za_I a2), (4, za_I a4), (8, za_I y8_64), (9, za_I y9_64)]) G dX9_fewestBehind_125 rfl (by rw [e_125]; rfl) (by decide) rfl ?_
                      refine zv_goto (tgt := 9) G dX9_fewestBehind_128 (by decide) ?_
                      refine zv_sub [3, 4, 5, 6, 2, 1, 0] (lv' := [(0, za_O 0 0), (1, za_O 2 a1), (2, za_I a2), (4, za_I a4), (5, za_I x_118), (6, za_I y8_64), (7, za_I x_125)]) rfl ?_
                      exact ih_9 x_118 y8_64 x_125 (z_meas c_13 e_125 hn_9)
                    · refine zv_bipush (v := 21) G dX9_fewestBehind_115 (by decide) ?_
                      exact zv_iret G hr dX9_fewestBehind_117 rfl
                  · refine zv_aload_n (j := 1) G dX9_fewestBehind_73 rfl rfl ?_
                    refine zv_iload (j := 8) G dX9_fewestBehind_74 rfl ?_
                    refine zv_iload (j := 5) G dX9_fewestBehind_76 rfl ?_
                    refine zv_iload (j := 5) G dX9_fewestBehind_78 rfl ?_
                    refine zv_iconst (v := 1) G dX9_fewestBehind_80 (by decide) ?_
                    refine zv_iadd G dX9_fewestBehind_81 ?_
                    refine zv_callVNi (as := [za_I y9_64, za_I y6_9, za_I (y6_9 + 1)]) G (by decide) rfl rfl (zc_X6_daysOfRowWithin l E a1 y9_64 y6_9 (y6_9 + 1) σ ) zk_X6_daysOfRowWithin zm_777 rfl ⟨(Nat.le_of_ble_eq_true rfl), (Nat.le_of_ble_eq_true rfl)⟩ ⟨Nat.zero_le _, Nat.zero_le _⟩ (Nat.le_of_ble_eq_true rfl) dX9_fewestBehind_82 (fun r_82 σ h_82 => ?_)
                    subst h_82
                    refine zv_if_le (tgt := 102) G dX9_fewestBehind_85 (by decide) (fun c_85 => ?_) (fun c_85 => ?_)
                    · obtain ⟨x_102, e_102⟩ : ∃ y : Int32, y = y9_64 + 1 := ⟨_, rfl⟩
                      refine zv_iinc (j := 8) (v := x_102) (lv' := [(9, za_I x_102), (0, za_O 0 0), (1, za_O 2 a1), (2, za_I a2), (4, za_I a4), (5, za_I y5_9), (6, za_I y6_9), (7, za_I y7_9), (8, za_I y8_64)]) G dX9_fewestBehind_102 rfl (by rw [e_102]; rfl) (by decide) rfl ?_
                      refine zv_goto (tgt := 64) G dX9_fewestBehind_105 (by decide) ?_
                      refine zv_sub [1, 2, 3, 4, 5, 6, 7, 8, 0] (lv' := [(0, za_O 0 0), (1, za_O 2 a1), (2, za_I a2), (4, za_I a4), (5, za_I y5_9), (6, za_I y6_9), (7, za_I y7_9), (8, za_I y8_64), (9, za_I x_102)]) rfl ?_
                      exact ih_64 y8_64 x_102 (z_meas c_70 e_102 hn_64)
                    · refine zv_iload (j := 7) G dX9_fewestBehind_88 rfl ?_
                      refine zv_aload_n (j := 1) G dX9_fewestBehind_90 rfl rfl ?_
                      refine zv_iload (j := 8) G dX9_fewestBehind_91 rfl ?_
                      refine zv_iconst (v := 3) G dX9_fewestBehind_93 (by decide) ?_
                      refine zv_callVNi (as := [za_I y9_64, za_I 3]) G (by decide) rfl rfl (zc_X6_cell l E a1 y9_64 (3 : Int32) σ ) zk_X6_cell zm_592 rfl ⟨(Nat.le_of_ble_eq_true rfl), (Nat.le_of_ble_eq_true rfl)⟩ ⟨Nat.zero_le _, Nat.zero_le _⟩ (Nat.le_of_ble_eq_true rfl) dX9_fewestBehind_94 (fun r_94 σ h_94 => ?_)
                      subst h_94
                      refine zv_mmax G zm_394 zm_395 zm_147 zm_396 (Nat.le_of_ble_eq_true rfl) (Nat.le_of_ble_eq_true rfl) (Nat.zero_le _) (Nat.zero_le _) dX9_fewestBehind_97 ?_
                      refine zv_top (fun x_97 e_97 => ?_)
                      refine zv_istore (lv' := [(8, za_I x_97), (0, za_O 0 0), (1, za_O 2 a1), (2, za_I a2), (4, za_I a4), (5, za_I y5_9), (6, za_I y6_9), (7, za_I y7_9), (9, za_I y9_64)]) G dX9_fewestBehind_100 (by decide) rfl ?_
                      obtain ⟨x_102, e_102⟩ : ∃ y : Int32, y = y9_64 + 1 := ⟨_, rfl⟩
                      refine zv_iinc (j := 8) (v := x_102) (lv' := [(9, za_I x_102), (8, za_I x_97), (0, za_O 0 0), (1, za_O 2 a1), (2, za_I a2), (4, za_I a4), (5, za_I y5_9), (6, za_I y6_9), (7, za_I y7_9)]) G dX9_fewestBehind_102 rfl (by rw [e_102]; rfl) (by decide) rfl ?_
                      refine zv_goto (tgt := 64) G dX9_fewestBehind_105 (by decide) ?_
                      refine zv_sub [2, 3, 4, 5, 6, 7, 8, 1, 0] (lv' := [(0, za_O 0 0), (1, za_O 2 a1), (2, za_I a2), (4, za_I a4), (5, za_I y5_9), (6, za_I y6_9), (7, za_I y7_9), (8, za_I x_97), (9, za_I x_102)]) rfl ?_
                      exact ih_64 x_97 x_102 (z_meas c_70 e_102 hn_64)
              refine zv_top (fun x_62 e_62 => ?_)
              refine zv_istore (lv' := [(9, za_I x_62), (8, za_I y6_9), (0, za_O 0 0), (1, za_O 2 a1), (2, za_I a2), (4, za_I a4), (5, za_I y5_9), (6, za_I y6_9), (7, za_I y7_9)]) G dX9_fewestBehind_62 (by decide) rfl ?_
              refine zv_sub [2, 3, 4, 5, 6, 7, 8, 1, 0] (lv' := [(0, za_O 0 0), (1, za_O 2 a1), (2, za_I a2), (4, za_I a4), (5, za_I y5_9), (6, za_I y6_9), (7, za_I y7_9), (8, za_I y6_9), (9, za_I x_62)]) rfl ?_
              exact J_64 _ y6_9 x_62 (Nat.lt_succ_self _)
            · obtain ⟨x_49, e_49⟩ : ∃ y : Int32, y = y6_9 + 1 := ⟨_, rfl⟩
              refine zv_iinc (j := 5) (v := x_49) (lv' := [(6, za_I x_49), (0, za_O 0 0), (1, za_O 2 a1), (2, za_I a2), (4, za_I a4), (5, za_I y5_9), (7, za_I y7_9)]) G dX9_fewestBehind_49 rfl (by rw [e_49]; rfl) (by decide) rfl ?_
              refine zv_goto (tgt := 125) G dX9_fewestBehind_52 (by decide) ?_
              obtain ⟨x_125, e_125⟩ : ∃ y : Int32, y = y7_9 + 1 := ⟨_, rfl⟩
              refine zv_iinc (j := 6) (v := x_125) (lv' := [(7, za_I x_125), (6, za_I x_49), (0, za_O 0 0), (1, za_O 2 a1), (2, za_I a2), (4, za_I a4), (5, za_I y5_9)]) G dX9_fewestBehind_125 rfl (by rw [e_125]; rfl) (by decide) rfl ?_
              refine zv_goto (tgt := 9) G dX9_fewestBehind_128 (by decide) ?_
              refine zv_sub [2, 3, 4, 5, 6, 1, 0] (lv' := [(0, za_O 0 0), (1, za_O 2 a1), (2, za_I a2), (4, za_I a4), (5, za_I y5_9), (6, za_I x_49), (7, za_I x_125)]) rfl ?_
              exact ih_9 y5_9 x_49 x_125 (z_meas c_13 e_125 hn_9)
  refine zv_istore (lv' := [(7, za_I 0), (6, za_I a3), (5, za_I 0), (0, za_O 0 0), (1, za_O 2 a1), (2, za_I a2), (3, za_I a3), (4, za_I a4)]) G dX9_fewestBehind_7 (by decide) rfl ?_
  refine zv_sub [3, 4, 5, 7, 2, 1, 0] (lv' := [(0, za_O 0 0), (1, za_O 2 a1), (2, za_I a2), (4, za_I a4), (5, za_I 0), (6, za_I a3), (7, za_I 0)]) rfl ?_
  exact J_9 _ (0 : Int32) a3 (0 : Int32) (Nat.lt_succ_self _)
set_option maxHeartbeats 4000000 in
set_option maxRecDepth 100000 in
theorem zc_X9_spans (l : Launch) (E : za_E) (a1 : Int32) (a2 : Int32) (a3 : Int32) (σ0 : za_S)  : zMi l E yX9_spans cX9_spans 8 (Option.some Jvm.ClassFile.FieldType.int) 5 116 [za_O 0 0, za_I a1, za_I a2, za_I a3] σ0 (fun r σ' => zc σ0 σ') := by
  refine zMi_of [(0, za_O 0 0), (1, za_I a1), (2, za_I a2), (3, za_I a3)] (by decide) rfl rfl (Nat.le_of_ble_eq_true rfl) ?_
  intro ho p e s m args below meth c G hr
  refine zv_gen (R9 := zc σ0) (zc_r σ0) (fun σ hz => ?_)
  refine zv_iload_n (j := 1) G dX9_spans_0 rfl rfl ?_
  refine zv_callSi (as := [za_I a1]) G (zc_X9_isTable l E a1 σ ) zk_X9_isTable zm_438 rfl ⟨(Nat.le_of_ble_eq_true rfl), (Nat.le_of_ble_eq_true rfl)⟩ ⟨Nat.zero_le _, Nat.zero_le _⟩ (Nat.le_of_ble_eq_true rfl) dX9_spans_1 (fun r_1 σ h_1 => ?_)
  obtain ⟨h_1, rfl⟩ := h_1
  refine zv_if_eq (tgt := 15) G dX9_spans_4 (by decide) (fun c_4 => ?_) (fun c_4 => ?_)
  · refine zv_iconst (v := (-1)) G dX9_spans_15 (by decide) ?_
    exact zv_iret G hr dX9_spans_16 hz
  · refine zv_iload_n (j := 2) G dX9_spans_7 rfl rfl ?_
    refine zv_iload_n (j := 3) G dX9_spans_8 rfl rfl ?_
    refine zv_callSi (as := [za_I a2, za_I a3]) G (zc_X9_isPeriod l E a2 a3 σ ) zk_X9_isPeriod zm_444 rfl ⟨(Nat.le_of_ble_eq_true rfl), (Nat.le_of_ble_eq_true rfl)⟩ ⟨Nat.zero_le _, Nat.zero_le _⟩ (Nat.le_of_ble_eq_true rfl) dX9_spans_9 (fun r_9 σ h_9 => ?_)
    obtain ⟨h_9, rfl⟩ := h_9
    refine zv_if_ne (tgt := 17) G dX9_spans_12 (by decide) (fun c_12 => ?_) (fun c_12 => ?_)
    · refine zv_aload_n (j := 0) G dX9_spans_17 rfl rfl ?_
      refine zg_X9_10 G dX9_spans_18 ?_
      refine zv_iload_n (j := 1) G dX9_spans_21 rfl rfl ?_
      refine zv_callVNr (as := [za_I a1]) G (by decide) rfl rfl (zc_X4_table l E 1 a1 σ ) zk_X4_table zm_453 rfl ⟨(Nat.le_of_ble_eq_true rfl), (Nat.le_of_ble_eq_true rfl)⟩ ⟨Nat.zero_le _, Nat.zero_le _⟩ (Nat.le_of_ble_eq_true rfl) dX9_spans_22 (fun r_22 σ h_22 => ?_)
      obtain ⟨w_22, rfl, h_w_22, t_22, rfl⟩ := h_22
      refine zv_astore (lv' := [(4, za_O 2 w_22), (0, za_O 0 0), (1, za_I a1), (2, za_I a2), (3, za_I a3)]) G dX9_spans_25 (by decide) rfl ?_
      refine zv_aload_n (j := 1) G dX9_spans_27 rfl rfl ?_
      refine zg_X9_54 G dX9_spans_28 ?_
      refine zv_callVNv (as := []) G (by decide) rfl rfl (zc_X1_clear l E 85 σ ) zk_X1_clear zm_577 rfl ⟨(Nat.le_of_ble_eq_true rfl), (Nat.le_of_ble_eq_true rfl)⟩ ⟨Nat.zero_le _, Nat.zero_le _⟩ (Nat.le_of_ble_eq_true rfl) dX9_spans_31 (fun σ h_31 => ?_)
      have hz9 := h_31
      have hz := zc_t hz hz9
      refine zv_aload_n (j := 1) G dX9_spans_34 rfl rfl ?_
      refine zv_aload (j := 0) G dX9_spans_35 rfl ?_
      refine zv_iconst (v := (-1)) G dX9_spans_37 (by decide) ?_
      refine zv_iload_n (j := 3) G dX9_spans_38 rfl rfl ?_
      refine zv_iload_n (j := 4) G dX9_spans_39 rfl rfl ?_
      refine zv_callVi (as := [za_O 2 w_22, za_I (-1), za_I a2, za_I a3]) G (by decide) rfl rfl (zc_X9_fewestBehind l E w_22 (-1) a2 a3 σ ) zk_X9_fewestBehind zm_878 rfl ⟨(Nat.le_of_ble_eq_true rfl), (Nat.le_of_ble_eq_true rfl)⟩ ⟨Nat.zero_le _, Nat.zero_le _⟩ (Nat.le_of_ble_eq_true rfl) dX9_spans_40 (fun r_40 σ h_40 => ?_)
      subst h_40
      refine zv_istore (lv' := [(5, za_I r_40), (4, za_O 2 w_22), (0, za_O 0 0), (1, za_I a1), (2, za_I a2), (3, za_I a3)]) G dX9_spans_43 (by decide) rfl ?_
      refine zv_iload (j := 0) G dX9_spans_45 rfl ?_
      refine zv_bipush (v := 20) G dX9_spans_47 (by decide) ?_
      refine zv_icmp_le (tgt := 55) G dX9_spans_49 (by decide) (fun c_49 => ?_) (fun c_49 => ?_)
      · refine zv_aload_n (j := 2) G dX9_spans_55 rfl rfl ?_
        refine zg_X9_40 G dX9_spans_56 ?_
        refine zv_callVNv (as := []) G (by decide) rfl rfl (zc_X8_clear l E  σ ) zk_X8_clear zm_776 rfl ⟨(Nat.le_of_ble_eq_true rfl), (Nat.le_of_ble_eq_true rfl)⟩ ⟨Nat.zero_le _, Nat.zero_le _⟩ (Nat.le_of_ble_eq_true rfl) dX9_spans_59 (fun σ h_59 => ?_)
        have hz9 := h_59
        have hz := zc_t hz hz9
        refine zv_iload (j := 0) G dX9_spans_62 rfl ?_
        refine zv_istore (lv' := [(6, za_I r_40), (5, za_I r_40), (4, za_O 2 w_22), (0, za_O 0 0), (1, za_I a1), (2, za_I a2), (3, za_I a3)]) G dX9_spans_64 (by decide) rfl ?_
        refine zv_iconst (v := 0) G dX9_spans_66 (by decide) ?_
        have J_69 : ∀ (n : Nat) (y6_69 : Int32) (y7_69 : Int32) (σ : za_S) (hz : zc σ0 σ) (hn_69 : (2147483648 - y7_69.toInt).toNat < n), zV p l e (zRm 5 116) s m args below meth c E (za_A E) 8 0 0 (MQ below (va_Qi (fun r σ' => zc σ0 σ') (zB E) (za_A E)) args s 0 0 (za_A E)) 69 [(0, za_O 0 0), (2, za_I a2), (3, za_I a3), (4, za_O 2 w_22), (5, za_I r_40), (6, za_I y6_69), (7, za_I y7_69)] [] σ := by
          intro n
          induction n with
          | zero => intro y6_69 y7_69 σ hz hn; exact absurd hn (Nat.not_lt_zero _)
          | succ n ih_69 =>
            intro y6_69 y7_69 σ hz hn_69
            refine zv_iload (j := 6) G dX9_spans_69 rfl ?_
            refine zv_aload (j := 3) G dX9_spans_71 rfl ?_
            refine zg_X9_106 G dX9_spans_73 ?_
            refine zv_icmp_ge (tgt := 142) G dX9_spans_76 (by decide) (fun c_76 => ?_) (fun c_76 => ?_)
            · refine zv_iload (j := 4) G dX9_spans_142 rfl ?_
              exact zv_iret G hr dX9_spans_144 hz
            · refine zv_iload (j := 5) G dX9_spans_79 rfl ?_
              refine zv_if_le (tgt := 142) G dX9_spans_81 (by decide) (fun c_81 => ?_) (fun c_81 => ?_)
              · refine zv_iload (j := 4) G dX9_spans_142 rfl ?_
                exact zv_iret G hr dX9_spans_144 hz
              · refine zv_aload_n (j := 0) G dX9_spans_84 rfl rfl ?_
                refine zv_aload (j := 3) G dX9_spans_85 rfl ?_
                refine zv_iload (j := 6) G dX9_spans_87 rfl ?_
                refine zv_iload_n (j := 1) G dX9_spans_89 rfl rfl ?_
                refine zv_iload_n (j := 2) G dX9_spans_90 rfl rfl ?_
                refine zv_callVi (as := [za_O 2 w_22, za_I y7_69, za_I a2, za_I a3]) G (by decide) rfl rfl (zc_X9_fewestBehind l E w_22 y7_69 a2 a3 σ ) zk_X9_fewestBehind zm_878 rfl ⟨(Nat.le_of_ble_eq_true rfl), (Nat.le_of_ble_eq_true rfl)⟩ ⟨Nat.zero_le _, Nat.zero_le _⟩ (Nat.le_of_ble_eq_true rfl) dX9_spans_91 (fun r_91 σ h_91 => ?_)
                subst h_91
                refine zv_iload (j := 5) G dX9_spans_94 rfl ?_
                refine zv_icmp_ge (tgt := 136) G dX9_spans_96 (by decide) (fun c_96 => ?_) (fun c_96 => ?_)
                · obtain ⟨x_136, e_136⟩ : ∃ y : Int32, y = y7_69 + 1 := ⟨_, rfl⟩
                  refine zv_iinc (j := 6) (v := x_136) (lv' := [(7, za_I x_136), (0, za_O 0 0), (2, za_I a2), (3, za_I a3), (4, za_O 2 w_22), (5, za_I r_40), (6, za_I y6_69)]) G dX9_spans_136 rfl (by rw [e_136]; rfl) (by decide) rfl ?_
                  refine zv_goto (tgt := 69) G dX9_spans_139 (by decide) ?_
                  refine zv_sub [1, 2, 3, 4, 5, 6, 0] (lv' := [(0, za_O 0 0), (2, za_I a2), (3, za_I a3), (4, za_O 2 w_22), (5, za_I r_40), (6, za_I y6_69), (7, za_I x_136)]) rfl ?_
                  exact ih_69 y6_69 x_136 σ hz (z_meas c_76 e_136 hn_69)
                · refine zv_aload_n (j := 0) G dX9_spans_99 rfl rfl ?_
                  refine zg_X9_54 G dX9_spans_100 ?_
                  refine zv_aload (j := 3) G dX9_spans_103 rfl ?_
                  refine zv_iload (j := 6) G dX9_spans_105 rfl ?_
                  refine zv_iconst (v := 2) G dX9_spans_107 (by decide) ?_
                  refine zv_callVNi (as := [za_I y7_69, za_I 2]) G (by decide) rfl rfl (zc_X6_cell l E w_22 y7_69 (2 : Int32) σ ) zk_X6_cell zm_592 rfl ⟨(Nat.le_of_ble_eq_true rfl), (Nat.le_of_ble_eq_true rfl)⟩ ⟨Nat.zero_le _, Nat.zero_le _⟩ (Nat.le_of_ble_eq_true rfl) dX9_spans_108 (fun r_108 σ h_108 => ?_)
                  subst h_108
                  refine zv_aload (j := 3) G dX9_spans_111 rfl ?_
                  refine zv_iload (j := 6) G dX9_spans_113 rfl ?_
                  refine zv_iconst (v := 3) G dX9_spans_115 (by decide) ?_
                  refine zv_callVNi (as := [za_I y7_69, za_I 3]) G (by decide) rfl rfl (zc_X6_cell l E w_22 y7_69 (3 : Int32) σ ) zk_X6_cell zm_592 rfl ⟨(Nat.le_of_ble_eq_true rfl), (Nat.le_of_ble_eq_true rfl)⟩ ⟨Nat.zero_le _, Nat.zero_le _⟩ (Nat.le_of_ble_eq_true rfl) dX9_spans_116 (fun r_116 σ h_116 => ?_)
                  subst h_116
                  refine zv_iconst (v := 1) G dX9_spans_119 (by decide) ?_
                  refine zv_callVNv (as := [za_I r_108, za_I r_116, za_I 1]) G (by decide) rfl rfl (zc_X1_add l E 85 r_108 r_116 (1 : Int32) σ ) zk_X1_add zm_862 rfl ⟨(Nat.le_of_ble_eq_true rfl), (Nat.le_of_ble_eq_true rfl)⟩ ⟨Nat.zero_le _, Nat.zero_le _⟩ (Nat.le_of_ble_eq_true rfl) dX9_spans_120 (fun σ h_120 => ?_)
                  have hz9 := h_120
                  have hz := zc_t hz hz9
                  refine zv_aload_n (j := 0) G dX9_spans_123 rfl rfl ?_
                  refine zg_X9_40 G dX9_spans_124 ?_
                  refine zv_iload (j := 6) G dX9_spans_127 rfl ?_
                  refine zv_i2l G dX9_spans_129 ?_
                  refine zv_callVNv (as := [za_L y7_69.toInt64]) G (by decide) rfl rfl (zc_X8_add l E y7_69.toInt64 σ ) zk_X8_add zm_778 rfl ⟨(Nat.le_of_ble_eq_true rfl), (Nat.le_of_ble_eq_true rfl)⟩ ⟨Nat.zero_le _, Nat.zero_le _⟩ (Nat.le_of_ble_eq_true rfl) dX9_spans_130 (fun σ h_130 => ?_)
                  have hz9 := h_130
                  have hz := zc_t hz hz9
                  obtain ⟨x_133, e_133⟩ : ∃ y : Int32, y = y6_69 + (-1) := ⟨_, rfl⟩
                  refine zv_iinc (j := 5) (v := x_133) (lv' := [(6, za_I x_133), (0, za_O 0 0), (2, za_I a2), (3, za_I a3), (4, za_O 2 w_22), (5, za_I r_40), (7, za_I y7_69)]) G dX9_spans_133 rfl (by rw [e_133]; rfl) (by decide) rfl ?_
                  obtain ⟨x_136, e_136⟩ : ∃ y : Int32, y = y7_69 + 1 := ⟨_, rfl⟩
                  refine zv_iinc (j := 6) (v := x_136) (lv' := [(7, za_I x_136), (6, za_I x_133), (0, za_O 0 0), (2, za_I a2), (3, za_I a3), (4, za_O 2 w_22), (5, za_I r_40)]) G dX9_spans_136 rfl (by rw [e_136]; rfl) (by decide) rfl ?_
                  refine zv_goto (tgt := 69) G dX9_spans_139 (by decide) ?_
                  refine zv_sub [2, 3, 4, 5, 6, 1, 0] (lv' := [(0, za_O 0 0), (2, za_I a2), (3, za_I a3), (4, za_O 2 w_22), (5, za_I r_40), (6, za_I x_133), (7, za_I x_136)]) rfl ?_
                  exact ih_69 x_133 x_136 σ hz (z_meas c_76 e_136 hn_69)
        refine zv_istore (lv' := [(7, za_I 0), (6, za_I r_40), (5, za_I r_40), (4, za_O 2 w_22), (0, za_O 0 0), (1, za_I a1), (2, za_I a2), (3, za_I a3)]) G dX9_spans_67 (by decide) rfl ?_
        refine zv_sub [4, 6, 7, 3, 2, 1, 0] (lv' := [(0, za_O 0 0), (2, za_I a2), (3, za_I a3), (4, za_O 2 w_22), (5, za_I r_40), (6, za_I r_40), (7, za_I 0)]) rfl ?_
        exact J_69 _ r_40 (0 : Int32) σ hz (Nat.lt_succ_self _)
      · refine zv_bipush (v := (-2)) G dX9_spans_52 (by decide) ?_
        exact zv_iret G hr dX9_spans_54 hz
    · refine zv_iconst (v := (-1)) G dX9_spans_15 (by decide) ?_
      exact zv_iret G hr dX9_spans_16 hz
set_option maxHeartbeats 4000000 in
set_option maxRecDepth 100000 in
theorem zc_X1_daysMarked (l : Launch) (E : za_E) (w : Nat) (a1 : Int32) (a2 : Int32) (σ : za_S)  : zMi l E yX1_daysMarked cX1_daysMarked 5 (Option.some Jvm.ClassFile.FieldType.int) 3 62 [za_O 13 w, za_I a1, za_I a2] σ (fun r σ' => σ' = σ) := by
  refine zMi_of [(0, za_O 13 w), (1, za_I a1), (2, za_I a2)] (by decide) rfl rfl (Nat.le_of_ble_eq_true rfl) ?_
  intro ho p e s m args below meth c G hr
  have h_w : za_kd w = 13 := za_okO (by decide) (List.forall_mem_cons.mp ho).1
  refine zv_iconst (v := 0) G dX1_daysMarked_0 (by decide) ?_
  refine zv_istore_n (lv' := [(3, za_I 0), (0, za_O 13 w), (1, za_I a1), (2, za_I a2)]) G dX1_daysMarked_1 rfl (by decide) rfl ?_
  refine zv_iload_n (j := 2) G dX1_daysMarked_2 rfl rfl ?_
  have J_5 : ∀ (n : Nat) (y3_5 : Int32) (y4_5 : Int32) (hn_5 : (2147483648 - y4_5.toInt).toNat < n), zV p l e (zRm 3 62) s m args below meth c E (za_A E) 5 0 0 (MQ below (va_Qi (fun r σ' => σ' = σ) (zB E) (za_A E)) args s 0 0 (za_A E)) 5 [(0, za_O 13 w), (2, za_I a2), (3, za_I y3_5), (4, za_I y4_5)] [] σ := by
    intro n
    induction n with
    | zero => intro y3_5 y4_5 hn; exact absurd hn (Nat.not_lt_zero _)
    | succ n ih_5 =>
      intro y3_5 y4_5 hn_5
      refine zv_iload (j := 3) G dX1_daysMarked_5 rfl ?_
      refine zv_iload_n (j := 1) G dX1_daysMarked_7 rfl rfl ?_
      refine zv_icmp_ge (tgt := 29) G dX1_daysMarked_8 (by decide) (fun c_8 => ?_) (fun c_8 => ?_)
      · refine zv_iload_n (j := 2) G dX1_daysMarked_29 rfl rfl ?_
        exact zv_iret G hr dX1_daysMarked_30 rfl
      · refine zv_aload_n (j := 0) G dX1_daysMarked_11 rfl rfl ?_
        refine zv_iload (j := 3) G dX1_daysMarked_12 rfl ?_
        refine zv_callVi (as := [za_I y4_5]) G (by decide) rfl rfl (zc_X1_amount l E w y4_5 σ ) zk_X1_amount zm_601 rfl ⟨(Nat.le_of_ble_eq_true rfl), (Nat.le_of_ble_eq_true rfl)⟩ ⟨Nat.zero_le _, Nat.zero_le _⟩ (Nat.le_of_ble_eq_true rfl) dX1_daysMarked_14 (fun r_14 σ h_14 => ?_)
        subst h_14
        refine zv_if_eq (tgt := 23) G dX1_daysMarked_17 (by decide) (fun c_17 => ?_) (fun c_17 => ?_)
        · obtain ⟨x_23, e_23⟩ : ∃ y : Int32, y = y4_5 + 1 := ⟨_, rfl⟩
          refine zv_iinc (j := 3) (v := x_23) (lv' := [(4, za_I x_23), (0, za_O 13 w), (2, za_I a2), (3, za_I y3_5)]) G dX1_daysMarked_23 rfl (by rw [e_23]; rfl) (by decide) rfl ?_
          refine zv_goto (tgt := 5) G dX1_daysMarked_26 (by decide) ?_
          refine zv_sub [1, 2, 3, 0] (lv' := [(0, za_O 13 w), (2, za_I a2), (3, za_I y3_5), (4, za_I x_23)]) rfl ?_
          exact ih_5 y3_5 x_23 (z_meas c_8 e_23 hn_5)
        · obtain ⟨x_20, e_20⟩ : ∃ y : Int32, y = y3_5 + 1 := ⟨_, rfl⟩
          refine zv_iinc (j := 2) (v := x_20) (lv' := [(3, za_I x_20), (0, za_O 13 w), (2, za_I a2), (4, za_I y4_5)]) G dX1_daysMarked_20 rfl (by rw [e_20]; rfl) (by decide) rfl ?_
          obtain ⟨x_23, e_23⟩ : ∃ y : Int32, y = y4_5 + 1 := ⟨_, rfl⟩
          refine zv_iinc (j := 3) (v := x_23) (lv' := [(4, za_I x_23), (3, za_I x_20), (0, za_O 13 w), (2, za_I a2)]) G dX1_daysMarked_23 rfl (by rw [e_23]; rfl) (by decide) rfl ?_
          refine zv_goto (tgt := 5) G dX1_daysMarked_26 (by decide) ?_
          refine zv_sub [2, 3, 1, 0] (lv' := [(0, za_O 13 w), (2, za_I a2), (3, za_I x_20), (4, za_I x_23)]) rfl ?_
          exact ih_5 x_20 x_23 (z_meas c_8 e_23 hn_5)
  refine zv_istore (lv' := [(4, za_I a1), (3, za_I 0), (0, za_O 13 w), (1, za_I a1), (2, za_I a2)]) G dX1_daysMarked_3 (by decide) rfl ?_
  refine zv_sub [2, 4, 1, 0] (lv' := [(0, za_O 13 w), (2, za_I a2), (3, za_I 0), (4, za_I a1)]) rfl ?_
  exact J_5 _ (0 : Int32) a1 (Nat.lt_succ_self _)
set_option maxHeartbeats 4000000 in
set_option maxRecDepth 100000 in
theorem zc_X9_users (l : Launch) (E : za_E) (a1 : Int32) (σ0 : za_S)  : zMi l E yX9_users cX9_users 5 (Option.some Jvm.ClassFile.FieldType.int) 4 89 [za_O 0 0, za_I a1] σ0 (fun r σ' => zc σ0 σ') := by
  refine zMi_of [(0, za_O 0 0), (1, za_I a1)] (by decide) rfl rfl (Nat.le_of_ble_eq_true rfl) ?_
  intro ho p e s m args below meth c G hr
  refine zv_gen (R9 := zc σ0) (zc_r σ0) (fun σ hz => ?_)
  refine zv_iload_n (j := 1) G dX9_users_0 rfl rfl ?_
  refine zv_callSi (as := [za_I a1]) G (zc_X9_isKey l E a1 σ ) zk_X9_isKey zm_441 rfl ⟨(Nat.le_of_ble_eq_true rfl), (Nat.le_of_ble_eq_true rfl)⟩ ⟨Nat.zero_le _, Nat.zero_le _⟩ (Nat.le_of_ble_eq_true rfl) dX9_users_1 (fun r_1 σ h_1 => ?_)
  obtain ⟨h_1, rfl⟩ := h_1
  refine zv_if_ne (tgt := 9) G dX9_users_4 (by decide) (fun c_4 => ?_) (fun c_4 => ?_)
  · refine zv_iconst (v := 0) G dX9_users_9 (by decide) ?_
    refine zv_istore_n (lv' := [(2, za_I 0), (0, za_O 0 0), (1, za_I a1)]) G dX9_users_10 rfl (by decide) rfl ?_
    refine zv_aload_n (j := 1) G dX9_users_11 rfl rfl ?_
    refine zg_X9_54 G dX9_users_12 ?_
    refine zv_callVNv (as := []) G (by decide) rfl rfl (zc_X1_clear l E 85 σ ) zk_X1_clear zm_577 rfl ⟨(Nat.le_of_ble_eq_true rfl), (Nat.le_of_ble_eq_true rfl)⟩ ⟨Nat.zero_le _, Nat.zero_le _⟩ (Nat.le_of_ble_eq_true rfl) dX9_users_15 (fun σ h_15 => ?_)
    have hz9 := h_15
    have hz := zc_t hz hz9
    refine zv_iconst (v := 0) G dX9_users_18 (by decide) ?_
    have J_20 : ∀ (n : Nat) (y2_20 : Int32) (y3_20 : Int32) (σ : za_S) (hz : zc σ0 σ) (hn_20 : (2147483648 - y3_20.toInt).toNat < n), zV p l e (zRm 4 89) s m args below meth c E (za_A E) 5 0 0 (MQ below (va_Qi (fun r σ' => zc σ0 σ') (zB E) (za_A E)) args s 0 0 (za_A E)) 20 [(0, za_O 0 0), (1, za_I a1), (2, za_I y2_20), (3, za_I y3_20)] [] σ := by
      intro n
      induction n with
      | zero => intro y2_20 y3_20 σ hz hn; exact absurd hn (Nat.not_lt_zero _)
      | succ n ih_20 =>
        intro y2_20 y3_20 σ hz hn_20
        refine zv_iload_n (j := 3) G dX9_users_20 rfl rfl ?_
        refine zv_aload_n (j := 0) G dX9_users_21 rfl rfl ?_
        refine zg_X9_10 G dX9_users_22 ?_
        refine zg_X9_102 G dX9_users_25 ?_
        refine zg_X9_106 G dX9_users_28 ?_
        refine zv_icmp_ge (tgt := 91) G dX9_users_31 (by decide) (fun c_31 => ?_) (fun c_31 => ?_)
        · refine zv_iconst (v := 0) G dX9_users_91 (by decide) ?_
          refine zv_istore_n (lv' := [(3, za_I 0), (0, za_O 0 0), (1, za_I a1), (2, za_I y2_20)]) G dX9_users_92 rfl (by decide) rfl ?_
          refine zv_iconst (v := 0) G dX9_users_93 (by decide) ?_
          have J_96 : ∀ (n : Nat) (y3_96 : Int32) (y4_96 : Int32) (σ : za_S) (hz : zc σ0 σ) (hn_96 : (2147483648 - y4_96.toInt).toNat < n), zV p l e (zRm 4 89) s m args below meth c E (za_A E) 5 0 0 (MQ below (va_Qi (fun r σ' => zc σ0 σ') (zB E) (za_A E)) args s 0 0 (za_A E)) 96 [(0, za_O 0 0), (1, za_I a1), (2, za_I y2_20), (3, za_I y3_96), (4, za_I y4_96)] [] σ := by
            intro n
            induction n with
            | zero => intro y3_96 y4_96 σ hz hn; exact absurd hn (Nat.not_lt_zero _)
            | succ n ih_96 =>
              intro y3_96 y4_96 σ hz hn_96
              refine zv_iload (j := 4) G dX9_users_96 rfl ?_
              refine zv_aload_n (j := 0) G dX9_users_98 rfl rfl ?_
              refine zg_X9_10 G dX9_users_99 ?_
              refine zg_X9_179 G dX9_users_102 ?_
              refine zg_X9_106 G dX9_users_105 ?_
              refine zv_icmp_ge (tgt := 173) G dX9_users_108 (by decide) (fun c_108 => ?_) (fun c_108 => ?_)
              · refine zv_aload_n (j := 0) G dX9_users_173 rfl rfl ?_
                refine zg_X9_40 G dX9_users_174 ?_
                refine zv_aload_n (j := 0) G dX9_users_177 rfl rfl ?_
                refine zg_X9_54 G dX9_users_178 ?_
                refine zv_iconst (v := 0) G dX9_users_181 (by decide) ?_
                refine zv_bipush (v := 100) G dX9_users_182 (by decide) ?_
                refine zv_callVNi (as := [za_I 0, za_I 100]) G (by decide) rfl rfl (zc_X1_daysMarked l E 85 (0 : Int32) (100 : Int32) σ ) zk_X1_daysMarked zm_886 rfl ⟨(Nat.le_of_ble_eq_true rfl), (Nat.le_of_ble_eq_true rfl)⟩ ⟨Nat.zero_le _, Nat.zero_le _⟩ (Nat.le_of_ble_eq_true rfl) dX9_users_184 (fun r_184 σ h_184 => ?_)
                subst h_184
                refine zv_i2l G dX9_users_187 ?_
                refine zv_iload_n (j := 3) G dX9_users_188 rfl rfl ?_
                refine zv_i2l G dX9_users_189 ?_
                refine zv_callVNv (as := [za_L r_184.toInt64, za_L y3_96.toInt64]) G (by decide) rfl rfl (zc_X8_tell_ l E r_184.toInt64 y3_96.toInt64 σ ) zk_X8_tell_ zm_608 rfl ⟨(Nat.le_of_ble_eq_true rfl), (Nat.le_of_ble_eq_true rfl)⟩ ⟨Nat.zero_le _, Nat.zero_le _⟩ (Nat.le_of_ble_eq_true rfl) dX9_users_190 (fun σ h_190 => ?_)
                have hz9 := h_190
                have hz := zc_t hz hz9
                refine zv_iload_n (j := 2) G dX9_users_193 rfl rfl ?_
                exact zv_iret G hr dX9_users_194 hz
              · refine zv_aload_n (j := 0) G dX9_users_111 rfl rfl ?_
                refine zg_X9_10 G dX9_users_112 ?_
                refine zg_X9_179 G dX9_users_115 ?_
                refine zv_iload (j := 4) G dX9_users_118 rfl ?_
                refine zv_iconst (v := 0) G dX9_users_120 (by decide) ?_
                refine zv_callVNi (as := [za_I y4_96, za_I 0]) G (by decide) rfl rfl (zc_X6_cell l E 4 y4_96 (0 : Int32) σ ) zk_X6_cell zm_592 rfl ⟨(Nat.le_of_ble_eq_true rfl), (Nat.le_of_ble_eq_true rfl)⟩ ⟨Nat.zero_le _, Nat.zero_le _⟩ (Nat.le_of_ble_eq_true rfl) dX9_users_121 (fun r_121 σ h_121 => ?_)
                subst h_121
                refine zv_iload_n (j := 1) G dX9_users_124 rfl rfl ?_
                refine zv_icmp_ne (tgt := 167) G dX9_users_125 (by decide) (fun c_125 => ?_) (fun c_125 => ?_)
                · obtain ⟨x_167, e_167⟩ : ∃ y : Int32, y = y4_96 + 1 := ⟨_, rfl⟩
                  refine zv_iinc (j := 4) (v := x_167) (lv' := [(4, za_I x_167), (0, za_O 0 0), (1, za_I a1), (2, za_I y2_20), (3, za_I y3_96)]) G dX9_users_167 rfl (by rw [e_167]; rfl) (by decide) rfl ?_
                  refine zv_goto (tgt := 96) G dX9_users_170 (by decide) ?_
                  refine zv_sub [1, 2, 3, 4, 0] (lv' := [(0, za_O 0 0), (1, za_I a1), (2, za_I y2_20), (3, za_I y3_96), (4, za_I x_167)]) rfl ?_
                  exact ih_96 y3_96 x_167 σ hz (z_meas c_108 e_167 hn_96)
                · refine zv_aload_n (j := 0) G dX9_users_128 rfl rfl ?_
                  refine zg_X9_54 G dX9_users_129 ?_
                  refine zv_aload_n (j := 0) G dX9_users_132 rfl rfl ?_
                  refine zg_X9_10 G dX9_users_133 ?_
                  refine zg_X9_179 G dX9_users_136 ?_
                  refine zv_iload (j := 4) G dX9_users_139 rfl ?_
                  refine zv_iconst (v := 2) G dX9_users_141 (by decide) ?_
                  refine zv_callVNi (as := [za_I y4_96, za_I 2]) G (by decide) rfl rfl (zc_X6_cell l E 4 y4_96 (2 : Int32) σ ) zk_X6_cell zm_592 rfl ⟨(Nat.le_of_ble_eq_true rfl), (Nat.le_of_ble_eq_true rfl)⟩ ⟨Nat.zero_le _, Nat.zero_le _⟩ (Nat.le_of_ble_eq_true rfl) dX9_users_142 (fun r_142 σ h_142 => ?_)
                  subst h_142
                  refine zv_aload_n (j := 0) G dX9_users_145 rfl rfl ?_
                  refine zg_X9_10 G dX9_users_146 ?_
                  refine zg_X9_179 G dX9_users_149 ?_
                  refine zv_iload (j := 4) G dX9_users_152 rfl ?_
                  refine zv_iconst (v := 3) G dX9_users_154 (by decide) ?_
                  refine zv_callVNi (as := [za_I y4_96, za_I 3]) G (by decide) rfl rfl (zc_X6_cell l E 4 y4_96 (3 : Int32) σ ) zk_X6_cell zm_592 rfl ⟨(Nat.le_of_ble_eq_true rfl), (Nat.le_of_ble_eq_true rfl)⟩ ⟨Nat.zero_le _, Nat.zero_le _⟩ (Nat.le_of_ble_eq_true rfl) dX9_users_155 (fun r_155 σ h_155 => ?_)
                  subst h_155
                  refine zv_callVNi (as := [za_I r_142, za_I r_155]) G (by decide) rfl rfl (zc_X1_daysMarked l E 85 r_142 r_155 σ ) zk_X1_daysMarked zm_886 rfl ⟨(Nat.le_of_ble_eq_true rfl), (Nat.le_of_ble_eq_true rfl)⟩ ⟨Nat.zero_le _, Nat.zero_le _⟩ (Nat.le_of_ble_eq_true rfl) dX9_users_158 (fun r_158 σ h_158 => ?_)
                  subst h_158
                  refine zv_if_ne (tgt := 167) G dX9_users_161 (by decide) (fun c_161 => ?_) (fun c_161 => ?_)
                  · obtain ⟨x_167, e_167⟩ : ∃ y : Int32, y = y4_96 + 1 := ⟨_, rfl⟩
                    refine zv_iinc (j := 4) (v := x_167) (lv' := [(4, za_I x_167), (0, za_O 0 0), (1, za_I a1), (2, za_I y2_20), (3, za_I y3_96)]) G dX9_users_167 rfl (by rw [e_167]; rfl) (by decide) rfl ?_
                    refine zv_goto (tgt := 96) G dX9_users_170 (by decide) ?_
                    refine zv_sub [1, 2, 3, 4, 0] (lv' := [(0, za_O 0 0), (1, za_I a1), (2, za_I y2_20), (3, za_I y3_96), (4, za_I x_167)]) rfl ?_
                    exact ih_96 y3_96 x_167 σ hz (z_meas c_108 e_167 hn_96)
                  · obtain ⟨x_164, e_164⟩ : ∃ y : Int32, y = y3_96 + 1 := ⟨_, rfl⟩
                    refine zv_iinc (j := 3) (v := x_164) (lv' := [(3, za_I x_164), (0, za_O 0 0), (1, za_I a1), (2, za_I y2_20), (4, za_I y4_96)]) G dX9_users_164 rfl (by rw [e_164]; rfl) (by decide) rfl ?_
                    obtain ⟨x_167, e_167⟩ : ∃ y : Int32, y = y4_96 + 1 := ⟨_, rfl⟩
                    refine zv_iinc (j := 4) (v := x_167) (lv' := [(4, za_I x_167), (3, za_I x_164), (0, za_O 0 0), (1, za_I a1), (2, za_I y2_20)]) G dX9_users_167 rfl (by rw [e_167]; rfl) (by decide) rfl ?_
                    refine zv_goto (tgt := 96) G dX9_users_170 (by decide) ?_
                    refine zv_sub [2, 3, 4, 1, 0] (lv' := [(0, za_O 0 0), (1, za_I a1), (2, za_I y2_20), (3, za_I x_164), (4, za_I x_167)]) rfl ?_
                    exact ih_96 x_164 x_167 σ hz (z_meas c_108 e_167 hn_96)
          refine zv_istore (lv' := [(4, za_I 0), (3, za_I 0), (0, za_O 0 0), (1, za_I a1), (2, za_I y2_20)]) G dX9_users_94 (by decide) rfl ?_
          refine zv_sub [2, 3, 4, 1, 0] (lv' := [(0, za_O 0 0), (1, za_I a1), (2, za_I y2_20), (3, za_I 0), (4, za_I 0)]) rfl ?_
          exact J_96 _ (0 : Int32) (0 : Int32) σ hz (Nat.lt_succ_self _)
        · refine zv_aload_n (j := 0) G dX9_users_34 rfl rfl ?_
          refine zg_X9_10 G dX9_users_35 ?_
          refine zg_X9_102 G dX9_users_38 ?_
          refine zv_iload_n (j := 3) G dX9_users_41 rfl rfl ?_
          refine zv_iconst (v := 4) G dX9_users_42 (by decide) ?_
          refine zv_callVNi (as := [za_I y3_20, za_I 4]) G (by decide) rfl rfl (zc_X6_cell l E 2 y3_20 (4 : Int32) σ ) zk_X6_cell zm_592 rfl ⟨(Nat.le_of_ble_eq_true rfl), (Nat.le_of_ble_eq_true rfl)⟩ ⟨Nat.zero_le _, Nat.zero_le _⟩ (Nat.le_of_ble_eq_true rfl) dX9_users_43 (fun r_43 σ h_43 => ?_)
          subst h_43
          refine zv_iload_n (j := 1) G dX9_users_46 rfl rfl ?_
          refine zv_icmp_ne (tgt := 85) G dX9_users_47 (by decide) (fun c_47 => ?_) (fun c_47 => ?_)
          · obtain ⟨x_85, e_85⟩ : ∃ y : Int32, y = y3_20 + 1 := ⟨_, rfl⟩
            refine zv_iinc (j := 3) (v := x_85) (lv' := [(3, za_I x_85), (0, za_O 0 0), (1, za_I a1), (2, za_I y2_20)]) G dX9_users_85 rfl (by rw [e_85]; rfl) (by decide) rfl ?_
            refine zv_goto (tgt := 20) G dX9_users_88 (by decide) ?_
            refine zv_sub [1, 2, 3, 0] (lv' := [(0, za_O 0 0), (1, za_I a1), (2, za_I y2_20), (3, za_I x_85)]) rfl ?_
            exact ih_20 y2_20 x_85 σ hz (z_meas c_31 e_85 hn_20)
          · obtain ⟨x_50, e_50⟩ : ∃ y : Int32, y = y2_20 + 1 := ⟨_, rfl⟩
            refine zv_iinc (j := 2) (v := x_50) (lv' := [(2, za_I x_50), (0, za_O 0 0), (1, za_I a1), (3, za_I y3_20)]) G dX9_users_50 rfl (by rw [e_50]; rfl) (by decide) rfl ?_
            refine zv_aload_n (j := 1) G dX9_users_53 rfl rfl ?_
            refine zg_X9_54 G dX9_users_54 ?_
            refine zv_aload_n (j := 1) G dX9_users_57 rfl rfl ?_
            refine zg_X9_10 G dX9_users_58 ?_
            refine zg_X9_102 G dX9_users_61 ?_
            refine zv_iload_n (j := 3) G dX9_users_64 rfl rfl ?_
            refine zv_iconst (v := 2) G dX9_users_65 (by decide) ?_
            refine zv_callVNi (as := [za_I y3_20, za_I 2]) G (by decide) rfl rfl (zc_X6_cell l E 2 y3_20 (2 : Int32) σ ) zk_X6_cell zm_592 rfl ⟨(Nat.le_of_ble_eq_true rfl), (Nat.le_of_ble_eq_true rfl)⟩ ⟨Nat.zero_le _, Nat.zero_le _⟩ (Nat.le_of_ble_eq_true rfl) dX9_users_66 (fun r_66 σ h_66 => ?_)
            subst h_66
            refine zv_aload_n (j := 1) G dX9_users_69 rfl rfl ?_
            refine zg_X9_10 G dX9_users_70 ?_
            refine zg_X9_102 G dX9_users_73 ?_
            refine zv_iload_n (j := 3) G dX9_users_76 rfl rfl ?_
            refine zv_iconst (v := 3) G dX9_users_77 (by decide) ?_
            refine zv_callVNi (as := [za_I y3_20, za_I 3]) G (by decide) rfl rfl (zc_X6_cell l E 2 y3_20 (3 : Int32) σ ) zk_X6_cell zm_592 rfl ⟨(Nat.le_of_ble_eq_true rfl), (Nat.le_of_ble_eq_true rfl)⟩ ⟨Nat.zero_le _, Nat.zero_le _⟩ (Nat.le_of_ble_eq_true rfl) dX9_users_78 (fun r_78 σ h_78 => ?_)
            subst h_78
            refine zv_iconst (v := 1) G dX9_users_81 (by decide) ?_
            refine zv_callVNv (as := [za_I r_66, za_I r_78, za_I 1]) G (by decide) rfl rfl (zc_X1_add l E 85 r_66 r_78 (1 : Int32) σ ) zk_X1_add zm_862 rfl ⟨(Nat.le_of_ble_eq_true rfl), (Nat.le_of_ble_eq_true rfl)⟩ ⟨Nat.zero_le _, Nat.zero_le _⟩ (Nat.le_of_ble_eq_true rfl) dX9_users_82 (fun σ h_82 => ?_)
            have hz9 := h_82
            have hz := zc_t hz hz9
            obtain ⟨x_85, e_85⟩ : ∃ y : Int32, y = y3_20 + 1 := ⟨_, rfl⟩
            refine zv_iinc (j := 3) (v := x_85) (lv' := [(3, za_I x_85), (2, za_I x_50), (0, za_O 0 0), (1, za_I a1)]) G dX9_users_85 rfl (by rw [e_85]; rfl) (by decide) rfl ?_
            refine zv_goto (tgt := 20) G dX9_users_88 (by decide) ?_
            refine zv_sub [2, 3, 1, 0] (lv' := [(0, za_O 0 0), (1, za_I a1), (2, za_I x_50), (3, za_I x_85)]) rfl ?_
            exact ih_20 x_50 x_85 σ hz (z_meas c_31 e_85 hn_20)
    refine zv_istore_n (lv' := [(3, za_I 0), (2, za_I 0), (0, za_O 0 0), (1, za_I a1)]) G dX9_users_19 rfl (by decide) rfl ?_
    refine zv_sub [2, 3, 1, 0] (lv' := [(0, za_O 0 0), (1, za_I a1), (2, za_I 0), (3, za_I 0)]) rfl ?_
    exact J_20 _ (0 : Int32) (0 : Int32) σ hz (Nat.lt_succ_self _)
  · refine zv_iconst (v := (-1)) G dX9_users_7 (by decide) ?_
    exact zv_iret G hr dX9_users_8 hz
set_option maxHeartbeats 4000000 in
set_option maxRecDepth 100000 in
theorem zc_X9_drags (l : Launch) (E : za_E) (a1 : Int32) (a2 : Int32) (a3 : Int32) (σ0 : za_S)  : zMi l E yX9_drags cX9_drags 8 (Option.some Jvm.ClassFile.FieldType.int) 6 136 [za_O 0 0, za_I a1, za_I a2, za_I a3] σ0 (fun r σ' => zc σ0 σ') := by
  refine zMi_of [(0, za_O 0 0), (1, za_I a1), (2, za_I a2), (3, za_I a3)] (by decide) rfl rfl (Nat.le_of_ble_eq_true rfl) ?_
  intro ho p e s m args below meth c G hr
  refine zv_gen (R9 := zc σ0) (zc_r σ0) (fun σ hz => ?_)
  refine zv_iconst (v := 1) G dX9_drags_0 (by decide) ?_
  refine zv_iload_n (j := 1) G dX9_drags_1 rfl rfl ?_
  refine zv_iload_n (j := 2) G dX9_drags_2 rfl rfl ?_
  refine zv_iload_n (j := 3) G dX9_drags_3 rfl rfl ?_
  refine zv_callSi (as := [za_I 1, za_I a1, za_I a2, za_I a3]) G (zc_X9_isPortion l E (1 : Int32) a1 a2 a3 σ ) zk_X9_isPortion zm_435 rfl ⟨(Nat.le_of_ble_eq_true rfl), (Nat.le_of_ble_eq_true rfl)⟩ ⟨Nat.zero_le _, Nat.zero_le _⟩ (Nat.le_of_ble_eq_true rfl) dX9_drags_4 (fun r_4 σ h_4 => ?_)
  obtain ⟨h_4, rfl⟩ := h_4
  refine zv_if_ne (tgt := 12) G dX9_drags_7 (by decide) (fun c_7 => ?_) (fun c_7 => ?_)
  · refine zv_aload_n (j := 0) G dX9_drags_12 rfl rfl ?_
    refine zg_X9_10 G dX9_drags_13 ?_
    refine zg_X9_179 G dX9_drags_16 ?_
    refine zv_iload_n (j := 1) G dX9_drags_19 rfl rfl ?_
    refine zv_iload_n (j := 2) G dX9_drags_20 rfl rfl ?_
    refine zv_iload_n (j := 3) G dX9_drags_21 rfl rfl ?_
    refine zv_callVNi (as := [za_I a1, za_I a2, za_I a3]) G (by decide) rfl rfl (zc_X6_touching l E 4 a1 a2 a3 σ ) zk_X6_touching zm_457 rfl ⟨(Nat.le_of_ble_eq_true rfl), (Nat.le_of_ble_eq_true rfl)⟩ ⟨Nat.zero_le _, Nat.zero_le _⟩ (Nat.le_of_ble_eq_true rfl) dX9_drags_22 (fun r_22 σ h_22 => ?_)
    subst h_22
    refine zv_if_ne (tgt := 31) G dX9_drags_25 (by decide) (fun c_25 => ?_) (fun c_25 => ?_)
    · refine zv_iconst (v := 0) G dX9_drags_31 (by decide) ?_
      refine zv_istore (lv' := [(4, za_I 0), (0, za_O 0 0), (1, za_I a1), (2, za_I a2), (3, za_I a3)]) G dX9_drags_32 (by decide) rfl ?_
      refine zv_iconst (v := 0) G dX9_drags_34 (by decide) ?_
      refine zv_istore (lv' := [(5, za_I 0), (4, za_I 0), (0, za_O 0 0), (1, za_I a1), (2, za_I a2), (3, za_I a3)]) G dX9_drags_35 (by decide) rfl ?_
      refine zv_iconst (v := 0) G dX9_drags_37 (by decide) ?_
      have J_40 : ∀ (n : Nat) (y4_40 : Int32) (y5_40 : Int32) (y6_40 : Int32) (σ : za_S) (hz : zc σ0 σ) (hn_40 : (2147483648 - y6_40.toInt).toNat < n), zV p l e (zRm 6 136) s m args below meth c E (za_A E) 8 0 0 (MQ below (va_Qi (fun r σ' => zc σ0 σ') (zB E) (za_A E)) args s 0 0 (za_A E)) 40 [(0, za_O 0 0), (1, za_I a1), (2, za_I a2), (3, za_I a3), (4, za_I y4_40), (5, za_I y5_40), (6, za_I y6_40)] [] σ := by
        intro n
        induction n with
        | zero => intro y4_40 y5_40 y6_40 σ hz hn; exact absurd hn (Nat.not_lt_zero _)
        | succ n ih_40 =>
          intro y4_40 y5_40 y6_40 σ hz hn_40
          refine zv_iload (j := 6) G dX9_drags_40 rfl ?_
          refine zv_aload_n (j := 0) G dX9_drags_42 rfl rfl ?_
          refine zg_X9_10 G dX9_drags_43 ?_
          refine zg_X9_102 G dX9_drags_46 ?_
          refine zg_X9_106 G dX9_drags_49 ?_
          refine zv_icmp_ge (tgt := 109) G dX9_drags_52 (by decide) (fun c_52 => ?_) (fun c_52 => ?_)
          · refine zv_aload_n (j := 0) G dX9_drags_109 rfl rfl ?_
            refine zg_X9_40 G dX9_drags_110 ?_
            refine zv_iload (j := 5) G dX9_drags_113 rfl ?_
            refine zv_i2l G dX9_drags_115 ?_
            refine zv_callVNv (as := [za_L y5_40.toInt64]) G (by decide) rfl rfl (zc_X8_tell l E y5_40.toInt64 σ ) zk_X8_tell zm_527 rfl ⟨(Nat.le_of_ble_eq_true rfl), (Nat.le_of_ble_eq_true rfl)⟩ ⟨Nat.zero_le _, Nat.zero_le _⟩ (Nat.le_of_ble_eq_true rfl) dX9_drags_116 (fun σ h_116 => ?_)
            have hz9 := h_116
            have hz := zc_t hz hz9
            refine zv_iload (j := 4) G dX9_drags_119 rfl ?_
            exact zv_iret G hr dX9_drags_121 hz
          · refine zv_aload_n (j := 0) G dX9_drags_55 rfl rfl ?_
            refine zg_X9_10 G dX9_drags_56 ?_
            refine zg_X9_102 G dX9_drags_59 ?_
            refine zv_iload (j := 6) G dX9_drags_62 rfl ?_
            refine zv_iload_n (j := 2) G dX9_drags_64 rfl rfl ?_
            refine zv_iload_n (j := 3) G dX9_drags_65 rfl rfl ?_
            refine zv_callVNi (as := [za_I y6_40, za_I a2, za_I a3]) G (by decide) rfl rfl (zc_X6_daysOfRowWithin l E 2 y6_40 a2 a3 σ ) zk_X6_daysOfRowWithin zm_777 rfl ⟨(Nat.le_of_ble_eq_true rfl), (Nat.le_of_ble_eq_true rfl)⟩ ⟨Nat.zero_le _, Nat.zero_le _⟩ (Nat.le_of_ble_eq_true rfl) dX9_drags_66 (fun r_66 σ h_66 => ?_)
            subst h_66
            refine zv_istore (lv' := [(7, za_I r_66), (0, za_O 0 0), (1, za_I a1), (2, za_I a2), (3, za_I a3), (4, za_I y4_40), (5, za_I y5_40), (6, za_I y6_40)]) G dX9_drags_69 (by decide) rfl ?_
            refine zv_aload_n (j := 1) G dX9_drags_71 rfl rfl ?_
            refine zg_X9_10 G dX9_drags_72 ?_
            refine zg_X9_102 G dX9_drags_75 ?_
            refine zv_iload (j := 7) G dX9_drags_78 rfl ?_
            refine zv_iconst (v := 4) G dX9_drags_80 (by decide) ?_
            refine zv_callVNi (as := [za_I y6_40, za_I 4]) G (by decide) rfl rfl (zc_X6_cell l E 2 y6_40 (4 : Int32) σ ) zk_X6_cell zm_592 rfl ⟨(Nat.le_of_ble_eq_true rfl), (Nat.le_of_ble_eq_true rfl)⟩ ⟨Nat.zero_le _, Nat.zero_le _⟩ (Nat.le_of_ble_eq_true rfl) dX9_drags_81 (fun r_81 σ h_81 => ?_)
            subst h_81
            refine zv_iload_n (j := 2) G dX9_drags_84 rfl rfl ?_
            refine zv_icmp_ne (tgt := 103) G dX9_drags_85 (by decide) (fun c_85 => ?_) (fun c_85 => ?_)
            · obtain ⟨x_103, e_103⟩ : ∃ y : Int32, y = y6_40 + 1 := ⟨_, rfl⟩
              refine zv_iinc (j := 7) (v := x_103) (lv' := [(6, za_I x_103), (7, za_I r_66), (0, za_O 0 0), (1, za_I a1), (2, za_I a2), (3, za_I a3), (4, za_I y4_40), (5, za_I y5_40)]) G dX9_drags_103 rfl (by rw [e_103]; rfl) (by decide) rfl ?_
              refine zv_goto (tgt := 40) G dX9_drags_106 (by decide) ?_
              refine zv_sub [2, 3, 4, 5, 6, 7, 0] (lv' := [(0, za_O 0 0), (1, za_I a1), (2, za_I a2), (3, za_I a3), (4, za_I y4_40), (5, za_I y5_40), (6, za_I x_103)]) rfl ?_
              exact ih_40 y4_40 y5_40 x_103 σ hz (z_meas c_52 e_103 hn_40)
            · refine zv_iload (j := 0) G dX9_drags_88 rfl ?_
              refine zv_if_le (tgt := 103) G dX9_drags_90 (by decide) (fun c_90 => ?_) (fun c_90 => ?_)
              · obtain ⟨x_103, e_103⟩ : ∃ y : Int32, y = y6_40 + 1 := ⟨_, rfl⟩
                refine zv_iinc (j := 7) (v := x_103) (lv' := [(6, za_I x_103), (7, za_I r_66), (0, za_O 0 0), (1, za_I a1), (2, za_I a2), (3, za_I a3), (4, za_I y4_40), (5, za_I y5_40)]) G dX9_drags_103 rfl (by rw [e_103]; rfl) (by decide) rfl ?_
                refine zv_goto (tgt := 40) G dX9_drags_106 (by decide) ?_
                refine zv_sub [2, 3, 4, 5, 6, 7, 0] (lv' := [(0, za_O 0 0), (1, za_I a1), (2, za_I a2), (3, za_I a3), (4, za_I y4_40), (5, za_I y5_40), (6, za_I x_103)]) rfl ?_
                exact ih_40 y4_40 y5_40 x_103 σ hz (z_meas c_52 e_103 hn_40)
              · refine zv_iload (j := 5) G dX9_drags_93 rfl ?_
                refine zv_iload (j := 0) G dX9_drags_95 rfl ?_
                refine zv_iadd G dX9_drags_97 ?_
                refine zv_top (fun x_98 e_98 => ?_)
                refine zv_istore (lv' := [(4, za_I x_98), (7, za_I r_66), (0, za_O 0 0), (1, za_I a1), (2, za_I a2), (3, za_I a3), (5, za_I y5_40), (6, za_I y6_40)]) G dX9_drags_98 (by decide) rfl ?_
                obtain ⟨x_100, e_100⟩ : ∃ y : Int32, y = y5_40 + 1 := ⟨_, rfl⟩
                refine zv_iinc (j := 6) (v := x_100) (lv' := [(5, za_I x_100), (4, za_I x_98), (7, za_I r_66), (0, za_O 0 0), (1, za_I a1), (2, za_I a2), (3, za_I a3), (6, za_I y6_40)]) G dX9_drags_100 rfl (by rw [e_100]; rfl) (by decide) rfl ?_
                obtain ⟨x_103, e_103⟩ : ∃ y : Int32, y = y6_40 + 1 := ⟨_, rfl⟩
                refine zv_iinc (j := 7) (v := x_103) (lv' := [(6, za_I x_103), (5, za_I x_100), (4, za_I x_98), (7, za_I r_66), (0, za_O 0 0), (1, za_I a1), (2, za_I a2), (3, za_I a3)]) G dX9_drags_103 rfl (by rw [e_103]; rfl) (by decide) rfl ?_
                refine zv_goto (tgt := 40) G dX9_drags_106 (by decide) ?_
                refine zv_sub [4, 5, 6, 7, 2, 1, 0] (lv' := [(0, za_O 0 0), (1, za_I a1), (2, za_I a2), (3, za_I a3), (4, za_I x_98), (5, za_I x_100), (6, za_I x_103)]) rfl ?_
                exact ih_40 x_98 x_100 x_103 σ hz (z_meas c_52 e_103 hn_40)
      refine zv_istore (lv' := [(6, za_I 0), (5, za_I 0), (4, za_I 0), (0, za_O 0 0), (1, za_I a1), (2, za_I a2), (3, za_I a3)]) G dX9_drags_38 (by decide) rfl ?_
      refine zv_sub [3, 4, 5, 6, 2, 1, 0] (lv' := [(0, za_O 0 0), (1, za_I a1), (2, za_I a2), (3, za_I a3), (4, za_I 0), (5, za_I 0), (6, za_I 0)]) rfl ?_
      exact J_40 _ (0 : Int32) (0 : Int32) (0 : Int32) σ hz (Nat.lt_succ_self _)
    · refine zv_bipush (v := (-2)) G dX9_drags_28 (by decide) ?_
      exact zv_iret G hr dX9_drags_30 hz
  · refine zv_iconst (v := (-1)) G dX9_drags_10 (by decide) ?_
    exact zv_iret G hr dX9_drags_11 hz
set_option maxHeartbeats 4000000 in
set_option maxRecDepth 100000 in
theorem zc_X9_isKeptNumber (l : Launch) (E : za_E) (a1 : Int32) (σ : za_S)  : zMi l E yX9_isKeptNumber cX9_isKeptNumber 1 (Option.some Jvm.ClassFile.FieldType.boolean) 1 21 [za_I a1] σ (fun r σ' => ((r = 0 ∨ r = 1) ∧ (¬ r = 0 → 0 ≤ a1.toInt ∧ a1.toInt < 2) ∧ (r = 0 → ¬ (0 ≤ a1.toInt ∧ a1.toInt < 2))) ∧ σ' = σ) := by
  refine zMi_of [(0, za_I a1)] (by decide) rfl rfl (Nat.le_of_ble_eq_true rfl) ?_
  intro ho p e s m args below meth c G hr
  refine zv_iload_n (j := 0) G dX9_isKeptNumber_0 rfl rfl ?_
  refine zv_if_lt (tgt := 13) G dX9_isKeptNumber_1 (by decide) (fun c_1 => ?_) (fun c_1 => ?_)
  · refine zv_iconst (v := 0) G dX9_isKeptNumber_13 (by decide) ?_
    exact zv_zret G hr dX9_isKeptNumber_14 (by decide) ⟨⟨Or.inl rfl, fun h => absurd rfl h, fun _ => by first | (have h9 := z_neg c_1; omega) | exact z_no2 c_6⟩, rfl⟩
  · refine zv_iload_n (j := 0) G dX9_isKeptNumber_4 rfl rfl ?_
    refine zv_iconst (v := 2) G dX9_isKeptNumber_5 (by decide) ?_
    refine zv_icmp_ge (tgt := 13) G dX9_isKeptNumber_6 (by decide) (fun c_6 => ?_) (fun c_6 => ?_)
    · refine zv_iconst (v := 0) G dX9_isKeptNumber_13 (by decide) ?_
      exact zv_zret G hr dX9_isKeptNumber_14 (by decide) ⟨⟨Or.inl rfl, fun h => absurd rfl h, fun _ => by first | (have h9 := z_neg c_1; omega) | exact z_no2 c_6⟩, rfl⟩
    · refine zv_iconst (v := 1) G dX9_isKeptNumber_9 (by decide) ?_
      refine zv_goto (tgt := 14) G dX9_isKeptNumber_10 (by decide) ?_
      exact zv_zret G hr dX9_isKeptNumber_14 (by decide) ⟨⟨Or.inr rfl, fun _ => ⟨z_ge0 c_1, z_ltk c_6 (n := 2) rfl⟩, fun h => absurd h (by decide)⟩, rfl⟩
set_option maxHeartbeats 4000000 in
set_option maxRecDepth 100000 in
theorem zc_X1_addValues (l : Launch) (E : za_E) (w : Nat) (a1 : Nat) (a2 : Int32) (a3 : Int32) (σ0 : za_S)  : zMv l E yX1_addValues cX1_addValues 5 (Option.none : Option Jvm.ClassFile.FieldType) 3 64 [za_O 13 w, za_O 2 a1, za_I a2, za_I a3] σ0 (fun σ' => zc σ0 σ') := by
  refine zMv_of [(0, za_O 13 w), (1, za_O 2 a1), (2, za_I a2), (3, za_I a3)] (by decide) rfl rfl (Nat.le_of_ble_eq_true rfl) ?_
  intro ho p e s m args below meth c G hr
  have h_w : za_kd w = 13 := za_okO (by decide) (List.forall_mem_cons.mp ho).1
  have h_a1 : za_kd a1 = 2 := za_okO (by decide) (List.forall_mem_cons.mp (List.forall_mem_cons.mp ho).2).1
  refine zv_gen (R9 := zc σ0) (zc_r σ0) (fun σ hz => ?_)
  refine zv_iconst (v := 0) G dX1_addValues_0 (by decide) ?_
  have J_3 : ∀ (n : Nat) (y4_3 : Int32) (σ : za_S) (hz : zc σ0 σ) (hn_3 : (2147483648 - y4_3.toInt).toNat < n), zV p l e (zRm 3 64) s m args below meth c E (za_A E) 5 0 0 (MQ below (va_Qv (fun σ' => zc σ0 σ') (zB E) (za_A E)) args s 0 0 (za_A E)) 3 [(0, za_O 13 w), (1, za_O 2 a1), (2, za_I a2), (3, za_I a3), (4, za_I y4_3)] [] σ := by
    intro n
    induction n with
    | zero => intro y4_3 σ hz hn; exact absurd hn (Nat.not_lt_zero _)
    | succ n ih_3 =>
      intro y4_3 σ hz hn_3
      refine zv_iload (j := 4) G dX1_addValues_3 rfl ?_
      refine zv_aload_n (j := 1) G dX1_addValues_5 rfl rfl ?_
      refine zg_X1_25 G dX1_addValues_6 ?_
      refine zv_icmp_ge (tgt := 58) G dX1_addValues_9 (by decide) (fun c_9 => ?_) (fun c_9 => ?_)
      · exact zv_vret G hr dX1_addValues_58 hz
      · refine zv_aload_n (j := 1) G dX1_addValues_12 rfl rfl ?_
        refine zv_iload (j := 4) G dX1_addValues_13 rfl ?_
        refine zv_iconst (v := 0) G dX1_addValues_15 (by decide) ?_
        refine zv_callVNi (as := [za_I y4_3, za_I 0]) G (by decide) rfl rfl (zc_X6_cell l E a1 y4_3 (0 : Int32) σ ) zk_X6_cell zm_585 rfl ⟨(Nat.le_of_ble_eq_true rfl), (Nat.le_of_ble_eq_true rfl)⟩ ⟨Nat.zero_le _, Nat.zero_le _⟩ (Nat.le_of_ble_eq_true rfl) dX1_addValues_16 (fun r_16 σ h_16 => ?_)
        subst h_16
        refine zv_iload_n (j := 2) G dX1_addValues_19 rfl rfl ?_
        refine zv_icmp_ne (tgt := 52) G dX1_addValues_20 (by decide) (fun c_20 => ?_) (fun c_20 => ?_)
        · obtain ⟨x_52, e_52⟩ : ∃ y : Int32, y = y4_3 + 1 := ⟨_, rfl⟩
          refine zv_iinc (j := 4) (v := x_52) (lv' := [(4, za_I x_52), (0, za_O 13 w), (1, za_O 2 a1), (2, za_I a2), (3, za_I a3)]) G dX1_addValues_52 rfl (by rw [e_52]; rfl) (by decide) rfl ?_
          refine zv_goto (tgt := 3) G dX1_addValues_55 (by decide) ?_
          refine zv_sub [1, 2, 3, 4, 0] (lv' := [(0, za_O 13 w), (1, za_O 2 a1), (2, za_I a2), (3, za_I a3), (4, za_I x_52)]) rfl ?_
          exact ih_3 x_52 σ hz (z_meas c_9 e_52 hn_3)
        · refine zv_aload_n (j := 0) G dX1_addValues_23 rfl rfl ?_
          refine zv_aload_n (j := 1) G dX1_addValues_24 rfl rfl ?_
          refine zv_iload (j := 4) G dX1_addValues_25 rfl ?_
          refine zv_iconst (v := 2) G dX1_addValues_27 (by decide) ?_
          refine zv_callVNi (as := [za_I y4_3, za_I 2]) G (by decide) rfl rfl (zc_X6_cell l E a1 y4_3 (2 : Int32) σ ) zk_X6_cell zm_585 rfl ⟨(Nat.le_of_ble_eq_true rfl), (Nat.le_of_ble_eq_true rfl)⟩ ⟨Nat.zero_le _, Nat.zero_le _⟩ (Nat.le_of_ble_eq_true rfl) dX1_addValues_28 (fun r_28 σ h_28 => ?_)
          subst h_28
          refine zv_aload_n (j := 1) G dX1_addValues_31 rfl rfl ?_
          refine zv_iload (j := 4) G dX1_addValues_32 rfl ?_
          refine zv_iconst (v := 3) G dX1_addValues_34 (by decide) ?_
          refine zv_callVNi (as := [za_I y4_3, za_I 3]) G (by decide) rfl rfl (zc_X6_cell l E a1 y4_3 (3 : Int32) σ ) zk_X6_cell zm_585 rfl ⟨(Nat.le_of_ble_eq_true rfl), (Nat.le_of_ble_eq_true rfl)⟩ ⟨Nat.zero_le _, Nat.zero_le _⟩ (Nat.le_of_ble_eq_true rfl) dX1_addValues_35 (fun r_35 σ h_35 => ?_)
          subst h_35
          refine zv_iload_n (j := 3) G dX1_addValues_38 rfl rfl ?_
          refine zv_aload_n (j := 1) G dX1_addValues_39 rfl rfl ?_
          refine zv_iload (j := 4) G dX1_addValues_40 rfl ?_
          refine zv_iconst (v := 1) G dX1_addValues_42 (by decide) ?_
          refine zv_callVNi (as := [za_I y4_3, za_I 1]) G (by decide) rfl rfl (zc_X6_cell l E a1 y4_3 (1 : Int32) σ ) zk_X6_cell zm_585 rfl ⟨(Nat.le_of_ble_eq_true rfl), (Nat.le_of_ble_eq_true rfl)⟩ ⟨Nat.zero_le _, Nat.zero_le _⟩ (Nat.le_of_ble_eq_true rfl) dX1_addValues_43 (fun r_43 σ h_43 => ?_)
          subst h_43
          refine zv_iconst (v := 1) G dX1_addValues_46 (by decide) ?_
          refine zv_iadd G dX1_addValues_47 ?_
          refine zv_imul G dX1_addValues_48 ?_
          refine zv_callVv (as := [za_I r_28, za_I r_35, za_I (a3 * (r_43 + 1))]) G (by decide) rfl rfl (zc_X1_add l E w r_28 r_35 (a3 * (r_43 + 1)) σ ) zk_X1_add zm_586 rfl ⟨(Nat.le_of_ble_eq_true rfl), (Nat.le_of_ble_eq_true rfl)⟩ ⟨Nat.zero_le _, Nat.zero_le _⟩ (Nat.le_of_ble_eq_true rfl) dX1_addValues_49 (fun σ h_49 => ?_)
          have hz9 := h_49
          have hz := zc_t hz hz9
          obtain ⟨x_52, e_52⟩ : ∃ y : Int32, y = y4_3 + 1 := ⟨_, rfl⟩
          refine zv_iinc (j := 4) (v := x_52) (lv' := [(4, za_I x_52), (0, za_O 13 w), (1, za_O 2 a1), (2, za_I a2), (3, za_I a3)]) G dX1_addValues_52 rfl (by rw [e_52]; rfl) (by decide) rfl ?_
          refine zv_goto (tgt := 3) G dX1_addValues_55 (by decide) ?_
          refine zv_sub [1, 2, 3, 4, 0] (lv' := [(0, za_O 13 w), (1, za_O 2 a1), (2, za_I a2), (3, za_I a3), (4, za_I x_52)]) rfl ?_
          exact ih_3 x_52 σ hz (z_meas c_9 e_52 hn_3)
  refine zv_istore (lv' := [(4, za_I 0), (0, za_O 13 w), (1, za_O 2 a1), (2, za_I a2), (3, za_I a3)]) G dX1_addValues_1 (by decide) rfl ?_
  refine zv_sub [1, 2, 3, 4, 0] (lv' := [(0, za_O 13 w), (1, za_O 2 a1), (2, za_I a2), (3, za_I a3), (4, za_I 0)]) rfl ?_
  exact J_3 _ (0 : Int32) σ hz (Nat.lt_succ_self _)
set_option maxHeartbeats 4000000 in
set_option maxRecDepth 100000 in
theorem zc_X9_flagDifferences (l : Launch) (E : za_E) (a1 : Nat) (a2 : Nat) (a3 : Int32) (σ0 : za_S)  : zMv l E yX9_flagDifferences cX9_flagDifferences 5 (Option.none : Option Jvm.ClassFile.FieldType) 4 88 [za_O 0 0, za_O 2 a1, za_O 2 a2, za_I a3] σ0 (fun σ' => zc σ0 σ') := by
  refine zMv_of [(0, za_O 0 0), (1, za_O 2 a1), (2, za_O 2 a2), (3, za_I a3)] (by decide) rfl rfl (Nat.le_of_ble_eq_true rfl) ?_
  intro ho p e s m args below meth c G hr
  have h_a1 : za_kd a1 = 2 := za_okO (by decide) (List.forall_mem_cons.mp (List.forall_mem_cons.mp ho).2).1
  have h_a2 : za_kd a2 = 2 := za_okO (by decide) (List.forall_mem_cons.mp (List.forall_mem_cons.mp (List.forall_mem_cons.mp ho).2).2).1
  refine zv_gen (R9 := zc σ0) (zc_r σ0) (fun σ hz => ?_)
  refine zv_aload_n (j := 0) G dX9_flagDifferences_0 rfl rfl ?_
  refine zg_X9_54 G dX9_flagDifferences_1 ?_
  refine zv_callVNv (as := []) G (by decide) rfl rfl (zc_X1_clear l E 85 σ ) zk_X1_clear zm_577 rfl ⟨(Nat.le_of_ble_eq_true rfl), (Nat.le_of_ble_eq_true rfl)⟩ ⟨Nat.zero_le _, Nat.zero_le _⟩ (Nat.le_of_ble_eq_true rfl) dX9_flagDifferences_4 (fun σ h_4 => ?_)
  have hz9 := h_4
  have hz := zc_t hz hz9
  refine zv_aload_n (j := 0) G dX9_flagDifferences_7 rfl rfl ?_
  refine zg_X9_54 G dX9_flagDifferences_8 ?_
  refine zv_aload_n (j := 1) G dX9_flagDifferences_11 rfl rfl ?_
  refine zv_iload_n (j := 3) G dX9_flagDifferences_12 rfl rfl ?_
  refine zv_iconst (v := 1) G dX9_flagDifferences_13 (by decide) ?_
  refine zv_callVNv (as := [za_O 2 a1, za_I a3, za_I 1]) G (by decide) rfl rfl (zc_X1_addValues l E 85 a1 a3 (1 : Int32) σ ) zk_X1_addValues zm_1019 rfl ⟨(Nat.le_of_ble_eq_true rfl), (Nat.le_of_ble_eq_true rfl)⟩ ⟨Nat.zero_le _, Nat.zero_le _⟩ (Nat.le_of_ble_eq_true rfl) dX9_flagDifferences_14 (fun σ h_14 => ?_)
  have hz9 := h_14
  have hz := zc_t hz hz9
  refine zv_aload_n (j := 0) G dX9_flagDifferences_17 rfl rfl ?_
  refine zg_X9_54 G dX9_flagDifferences_18 ?_
  refine zv_aload_n (j := 2) G dX9_flagDifferences_21 rfl rfl ?_
  refine zv_iload_n (j := 3) G dX9_flagDifferences_22 rfl rfl ?_
  refine zv_iconst (v := (-1)) G dX9_flagDifferences_23 (by decide) ?_
  refine zv_callVNv (as := [za_O 2 a2, za_I a3, za_I (-1)]) G (by decide) rfl rfl (zc_X1_addValues l E 85 a2 a3 (-1) σ ) zk_X1_addValues zm_1019 rfl ⟨(Nat.le_of_ble_eq_true rfl), (Nat.le_of_ble_eq_true rfl)⟩ ⟨Nat.zero_le _, Nat.zero_le _⟩ (Nat.le_of_ble_eq_true rfl) dX9_flagDifferences_24 (fun σ h_24 => ?_)
  have hz9 := h_24
  have hz := zc_t hz hz9
  refine zv_iconst (v := 0) G dX9_flagDifferences_27 (by decide) ?_
  have J_30 : ∀ (n : Nat) (y4_30 : Int32) (σ : za_S) (hz : zc σ0 σ) (hn_30 : (2147483648 - y4_30.toInt).toNat < n), zV p l e (zRm 4 88) s m args below meth c E (za_A E) 5 0 0 (MQ below (va_Qv (fun σ' => zc σ0 σ') (zB E) (za_A E)) args s 0 0 (za_A E)) 30 [(0, za_O 0 0), (4, za_I y4_30)] [] σ := by
    intro n
    induction n with
    | zero => intro y4_30 σ hz hn; exact absurd hn (Nat.not_lt_zero _)
    | succ n ih_30 =>
      intro y4_30 σ hz hn_30
      refine zv_iload (j := 1) G dX9_flagDifferences_30 rfl ?_
      refine zv_bipush (v := 100) G dX9_flagDifferences_32 (by decide) ?_
      refine zv_icmp_ge (tgt := 69) G dX9_flagDifferences_34 (by decide) (fun c_34 => ?_) (fun c_34 => ?_)
      · exact zv_vret G hr dX9_flagDifferences_69 hz
      · refine zv_aload_n (j := 0) G dX9_flagDifferences_37 rfl rfl ?_
        refine zg_X9_54 G dX9_flagDifferences_38 ?_
        refine zv_iload (j := 1) G dX9_flagDifferences_41 rfl ?_
        refine zv_callVNi (as := [za_I y4_30]) G (by decide) rfl rfl (zc_X1_amount l E 85 y4_30 σ ) zk_X1_amount zm_606 rfl ⟨(Nat.le_of_ble_eq_true rfl), (Nat.le_of_ble_eq_true rfl)⟩ ⟨Nat.zero_le _, Nat.zero_le _⟩ (Nat.le_of_ble_eq_true rfl) dX9_flagDifferences_43 (fun r_43 σ h_43 => ?_)
        subst h_43
        refine zv_if_eq (tgt := 63) G dX9_flagDifferences_46 (by decide) (fun c_46 => ?_) (fun c_46 => ?_)
        · obtain ⟨x_63, e_63⟩ : ∃ y : Int32, y = y4_30 + 1 := ⟨_, rfl⟩
          refine zv_iinc (j := 1) (v := x_63) (lv' := [(4, za_I x_63), (0, za_O 0 0)]) G dX9_flagDifferences_63 rfl (by rw [e_63]; rfl) (by decide) rfl ?_
          refine zv_goto (tgt := 30) G dX9_flagDifferences_66 (by decide) ?_
          refine zv_sub [1, 0] (lv' := [(0, za_O 0 0), (4, za_I x_63)]) rfl ?_
          exact ih_30 x_63 σ hz (z_meas c_34 e_63 hn_30)
        · refine zv_aload_n (j := 0) G dX9_flagDifferences_49 rfl rfl ?_
          refine zg_X9_58 G dX9_flagDifferences_50 ?_
          refine zv_iload (j := 1) G dX9_flagDifferences_53 rfl ?_
          refine zv_iload (j := 1) G dX9_flagDifferences_55 rfl ?_
          refine zv_iconst (v := 1) G dX9_flagDifferences_57 (by decide) ?_
          refine zv_iadd G dX9_flagDifferences_58 ?_
          refine zv_iconst (v := 1) G dX9_flagDifferences_59 (by decide) ?_
          refine zv_callVNv (as := [za_I y4_30, za_I (y4_30 + 1), za_I 1]) G (by decide) rfl rfl (zc_X1_add l E 87 y4_30 (y4_30 + 1) (1 : Int32) σ ) zk_X1_add zm_862 rfl ⟨(Nat.le_of_ble_eq_true rfl), (Nat.le_of_ble_eq_true rfl)⟩ ⟨Nat.zero_le _, Nat.zero_le _⟩ (Nat.le_of_ble_eq_true rfl) dX9_flagDifferences_60 (fun σ h_60 => ?_)
          have hz9 := h_60
          have hz := zc_t hz hz9
          obtain ⟨x_63, e_63⟩ : ∃ y : Int32, y = y4_30 + 1 := ⟨_, rfl⟩
          refine zv_iinc (j := 1) (v := x_63) (lv' := [(4, za_I x_63), (0, za_O 0 0)]) G dX9_flagDifferences_63 rfl (by rw [e_63]; rfl) (by decide) rfl ?_
          refine zv_goto (tgt := 30) G dX9_flagDifferences_66 (by decide) ?_
          refine zv_sub [1, 0] (lv' := [(0, za_O 0 0), (4, za_I x_63)]) rfl ?_
          exact ih_30 x_63 σ hz (z_meas c_34 e_63 hn_30)
  refine zv_istore (lv' := [(4, za_I 0), (0, za_O 0 0), (1, za_O 2 a1), (2, za_O 2 a2), (3, za_I a3)]) G dX9_flagDifferences_28 (by decide) rfl ?_
  refine zv_sub [1, 0] (lv' := [(0, za_O 0 0), (4, za_I 0)]) rfl ?_
  exact J_30 _ (0 : Int32) σ hz (Nat.lt_succ_self _)
set_option maxHeartbeats 4000000 in
set_option maxRecDepth 100000 in
theorem zc_X9_differs (l : Launch) (E : za_E) (a1 : Int32) (a2 : Int32) (σ0 : za_S)  : zMi l E yX9_differs cX9_differs 5 (Option.some Jvm.ClassFile.FieldType.int) 5 112 [za_O 0 0, za_I a1, za_I a2] σ0 (fun r σ' => zc σ0 σ') := by
  refine zMi_of [(0, za_O 0 0), (1, za_I a1), (2, za_I a2)] (by decide) rfl rfl (Nat.le_of_ble_eq_true rfl) ?_
  intro ho p e s m args below meth c G hr
  refine zv_gen (R9 := zc σ0) (zc_r σ0) (fun σ hz => ?_)
  refine zv_iload_n (j := 1) G dX9_differs_0 rfl rfl ?_
  refine zv_callSi (as := [za_I a1]) G (zc_X9_isTable l E a1 σ ) zk_X9_isTable zm_438 rfl ⟨(Nat.le_of_ble_eq_true rfl), (Nat.le_of_ble_eq_true rfl)⟩ ⟨Nat.zero_le _, Nat.zero_le _⟩ (Nat.le_of_ble_eq_true rfl) dX9_differs_1 (fun r_1 σ h_1 => ?_)
  obtain ⟨h_1, rfl⟩ := h_1
  refine zv_if_eq (tgt := 14) G dX9_differs_4 (by decide) (fun c_4 => ?_) (fun c_4 => ?_)
  · refine zv_iconst (v := (-1)) G dX9_differs_14 (by decide) ?_
    exact zv_iret G hr dX9_differs_15 hz
  · refine zv_iload_n (j := 2) G dX9_differs_7 rfl rfl ?_
    refine zv_callSi (as := [za_I a2]) G (zc_X9_isKeptNumber l E a2 σ ) zk_X9_isKeptNumber zm_1012 rfl ⟨(Nat.le_of_ble_eq_true rfl), (Nat.le_of_ble_eq_true rfl)⟩ ⟨Nat.zero_le _, Nat.zero_le _⟩ (Nat.le_of_ble_eq_true rfl) dX9_differs_8 (fun r_8 σ h_8 => ?_)
    obtain ⟨h_8, rfl⟩ := h_8
    refine zv_if_ne (tgt := 16) G dX9_differs_11 (by decide) (fun c_11 => ?_) (fun c_11 => ?_)
    · refine zv_aload_n (j := 0) G dX9_differs_16 rfl rfl ?_
      refine zg_X9_26 G dX9_differs_17 ?_
      refine zv_iload_n (j := 2) G dX9_differs_20 rfl rfl ?_
      refine zv_aald (kd2 := 1) (b := 69) (r := 5) G (by decide) (by decide) rfl (z_in (h_8.2.1 c_11).1 (h_8.2.1 c_11).2) (by decide +kernel) dX9_differs_21 ?_
      refine zg_X9_378 G dX9_differs_22 ?_
      refine zv_if_ne (tgt := 31) G dX9_differs_25 (by decide) (fun c_25 => ?_) (fun c_25 => ?_)
      · refine zv_aload_n (j := 0) G dX9_differs_31 rfl rfl ?_
        refine zg_X9_58 G dX9_differs_32 ?_
        refine zv_callVNv (as := []) G (by decide) rfl rfl (zc_X1_clear l E 87 σ ) zk_X1_clear zm_577 rfl ⟨(Nat.le_of_ble_eq_true rfl), (Nat.le_of_ble_eq_true rfl)⟩ ⟨Nat.zero_le _, Nat.zero_le _⟩ (Nat.le_of_ble_eq_true rfl) dX9_differs_35 (fun σ h_35 => ?_)
        have hz9 := h_35
        have hz := zc_t hz hz9
        refine zv_iconst (v := 0) G dX9_differs_38 (by decide) ?_
        have J_40 : ∀ (n : Nat) (y3_40 : Int32) (σ : za_S) (hz : zc σ0 σ) (hn_40 : (2147483648 - y3_40.toInt).toNat < n), zV p l e (zRm 5 112) s m args below meth c E (za_A E) 5 0 0 (MQ below (va_Qi (fun r σ' => zc σ0 σ') (zB E) (za_A E)) args s 0 0 (za_A E)) 40 [(0, za_O 0 0), (1, za_I a1), (2, za_I a2), (3, za_I y3_40)] [] σ := by
          intro n
          induction n with
          | zero => intro y3_40 σ hz hn; exact absurd hn (Nat.not_lt_zero _)
          | succ n ih_40 =>
            intro y3_40 σ hz hn_40
            refine zv_iload_n (j := 3) G dX9_differs_40 rfl rfl ?_
            refine zv_bipush (v := 10) G dX9_differs_41 (by decide) ?_
            refine zv_icmp_ge (tgt := 75) G dX9_differs_43 (by decide) (fun c_43 => ?_) (fun c_43 => ?_)
            · refine zv_aload_n (j := 0) G dX9_differs_75 rfl rfl ?_
              refine zg_X9_58 G dX9_differs_76 ?_
              refine zv_iconst (v := 0) G dX9_differs_79 (by decide) ?_
              refine zv_bipush (v := 100) G dX9_differs_80 (by decide) ?_
              refine zv_callVNi (as := [za_I 0, za_I 100]) G (by decide) rfl rfl (zc_X1_daysMarked l E 87 (0 : Int32) (100 : Int32) σ ) zk_X1_daysMarked zm_886 rfl ⟨(Nat.le_of_ble_eq_true rfl), (Nat.le_of_ble_eq_true rfl)⟩ ⟨Nat.zero_le _, Nat.zero_le _⟩ (Nat.le_of_ble_eq_true rfl) dX9_differs_82 (fun r_82 σ h_82 => ?_)
              subst h_82
              refine zv_istore_n (lv' := [(3, za_I r_82), (0, za_O 0 0), (1, za_I a1), (2, za_I a2)]) G dX9_differs_85 rfl (by decide) rfl ?_
              refine zv_aload_n (j := 1) G dX9_differs_86 rfl rfl ?_
              refine zg_X9_40 G dX9_differs_87 ?_
              refine zv_callVNv (as := []) G (by decide) rfl rfl (zc_X8_clear l E  σ ) zk_X8_clear zm_776 rfl ⟨(Nat.le_of_ble_eq_true rfl), (Nat.le_of_ble_eq_true rfl)⟩ ⟨Nat.zero_le _, Nat.zero_le _⟩ (Nat.le_of_ble_eq_true rfl) dX9_differs_90 (fun σ h_90 => ?_)
              have hz9 := h_90
              have hz := zc_t hz hz9
              refine zv_iconst (v := 0) G dX9_differs_93 (by decide) ?_
              have J_96 : ∀ (n : Nat) (y4_96 : Int32) (σ : za_S) (hz : zc σ0 σ) (hn_96 : (2147483648 - y4_96.toInt).toNat < n), zV p l e (zRm 5 112) s m args below meth c E (za_A E) 5 0 0 (MQ below (va_Qi (fun r σ' => zc σ0 σ') (zB E) (za_A E)) args s 0 0 (za_A E)) 96 [(0, za_O 0 0), (3, za_I r_82), (4, za_I y4_96)] [] σ := by
                intro n
                induction n with
                | zero => intro y4_96 σ hz hn; exact absurd hn (Nat.not_lt_zero _)
                | succ n ih_96 =>
                  intro y4_96 σ hz hn_96
                  refine zv_iload (j := 2) G dX9_differs_96 rfl ?_
                  refine zv_bipush (v := 100) G dX9_differs_98 (by decide) ?_
                  refine zv_icmp_ge (tgt := 145) G dX9_differs_100 (by decide) (fun c_100 => ?_) (fun c_100 => ?_)
                  · refine zv_iload_n (j := 1) G dX9_differs_145 rfl rfl ?_
                    exact zv_iret G hr dX9_differs_146 hz
                  · refine zv_iload_n (j := 1) G dX9_differs_103 rfl rfl ?_
                    refine zv_if_le (tgt := 145) G dX9_differs_104 (by decide) (fun c_104 => ?_) (fun c_104 => ?_)
                    · refine zv_iload_n (j := 1) G dX9_differs_145 rfl rfl ?_
                      exact zv_iret G hr dX9_differs_146 hz
                    · refine zv_aload_n (j := 0) G dX9_differs_107 rfl rfl ?_
                      refine zg_X9_40 G dX9_differs_108 ?_
                      refine zg_X9_386 G dX9_differs_111 ?_
                      refine zv_if_ne (tgt := 145) G dX9_differs_114 (by decide) (fun c_114 => ?_) (fun c_114 => ?_)
                      · refine zv_iload_n (j := 1) G dX9_differs_145 rfl rfl ?_
                        exact zv_iret G hr dX9_differs_146 hz
                      · refine zv_aload_n (j := 0) G dX9_differs_117 rfl rfl ?_
                        refine zg_X9_58 G dX9_differs_118 ?_
                        refine zv_iload (j := 2) G dX9_differs_121 rfl ?_
                        refine zv_callVNi (as := [za_I y4_96]) G (by decide) rfl rfl (zc_X1_amount l E 87 y4_96 σ ) zk_X1_amount zm_606 rfl ⟨(Nat.le_of_ble_eq_true rfl), (Nat.le_of_ble_eq_true rfl)⟩ ⟨Nat.zero_le _, Nat.zero_le _⟩ (Nat.le_of_ble_eq_true rfl) dX9_differs_123 (fun r_123 σ h_123 => ?_)
                        subst h_123
                        refine zv_if_le (tgt := 139) G dX9_differs_126 (by decide) (fun c_126 => ?_) (fun c_126 => ?_)
                        · obtain ⟨x_139, e_139⟩ : ∃ y : Int32, y = y4_96 + 1 := ⟨_, rfl⟩
                          refine zv_iinc (j := 2) (v := x_139) (lv' := [(4, za_I x_139), (0, za_O 0 0), (3, za_I r_82)]) G dX9_differs_139 rfl (by rw [e_139]; rfl) (by decide) rfl ?_
                          refine zv_goto (tgt := 96) G dX9_differs_142 (by decide) ?_
                          refine zv_sub [1, 2, 0] (lv' := [(0, za_O 0 0), (3, za_I r_82), (4, za_I x_139)]) rfl ?_
                          exact ih_96 x_139 σ hz (z_meas c_100 e_139 hn_96)
                        · refine zv_aload_n (j := 0) G dX9_differs_129 rfl rfl ?_
                          refine zg_X9_40 G dX9_differs_130 ?_
                          refine zv_iload (j := 2) G dX9_differs_133 rfl ?_
                          refine zv_i2l G dX9_differs_135 ?_
                          refine zv_callVNv (as := [za_L y4_96.toInt64]) G (by decide) rfl rfl (zc_X8_add l E y4_96.toInt64 σ ) zk_X8_add zm_778 rfl ⟨(Nat.le_of_ble_eq_true rfl), (Nat.le_of_ble_eq_true rfl)⟩ ⟨Nat.zero_le _, Nat.zero_le _⟩ (Nat.le_of_ble_eq_true rfl) dX9_differs_136 (fun σ h_136 => ?_)
                          have hz9 := h_136
                          have hz := zc_t hz hz9
                          obtain ⟨x_139, e_139⟩ : ∃ y : Int32, y = y4_96 + 1 := ⟨_, rfl⟩
                          refine zv_iinc (j := 2) (v := x_139) (lv' := [(4, za_I x_139), (0, za_O 0 0), (3, za_I r_82)]) G dX9_differs_139 rfl (by rw [e_139]; rfl) (by decide) rfl ?_
                          refine zv_goto (tgt := 96) G dX9_differs_142 (by decide) ?_
                          refine zv_sub [1, 2, 0] (lv' := [(0, za_O 0 0), (3, za_I r_82), (4, za_I x_139)]) rfl ?_
                          exact ih_96 x_139 σ hz (z_meas c_100 e_139 hn_96)
              refine zv_istore (lv' := [(4, za_I 0), (3, za_I r_82), (0, za_O 0 0), (1, za_I a1), (2, za_I a2)]) G dX9_differs_94 (by decide) rfl ?_
              refine zv_sub [2, 1, 0] (lv' := [(0, za_O 0 0), (3, za_I r_82), (4, za_I 0)]) rfl ?_
              exact J_96 _ (0 : Int32) σ hz (Nat.lt_succ_self _)
            · refine zv_aload_n (j := 0) G dX9_differs_46 rfl rfl ?_
              refine zv_aload_n (j := 0) G dX9_differs_47 rfl rfl ?_
              refine zg_X9_10 G dX9_differs_48 ?_
              refine zv_iload_n (j := 1) G dX9_differs_51 rfl rfl ?_
              refine zv_callVNr (as := [za_I a1]) G (by decide) rfl rfl (zc_X4_table l E 1 a1 σ ) zk_X4_table zm_453 rfl ⟨(Nat.le_of_ble_eq_true rfl), (Nat.le_of_ble_eq_true rfl)⟩ ⟨Nat.zero_le _, Nat.zero_le _⟩ (Nat.le_of_ble_eq_true rfl) dX9_differs_52 (fun r_52 σ h_52 => ?_)
              obtain ⟨w_52, rfl, h_w_52, t_52, rfl⟩ := h_52
              refine zv_aload_n (j := 0) G dX9_differs_55 rfl rfl ?_
              refine zg_X9_26 G dX9_differs_56 ?_
              refine zv_iload_n (j := 2) G dX9_differs_59 rfl rfl ?_
              refine zv_aald (kd2 := 1) (b := 69) (r := 5) G (by decide) (by decide) rfl (z_in (h_8.2.1 c_11).1 (h_8.2.1 c_11).2) (by decide +kernel) dX9_differs_60 ?_
              refine zv_iload_n (j := 1) G dX9_differs_61 rfl rfl ?_
              refine zv_callVNr (as := [za_I a1]) G (by decide) rfl rfl (zc_X4_table l E (69 + 5 * a2.toNatClampNeg) a1 σ ) zk_X4_table zm_453 rfl ⟨(Nat.le_of_ble_eq_true rfl), (Nat.le_of_ble_eq_true rfl)⟩ ⟨Nat.zero_le _, Nat.zero_le _⟩ (Nat.le_of_ble_eq_true rfl) dX9_differs_62 (fun r_62 σ h_62 => ?_)
              obtain ⟨w_62, rfl, h_w_62, t_62, rfl⟩ := h_62
              refine zv_iload_n (j := 3) G dX9_differs_65 rfl rfl ?_
              refine zv_callVv (as := [za_O 2 w_52, za_O 2 w_62, za_I y3_40]) G (by decide) rfl rfl (zc_X9_flagDifferences l E w_52 w_62 y3_40 σ ) zk_X9_flagDifferences zm_1015 rfl ⟨(Nat.le_of_ble_eq_true rfl), (Nat.le_of_ble_eq_true rfl)⟩ ⟨Nat.zero_le _, Nat.zero_le _⟩ (Nat.le_of_ble_eq_true rfl) dX9_differs_66 (fun σ h_66 => ?_)
              have hz9 := h_66
              have hz := zc_t hz hz9
              obtain ⟨x_69, e_69⟩ : ∃ y : Int32, y = y3_40 + 1 := ⟨_, rfl⟩
              refine zv_iinc (j := 3) (v := x_69) (lv' := [(3, za_I x_69), (0, za_O 0 0), (1, za_I a1), (2, za_I a2)]) G dX9_differs_69 rfl (by rw [e_69]; rfl) (by decide) rfl ?_
              refine zv_goto (tgt := 40) G dX9_differs_72 (by decide) ?_
              refine zv_sub [1, 2, 3, 0] (lv' := [(0, za_O 0 0), (1, za_I a1), (2, za_I a2), (3, za_I x_69)]) rfl ?_
              exact ih_40 x_69 σ hz (z_meas c_43 e_69 hn_40)
        refine zv_istore_n (lv' := [(3, za_I 0), (0, za_O 0 0), (1, za_I a1), (2, za_I a2)]) G dX9_differs_39 rfl (by decide) rfl ?_
        refine zv_sub [1, 2, 3, 0] (lv' := [(0, za_O 0 0), (1, za_I a1), (2, za_I a2), (3, za_I 0)]) rfl ?_
        exact J_40 _ (0 : Int32) σ hz (Nat.lt_succ_self _)
      · refine zv_bipush (v := (-2)) G dX9_differs_28 (by decide) ?_
        exact zv_iret G hr dX9_differs_30 hz
    · refine zv_iconst (v := (-1)) G dX9_differs_14 (by decide) ?_
      exact zv_iret G hr dX9_differs_15 hz
set_option maxHeartbeats 4000000 in
set_option maxRecDepth 100000 in
theorem zc_X3_questionAt (l : Launch) (E : za_E) (a1 : Int32) (σ : za_S)  : zMi l E yX3_questionAt cX3_questionAt 2 (Option.some Jvm.ClassFile.FieldType.int) 1 21 [za_O 11 83, za_I a1] σ (fun r σ' => σ' = σ) := by
  refine zMi_of [(0, za_O 11 83), (1, za_I a1)] (by decide) rfl rfl (Nat.le_of_ble_eq_true rfl) ?_
  intro ho p e s m args below meth c G hr
  refine zv_iload_n (j := 1) G dX3_questionAt_0 rfl rfl ?_
  refine zv_if_lt (tgt := 27) G dX3_questionAt_1 (by decide) (fun c_1 => ?_) (fun c_1 => ?_)
  · refine zv_iconst (v := 0) G dX3_questionAt_27 (by decide) ?_
    exact zv_iret G hr dX3_questionAt_28 rfl
  · refine zv_iload_n (j := 1) G dX3_questionAt_4 rfl rfl ?_
    refine zv_aload_n (j := 0) G dX3_questionAt_5 rfl rfl ?_
    refine zg_X3_13 G dX3_questionAt_6 ?_
    refine zv_icmp_ge (tgt := 27) G dX3_questionAt_9 (by decide) (fun c_9 => ?_) (fun c_9 => ?_)
    · refine zv_iconst (v := 0) G dX3_questionAt_27 (by decide) ?_
      exact zv_iret G hr dX3_questionAt_28 rfl
    · refine zv_iload_n (j := 1) G dX3_questionAt_12 rfl rfl ?_
      refine zv_bipush (v := 12) G dX3_questionAt_13 (by decide) ?_
      refine zv_icmp_ge (tgt := 27) G dX3_questionAt_15 (by decide) (fun c_15 => ?_) (fun c_15 => ?_)
      · refine zv_iconst (v := 0) G dX3_questionAt_27 (by decide) ?_
        exact zv_iret G hr dX3_questionAt_28 rfl
      · refine zv_aload_n (j := 0) G dX3_questionAt_18 rfl rfl ?_
        refine zg_X3_9 G dX3_questionAt_19 ?_
        refine zv_iload_n (j := 1) G dX3_questionAt_22 rfl rfl ?_
        refine zv_iald G (by decide) rfl (z_in (z_ge0 c_1) (z_ltk c_15 (n := 12) rfl)) dX3_questionAt_23 ?_
        refine zv_goto (tgt := 28) G dX3_questionAt_24 (by decide) ?_
        exact zv_iret G hr dX3_questionAt_28 rfl
set_option maxHeartbeats 4000000 in
set_option maxRecDepth 100000 in
theorem zc_X9_isSo (l : Launch) (E : za_E) (a1 : Int32) (a2 : Int32) (σ : za_S)  : zMi l E yX9_isSo cX9_isSo 4 (Option.some Jvm.ClassFile.FieldType.boolean) 4 87 [za_O 0 0, za_I a1, za_I a2] σ (fun r σ' => (r = 0 ∨ r = 1) ∧ σ' = σ) := by
  refine zMi_of [(0, za_O 0 0), (1, za_I a1), (2, za_I a2)] (by decide) rfl rfl (Nat.le_of_ble_eq_true rfl) ?_
  intro ho p e s m args below meth c G hr
  refine zv_iload_n (j := 2) G dX9_isSo_0 rfl rfl ?_
  refine zv_bipush (v := 10) G dX9_isSo_1 (by decide) ?_
  refine zv_irem G dX9_isSo_3 (by decide) ?_
  refine zv_top (fun x_4 e_4 => ?_)
  refine zv_istore_n (lv' := [(3, za_I x_4), (0, za_O 0 0), (1, za_I a1), (2, za_I a2)]) G dX9_isSo_4 rfl (by decide) rfl ?_
  refine zv_iload_n (j := 3) G dX9_isSo_5 rfl rfl ?_
  refine zv_bipush (v := 10) G dX9_isSo_6 (by decide) ?_
  refine zv_idiv G dX9_isSo_8 (by decide) ?_
  refine zv_top (fun x_9 e_9 => ?_)
  rcases Decidable.em (x_9 = 0) with q_9_0 | q_9_0
  · refine zv_tabIn (off := 27) (tgt := 36) G dX9_isSo_9 (by rw [q_9_0]; decide) (by rw [q_9_0]; decide) (by rw [q_9_0]; rfl) (by decide) ?_
    refine zv_aload_n (j := 1) G dX9_isSo_36 rfl rfl ?_
    refine zg_X9_10 G dX9_isSo_37 ?_
    refine zg_X9_102 G dX9_isSo_40 ?_
    refine zv_iload_n (j := 2) G dX9_isSo_43 rfl rfl ?_
    refine zv_iconst (v := 0) G dX9_isSo_44 (by decide) ?_
    refine zv_callVNi (as := [za_I a1, za_I 0]) G (by decide) rfl rfl (zc_X6_cell l E 2 a1 (0 : Int32) σ ) zk_X6_cell zm_592 rfl ⟨(Nat.le_of_ble_eq_true rfl), (Nat.le_of_ble_eq_true rfl)⟩ ⟨Nat.zero_le _, Nat.zero_le _⟩ (Nat.le_of_ble_eq_true rfl) dX9_isSo_45 (fun r_45 σ h_45 => ?_)
    subst h_45
    refine zv_iload_n (j := 0) G dX9_isSo_48 rfl rfl ?_
    refine zv_icmp_ne (tgt := 56) G dX9_isSo_49 (by decide) (fun c_49 => ?_) (fun c_49 => ?_)
    · refine zv_iconst (v := 0) G dX9_isSo_56 (by decide) ?_
      exact zv_zret G hr dX9_isSo_57 (by decide) ⟨(Or.inl rfl), rfl⟩
    · refine zv_iconst (v := 1) G dX9_isSo_52 (by decide) ?_
      refine zv_goto (tgt := 57) G dX9_isSo_53 (by decide) ?_
      exact zv_zret G hr dX9_isSo_57 (by decide) ⟨(Or.inr rfl), rfl⟩
  rcases Decidable.em (x_9 = 1) with q_9_1 | q_9_1
  · refine zv_tabIn (off := 49) (tgt := 58) G dX9_isSo_9 (by rw [q_9_1]; decide) (by rw [q_9_1]; decide) (by rw [q_9_1]; rfl) (by decide) ?_
    refine zv_aload_n (j := 1) G dX9_isSo_58 rfl rfl ?_
    refine zg_X9_10 G dX9_isSo_59 ?_
    refine zg_X9_102 G dX9_isSo_62 ?_
    refine zv_iload_n (j := 2) G dX9_isSo_65 rfl rfl ?_
    refine zv_iconst (v := 1) G dX9_isSo_66 (by decide) ?_
    refine zv_callVNi (as := [za_I a1, za_I 1]) G (by decide) rfl rfl (zc_X6_cell l E 2 a1 (1 : Int32) σ ) zk_X6_cell zm_592 rfl ⟨(Nat.le_of_ble_eq_true rfl), (Nat.le_of_ble_eq_true rfl)⟩ ⟨Nat.zero_le _, Nat.zero_le _⟩ (Nat.le_of_ble_eq_true rfl) dX9_isSo_67 (fun r_67 σ h_67 => ?_)
    subst h_67
    refine zv_bipush (v := 10) G dX9_isSo_70 (by decide) ?_
    refine zv_iload_n (j := 0) G dX9_isSo_72 rfl rfl ?_
    refine zv_imul G dX9_isSo_73 ?_
    refine zv_icmp_lt (tgt := 81) G dX9_isSo_74 (by decide) (fun c_74 => ?_) (fun c_74 => ?_)
    · refine zv_iconst (v := 0) G dX9_isSo_81 (by decide) ?_
      exact zv_zret G hr dX9_isSo_82 (by decide) ⟨(Or.inl rfl), rfl⟩
    · refine zv_iconst (v := 1) G dX9_isSo_77 (by decide) ?_
      refine zv_goto (tgt := 82) G dX9_isSo_78 (by decide) ?_
      exact zv_zret G hr dX9_isSo_82 (by decide) ⟨(Or.inr rfl), rfl⟩
  rcases Decidable.em (x_9 = 2) with q_9_2 | q_9_2
  · refine zv_tabIn (off := 74) (tgt := 83) G dX9_isSo_9 (by rw [q_9_2]; decide) (by rw [q_9_2]; decide) (by rw [q_9_2]; rfl) (by decide) ?_
    refine zv_aload_n (j := 1) G dX9_isSo_83 rfl rfl ?_
    refine zg_X9_10 G dX9_isSo_84 ?_
    refine zg_X9_102 G dX9_isSo_87 ?_
    refine zv_iload_n (j := 2) G dX9_isSo_90 rfl rfl ?_
    refine zv_bipush (v := 10) G dX9_isSo_91 (by decide) ?_
    refine zv_iload_n (j := 0) G dX9_isSo_93 rfl rfl ?_
    refine zv_imul G dX9_isSo_94 ?_
    refine zv_bipush (v := 10) G dX9_isSo_95 (by decide) ?_
    refine zv_iload_n (j := 0) G dX9_isSo_97 rfl rfl ?_
    refine zv_imul G dX9_isSo_98 ?_
    refine zv_iconst (v := 1) G dX9_isSo_99 (by decide) ?_
    refine zv_iadd G dX9_isSo_100 ?_
    refine zv_callVNi (as := [za_I a1, za_I (10 * x_4), za_I ((10 * x_4) + 1)]) G (by decide) rfl rfl (zc_X6_daysOfRowWithin l E 2 a1 (10 * x_4) ((10 * x_4) + 1) σ ) zk_X6_daysOfRowWithin zm_777 rfl ⟨(Nat.le_of_ble_eq_true rfl), (Nat.le_of_ble_eq_true rfl)⟩ ⟨Nat.zero_le _, Nat.zero_le _⟩ (Nat.le_of_ble_eq_true rfl) dX9_isSo_101 (fun r_101 σ h_101 => ?_)
    subst h_101
    refine zv_if_le (tgt := 111) G dX9_isSo_104 (by decide) (fun c_104 => ?_) (fun c_104 => ?_)
    · refine zv_iconst (v := 0) G dX9_isSo_111 (by decide) ?_
      exact zv_zret G hr dX9_isSo_112 (by decide) ⟨(Or.inl rfl), rfl⟩
    · refine zv_iconst (v := 1) G dX9_isSo_107 (by decide) ?_
      refine zv_goto (tgt := 112) G dX9_isSo_108 (by decide) ?_
      exact zv_zret G hr dX9_isSo_112 (by decide) ⟨(Or.inr rfl), rfl⟩
  have n_9_0 := lv_neT q_9_0 (a := 0) rfl
  have n_9_1 := lv_neT q_9_1 (a := 1) rfl
  have n_9_2 := lv_neT q_9_2 (a := 2) rfl
  refine zv_tabOut (tgt := 113) G dX9_isSo_9 (by omega) (by decide) ?_
  refine zv_aload_n (j := 1) G dX9_isSo_113 rfl rfl ?_
  refine zg_X9_10 G dX9_isSo_114 ?_
  refine zg_X9_102 G dX9_isSo_117 ?_
  refine zv_iload_n (j := 2) G dX9_isSo_120 rfl rfl ?_
  refine zv_iconst (v := 4) G dX9_isSo_121 (by decide) ?_
  refine zv_callVNi (as := [za_I a1, za_I 4]) G (by decide) rfl rfl (zc_X6_cell l E 2 a1 (4 : Int32) σ ) zk_X6_cell zm_592 rfl ⟨(Nat.le_of_ble_eq_true rfl), (Nat.le_of_ble_eq_true rfl)⟩ ⟨Nat.zero_le _, Nat.zero_le _⟩ (Nat.le_of_ble_eq_true rfl) dX9_isSo_122 (fun r_122 σ h_122 => ?_)
  subst h_122
  refine zv_bipush (v := 10) G dX9_isSo_125 (by decide) ?_
  have J_135 : ∀ (s0_135 : Int32), zV p l e (zRm 4 87) s m args below meth c E (za_A E) 4 0 0 (MQ below (va_Qi (fun r σ' => (r = 0 ∨ r = 1) ∧ σ' = σ) (zB E) (za_A E)) args s 0 0 (za_A E)) 135 [(3, za_I x_4)] [za_I s0_135] σ := by
    intro s0_135
    refine zv_iload_n (j := 0) G dX9_isSo_135 rfl rfl ?_
    refine zv_iconst (v := 1) G dX9_isSo_136 (by decide) ?_
    refine zv_icmp_ne (tgt := 144) G dX9_isSo_137 (by decide) (fun c_137 => ?_) (fun c_137 => ?_)
    · refine zv_iconst (v := 0) G dX9_isSo_144 (by decide) ?_
      refine zv_icmp_ne (tgt := 152) G dX9_isSo_145 (by decide) (fun c_145 => ?_) (fun c_145 => ?_)
      · refine zv_iconst (v := 0) G dX9_isSo_152 (by decide) ?_
        exact zv_zret G hr dX9_isSo_153 (by decide) ⟨(Or.inl rfl), rfl⟩
      · refine zv_iconst (v := 1) G dX9_isSo_148 (by decide) ?_
        refine zv_goto (tgt := 153) G dX9_isSo_149 (by decide) ?_
        exact zv_zret G hr dX9_isSo_153 (by decide) ⟨(Or.inr rfl), rfl⟩
    · refine zv_iconst (v := 1) G dX9_isSo_140 (by decide) ?_
      refine zv_goto (tgt := 145) G dX9_isSo_141 (by decide) ?_
      refine zv_icmp_ne (tgt := 152) G dX9_isSo_145 (by decide) (fun c_145 => ?_) (fun c_145 => ?_)
      · refine zv_iconst (v := 0) G dX9_isSo_152 (by decide) ?_
        exact zv_zret G hr dX9_isSo_153 (by decide) ⟨(Or.inl rfl), rfl⟩
      · refine zv_iconst (v := 1) G dX9_isSo_148 (by decide) ?_
        refine zv_goto (tgt := 153) G dX9_isSo_149 (by decide) ?_
        exact zv_zret G hr dX9_isSo_153 (by decide) ⟨(Or.inr rfl), rfl⟩
  refine zv_icmp_eq (tgt := 134) G dX9_isSo_127 (by decide) (fun c_127 => ?_) (fun c_127 => ?_)
  · refine zv_iconst (v := 0) G dX9_isSo_134 (by decide) ?_
    refine zv_sub [0] (lv' := [(3, za_I x_4)]) rfl ?_
    exact J_135 (0 : Int32)
  · refine zv_iconst (v := 1) G dX9_isSo_130 (by decide) ?_
    refine zv_goto (tgt := 135) G dX9_isSo_131 (by decide) ?_
    refine zv_sub [0] (lv' := [(3, za_I x_4)]) rfl ?_
    exact J_135 (1 : Int32)
set_option maxHeartbeats 4000000 in
set_option maxRecDepth 100000 in
theorem zc_X9_rowsOfWhich (l : Launch) (E : za_E) (a1 : Int32) (σ : za_S)  : zMi l E yX9_rowsOfWhich cX9_rowsOfWhich 4 (Option.some Jvm.ClassFile.FieldType.int) 5 110 [za_O 0 0, za_I a1] σ (fun r σ' => σ' = σ) := by
  refine zMi_of [(0, za_O 0 0), (1, za_I a1)] (by decide) rfl rfl (Nat.le_of_ble_eq_true rfl) ?_
  intro ho p e s m args below meth c G hr
  refine zv_iconst (v := 0) G dX9_rowsOfWhich_0 (by decide) ?_
  refine zv_istore_n (lv' := [(2, za_I 0), (0, za_O 0 0), (1, za_I a1)]) G dX9_rowsOfWhich_1 rfl (by decide) rfl ?_
  refine zv_iconst (v := 0) G dX9_rowsOfWhich_2 (by decide) ?_
  have J_4 : ∀ (n : Nat) (y2_4 : Int32) (y3_4 : Int32) (hn_4 : (2147483648 - y3_4.toInt).toNat < n), zV p l e (zRm 5 110) s m args below meth c E (za_A E) 4 0 0 (MQ below (va_Qi (fun r σ' => σ' = σ) (zB E) (za_A E)) args s 0 0 (za_A E)) 4 [(0, za_O 0 0), (1, za_I a1), (2, za_I y2_4), (3, za_I y3_4)] [] σ := by
    intro n
    induction n with
    | zero => intro y2_4 y3_4 hn; exact absurd hn (Nat.not_lt_zero _)
    | succ n ih_4 =>
      intro y2_4 y3_4 hn_4
      refine zv_iload_n (j := 3) G dX9_rowsOfWhich_4 rfl rfl ?_
      refine zv_aload_n (j := 0) G dX9_rowsOfWhich_5 rfl rfl ?_
      refine zg_X9_10 G dX9_rowsOfWhich_6 ?_
      refine zg_X9_102 G dX9_rowsOfWhich_9 ?_
      refine zg_X9_106 G dX9_rowsOfWhich_12 ?_
      refine zv_icmp_ge (tgt := 39) G dX9_rowsOfWhich_15 (by decide) (fun c_15 => ?_) (fun c_15 => ?_)
      · refine zv_iload_n (j := 2) G dX9_rowsOfWhich_39 rfl rfl ?_
        exact zv_iret G hr dX9_rowsOfWhich_40 rfl
      · refine zv_aload_n (j := 0) G dX9_rowsOfWhich_18 rfl rfl ?_
        refine zv_iload_n (j := 3) G dX9_rowsOfWhich_19 rfl rfl ?_
        refine zv_iload_n (j := 1) G dX9_rowsOfWhich_20 rfl rfl ?_
        refine zv_callVi (as := [za_I y3_4, za_I a1]) G (by decide) rfl rfl (zc_X9_isSo l E y3_4 a1 σ ) zk_X9_isSo zm_1051 rfl ⟨(Nat.le_of_ble_eq_true rfl), (Nat.le_of_ble_eq_true rfl)⟩ ⟨Nat.zero_le _, Nat.zero_le _⟩ (Nat.le_of_ble_eq_true rfl) dX9_rowsOfWhich_21 (fun r_21 σ h_21 => ?_)
        obtain ⟨h_21, rfl⟩ := h_21
        refine zv_if_eq (tgt := 33) G dX9_rowsOfWhich_24 (by decide) (fun c_24 => ?_) (fun c_24 => ?_)
        · obtain ⟨x_33, e_33⟩ : ∃ y : Int32, y = y3_4 + 1 := ⟨_, rfl⟩
          refine zv_iinc (j := 3) (v := x_33) (lv' := [(3, za_I x_33), (0, za_O 0 0), (1, za_I a1), (2, za_I y2_4)]) G dX9_rowsOfWhich_33 rfl (by rw [e_33]; rfl) (by decide) rfl ?_
          refine zv_goto (tgt := 4) G dX9_rowsOfWhich_36 (by decide) ?_
          refine zv_sub [1, 2, 3, 0] (lv' := [(0, za_O 0 0), (1, za_I a1), (2, za_I y2_4), (3, za_I x_33)]) rfl ?_
          exact ih_4 y2_4 x_33 (z_meas c_15 e_33 hn_4)
        · refine zv_iload_n (j := 2) G dX9_rowsOfWhich_27 rfl rfl ?_
          refine zv_iconst (v := 1) G dX9_rowsOfWhich_28 (by decide) ?_
          refine zv_iload_n (j := 3) G dX9_rowsOfWhich_29 rfl rfl ?_
          refine zv_ishl G dX9_rowsOfWhich_30 ?_
          refine zv_ior G dX9_rowsOfWhich_31 ?_
          refine zv_top (fun x_32 e_32 => ?_)
          refine zv_istore_n (lv' := [(2, za_I x_32), (0, za_O 0 0), (1, za_I a1), (3, za_I y3_4)]) G dX9_rowsOfWhich_32 rfl (by decide) rfl ?_
          obtain ⟨x_33, e_33⟩ : ∃ y : Int32, y = y3_4 + 1 := ⟨_, rfl⟩
          refine zv_iinc (j := 3) (v := x_33) (lv' := [(3, za_I x_33), (2, za_I x_32), (0, za_O 0 0), (1, za_I a1)]) G dX9_rowsOfWhich_33 rfl (by rw [e_33]; rfl) (by decide) rfl ?_
          refine zv_goto (tgt := 4) G dX9_rowsOfWhich_36 (by decide) ?_
          refine zv_sub [2, 3, 1, 0] (lv' := [(0, za_O 0 0), (1, za_I a1), (2, za_I x_32), (3, za_I x_33)]) rfl ?_
          exact ih_4 x_32 x_33 (z_meas c_15 e_33 hn_4)
  refine zv_istore_n (lv' := [(3, za_I 0), (2, za_I 0), (0, za_O 0 0), (1, za_I a1)]) G dX9_rowsOfWhich_3 rfl (by decide) rfl ?_
  refine zv_sub [2, 3, 1, 0] (lv' := [(0, za_O 0 0), (1, za_I a1), (2, za_I 0), (3, za_I 0)]) rfl ?_
  exact J_4 _ (0 : Int32) (0 : Int32) (Nat.lt_succ_self _)
set_option maxHeartbeats 4000000 in
set_option maxRecDepth 100000 in
theorem zc_X9_rowsThatFit (l : Launch) (E : za_E)  (σ : za_S)  : zMi l E yX9_rowsThatFit cX9_rowsThatFit 3 (Option.some Jvm.ClassFile.FieldType.int) 6 133 [za_O 0 0] σ (fun r σ' => σ' = σ) := by
  refine zMi_of [(0, za_O 0 0)] (by decide) rfl rfl (Nat.le_of_ble_eq_true rfl) ?_
  intro ho p e s m args below meth c G hr
  refine zv_iconst (v := 1) G dX9_rowsThatFit_0 (by decide) ?_
  refine zv_aload_n (j := 0) G dX9_rowsThatFit_1 rfl rfl ?_
  refine zg_X9_10 G dX9_rowsThatFit_2 ?_
  refine zg_X9_102 G dX9_rowsThatFit_5 ?_
  refine zg_X9_106 G dX9_rowsThatFit_8 ?_
  refine zv_ishl G dX9_rowsThatFit_11 ?_
  refine zv_iconst (v := 1) G dX9_rowsThatFit_12 (by decide) ?_
  refine zv_isub G dX9_rowsThatFit_13 ?_
  refine zv_top (fun x_14 e_14 => ?_)
  refine zv_istore_n (lv' := [(1, za_I x_14), (0, za_O 0 0)]) G dX9_rowsThatFit_14 rfl (by decide) rfl ?_
  refine zv_iconst (v := 0) G dX9_rowsThatFit_15 (by decide) ?_
  have J_17 : ∀ (n : Nat) (y1_17 : Int32) (y2_17 : Int32) (hn_17 : (2147483648 - y2_17.toInt).toNat < n), zV p l e (zRm 6 133) s m args below meth c E (za_A E) 3 0 0 (MQ below (va_Qi (fun r σ' => σ' = σ) (zB E) (za_A E)) args s 0 0 (za_A E)) 17 [(0, za_O 0 0), (1, za_I y1_17), (2, za_I y2_17)] [] σ := by
    intro n
    induction n with
    | zero => intro y1_17 y2_17 hn; exact absurd hn (Nat.not_lt_zero _)
    | succ n ih_17 =>
      intro y1_17 y2_17 hn_17
      refine zv_iload_n (j := 2) G dX9_rowsThatFit_17 rfl rfl ?_
      refine zv_aload_n (j := 0) G dX9_rowsThatFit_18 rfl rfl ?_
      refine zg_X9_47 G dX9_rowsThatFit_19 ?_
      refine zg_X9_392 G dX9_rowsThatFit_22 ?_
      refine zv_icmp_ge (tgt := 49) G dX9_rowsThatFit_25 (by decide) (fun c_25 => ?_) (fun c_25 => ?_)
      · refine zv_iload_n (j := 1) G dX9_rowsThatFit_49 rfl rfl ?_
        exact zv_iret G hr dX9_rowsThatFit_50 rfl
      · refine zv_iload_n (j := 1) G dX9_rowsThatFit_28 rfl rfl ?_
        refine zv_aload_n (j := 0) G dX9_rowsThatFit_29 rfl rfl ?_
        refine zv_aload_n (j := 0) G dX9_rowsThatFit_30 rfl rfl ?_
        refine zg_X9_47 G dX9_rowsThatFit_31 ?_
        refine zv_iload_n (j := 2) G dX9_rowsThatFit_34 rfl rfl ?_
        refine zv_callVNi (as := [za_I y2_17]) G (by decide) rfl rfl (zc_X3_questionAt l E y2_17 σ ) zk_X3_questionAt zm_1043 rfl ⟨(Nat.le_of_ble_eq_true rfl), (Nat.le_of_ble_eq_true rfl)⟩ ⟨Nat.zero_le _, Nat.zero_le _⟩ (Nat.le_of_ble_eq_true rfl) dX9_rowsThatFit_35 (fun r_35 σ h_35 => ?_)
        subst h_35
        refine zv_callVi (as := [za_I r_35]) G (by decide) rfl rfl (zc_X9_rowsOfWhich l E r_35 σ ) zk_X9_rowsOfWhich zm_1047 rfl ⟨(Nat.le_of_ble_eq_true rfl), (Nat.le_of_ble_eq_true rfl)⟩ ⟨Nat.zero_le _, Nat.zero_le _⟩ (Nat.le_of_ble_eq_true rfl) dX9_rowsThatFit_38 (fun r_38 σ h_38 => ?_)
        subst h_38
        refine zv_iand G dX9_rowsThatFit_41 ?_
        refine zv_top (fun x_42 e_42 => ?_)
        refine zv_istore_n (lv' := [(1, za_I x_42), (0, za_O 0 0), (2, za_I y2_17)]) G dX9_rowsThatFit_42 rfl (by decide) rfl ?_
        obtain ⟨x_43, e_43⟩ : ∃ y : Int32, y = y2_17 + 1 := ⟨_, rfl⟩
        refine zv_iinc (j := 2) (v := x_43) (lv' := [(2, za_I x_43), (1, za_I x_42), (0, za_O 0 0)]) G dX9_rowsThatFit_43 rfl (by rw [e_43]; rfl) (by decide) rfl ?_
        refine zv_goto (tgt := 17) G dX9_rowsThatFit_46 (by decide) ?_
        refine zv_sub [2, 1, 0] (lv' := [(0, za_O 0 0), (1, za_I x_42), (2, za_I x_43)]) rfl ?_
        exact ih_17 x_42 x_43 (z_meas c_25 e_43 hn_17)
  refine zv_istore_n (lv' := [(2, za_I 0), (1, za_I x_14), (0, za_O 0 0)]) G dX9_rowsThatFit_16 rfl (by decide) rfl ?_
  refine zv_sub [2, 1, 0] (lv' := [(0, za_O 0 0), (1, za_I x_14), (2, za_I 0)]) rfl ?_
  exact J_17 _ x_14 (0 : Int32) (Nat.lt_succ_self _)
set_option maxHeartbeats 4000000 in
set_option maxRecDepth 100000 in
theorem zc_X9_fits (l : Launch) (E : za_E)  (σ0 : za_S)  : zMi l E yX9_fits cX9_fits 2 (Option.some Jvm.ClassFile.FieldType.int) 7 155 [za_O 0 0] σ0 (fun r σ' => zc σ0 σ') := by
  refine zMi_of [(0, za_O 0 0)] (by decide) rfl rfl (Nat.le_of_ble_eq_true rfl) ?_
  intro ho p e s m args below meth c G hr
  refine zv_gen (R9 := zc σ0) (zc_r σ0) (fun σ hz => ?_)
  refine zv_aload_n (j := 0) G dX9_fits_0 rfl rfl ?_
  refine zv_callVi (as := []) G (by decide) rfl rfl (zc_X9_rowsThatFit l E  σ ) zk_X9_rowsThatFit zm_1039 rfl ⟨(Nat.le_of_ble_eq_true rfl), (Nat.le_of_ble_eq_true rfl)⟩ ⟨Nat.zero_le _, Nat.zero_le _⟩ (Nat.le_of_ble_eq_true rfl) dX9_fits_1 (fun r_1 σ h_1 => ?_)
  subst h_1
  refine zv_istore_n (lv' := [(1, za_I r_1), (0, za_O 0 0)]) G dX9_fits_4 rfl (by decide) rfl ?_
  refine zv_aload_n (j := 1) G dX9_fits_5 rfl rfl ?_
  refine zg_X9_40 G dX9_fits_6 ?_
  refine zv_iload_n (j := 0) G dX9_fits_9 rfl rfl ?_
  refine zv_callSi (as := [za_I r_1]) G (zc_J6_bitCount_0f7a4 l E r_1 σ ) zk_J6_bitCount_0f7a4 zm_1002 rfl ⟨(Nat.le_of_ble_eq_true rfl), (Nat.le_of_ble_eq_true rfl)⟩ ⟨Nat.zero_le _, Nat.zero_le _⟩ (Nat.le_of_ble_eq_true rfl) dX9_fits_10 (fun r_10 σ h_10 => ?_)
  subst h_10
  refine zv_i2l G dX9_fits_13 ?_
  refine zv_callVNv (as := [za_L r_10.toInt64]) G (by decide) rfl rfl (zc_X8_tell l E r_10.toInt64 σ ) zk_X8_tell zm_527 rfl ⟨(Nat.le_of_ble_eq_true rfl), (Nat.le_of_ble_eq_true rfl)⟩ ⟨Nat.zero_le _, Nat.zero_le _⟩ (Nat.le_of_ble_eq_true rfl) dX9_fits_14 (fun σ h_14 => ?_)
  have hz9 := h_14
  have hz := zc_t hz hz9
  refine zv_iload_n (j := 0) G dX9_fits_17 rfl rfl ?_
  exact zv_iret G hr dX9_fits_18 hz
set_option maxHeartbeats 4000000 in
set_option maxRecDepth 100000 in
theorem zc_X9_asks (l : Launch) (E : za_E)  (σ0 : za_S)  : zMi l E yX9_asks cX9_asks 8 (Option.some Jvm.ClassFile.FieldType.int) 7 155 [za_O 0 0] σ0 (fun r σ' => zc σ0 σ') := by
  refine zMi_of [(0, za_O 0 0)] (by decide) rfl rfl (Nat.le_of_ble_eq_true rfl) ?_
  intro ho p e s m args below meth c G hr
  refine zv_gen (R9 := zc σ0) (zc_r σ0) (fun σ hz => ?_)
  refine zv_aload_n (j := 0) G dX9_asks_0 rfl rfl ?_
  refine zv_callVi (as := []) G (by decide) rfl rfl (zc_X9_rowsThatFit l E  σ ) zk_X9_rowsThatFit zm_1039 rfl ⟨(Nat.le_of_ble_eq_true rfl), (Nat.le_of_ble_eq_true rfl)⟩ ⟨Nat.zero_le _, Nat.zero_le _⟩ (Nat.le_of_ble_eq_true rfl) dX9_asks_1 (fun r_1 σ h_1 => ?_)
  subst h_1
  refine zv_istore_n (lv' := [(1, za_I r_1), (0, za_O 0 0)]) G dX9_asks_4 rfl (by decide) rfl ?_
  refine zv_iload_n (j := 0) G dX9_asks_5 rfl rfl ?_
  refine zv_callSi (as := [za_I r_1]) G (zc_J6_bitCount_0f7a4 l E r_1 σ ) zk_J6_bitCount_0f7a4 zm_1002 rfl ⟨(Nat.le_of_ble_eq_true rfl), (Nat.le_of_ble_eq_true rfl)⟩ ⟨Nat.zero_le _, Nat.zero_le _⟩ (Nat.le_of_ble_eq_true rfl) dX9_asks_6 (fun r_6 σ h_6 => ?_)
  subst h_6
  refine zv_istore_n (lv' := [(2, za_I r_6), (1, za_I r_1), (0, za_O 0 0)]) G dX9_asks_9 rfl (by decide) rfl ?_
  refine zv_iload_n (j := 0) G dX9_asks_10 rfl rfl ?_
  refine zv_if_ne (tgt := 17) G dX9_asks_11 (by decide) (fun c_11 => ?_) (fun c_11 => ?_)
  · refine zv_iconst (v := 0) G dX9_asks_17 (by decide) ?_
    refine zv_istore_n (lv' := [(3, za_I 0), (2, za_I r_6), (1, za_I r_1), (0, za_O 0 0)]) G dX9_asks_18 rfl (by decide) rfl ?_
    refine zv_iload_n (j := 1) G dX9_asks_19 rfl rfl ?_
    refine zv_iconst (v := 1) G dX9_asks_20 (by decide) ?_
    refine zv_iadd G dX9_asks_21 ?_
    refine zv_top (fun x_22 e_22 => ?_)
    refine zv_istore (lv' := [(4, za_I x_22), (3, za_I 0), (2, za_I r_6), (1, za_I r_1), (0, za_O 0 0)]) G dX9_asks_22 (by decide) rfl ?_
    refine zv_iconst (v := 0) G dX9_asks_24 (by decide) ?_
    have J_27 : ∀ (n : Nat) (y3_27 : Int32) (y4_27 : Int32) (y5_27 : Int32) (σ : za_S) (hz : zc σ0 σ) (hn_27 : (2147483648 - y5_27.toInt).toNat < n), zV p l e (zRm 7 155) s m args below meth c E (za_A E) 8 0 0 (MQ below (va_Qi (fun r σ' => zc σ0 σ') (zB E) (za_A E)) args s 0 0 (za_A E)) 27 [(0, za_O 0 0), (1, za_I r_1), (2, za_I r_6), (3, za_I y3_27), (4, za_I y4_27), (5, za_I y5_27)] [] σ := by
      intro n
      induction n with
      | zero => intro y3_27 y4_27 y5_27 σ hz hn; exact absurd hn (Nat.not_lt_zero _)
      | succ n ih_27 =>
        intro y3_27 y4_27 y5_27 σ hz hn_27
        refine zv_iload (j := 5) G dX9_asks_27 rfl ?_
        refine zv_bipush (v := 32) G dX9_asks_29 (by decide) ?_
        refine zv_icmp_ge (tgt := 78) G dX9_asks_31 (by decide) (fun c_31 => ?_) (fun c_31 => ?_)
        · refine zv_aload_n (j := 0) G dX9_asks_78 rfl rfl ?_
          refine zg_X9_40 G dX9_asks_79 ?_
          refine zv_iload (j := 4) G dX9_asks_82 rfl ?_
          refine zv_i2l G dX9_asks_84 ?_
          refine zv_callVNv (as := [za_L y4_27.toInt64]) G (by decide) rfl rfl (zc_X8_tell l E y4_27.toInt64 σ ) zk_X8_tell zm_527 rfl ⟨(Nat.le_of_ble_eq_true rfl), (Nat.le_of_ble_eq_true rfl)⟩ ⟨Nat.zero_le _, Nat.zero_le _⟩ (Nat.le_of_ble_eq_true rfl) dX9_asks_85 (fun σ h_85 => ?_)
          have hz9 := h_85
          have hz := zc_t hz hz9
          refine zv_iload_n (j := 3) G dX9_asks_88 rfl rfl ?_
          exact zv_iret G hr dX9_asks_89 hz
        · refine zv_iload_n (j := 1) G dX9_asks_34 rfl rfl ?_
          refine zv_aload_n (j := 0) G dX9_asks_35 rfl rfl ?_
          refine zv_iload (j := 5) G dX9_asks_36 rfl ?_
          refine zv_callVi (as := [za_I y5_27]) G (by decide) rfl rfl (zc_X9_rowsOfWhich l E y5_27 σ ) zk_X9_rowsOfWhich zm_1047 rfl ⟨(Nat.le_of_ble_eq_true rfl), (Nat.le_of_ble_eq_true rfl)⟩ ⟨Nat.zero_le _, Nat.zero_le _⟩ (Nat.le_of_ble_eq_true rfl) dX9_asks_38 (fun r_38 σ h_38 => ?_)
          subst h_38
          refine zv_iand G dX9_asks_41 ?_
          refine zv_callSi (as := [za_I (r_1 &&& r_38)]) G (zc_J6_bitCount_0f7a4 l E (r_1 &&& r_38) σ ) zk_J6_bitCount_0f7a4 zm_1002 rfl ⟨(Nat.le_of_ble_eq_true rfl), (Nat.le_of_ble_eq_true rfl)⟩ ⟨Nat.zero_le _, Nat.zero_le _⟩ (Nat.le_of_ble_eq_true rfl) dX9_asks_42 (fun r_42 σ h_42 => ?_)
          subst h_42
          refine zv_istore (lv' := [(6, za_I r_42), (0, za_O 0 0), (1, za_I r_1), (2, za_I r_6), (3, za_I y3_27), (4, za_I y4_27), (5, za_I y5_27)]) G dX9_asks_45 (by decide) rfl ?_
          refine zv_iload (j := 0) G dX9_asks_47 rfl ?_
          refine zv_iload_n (j := 3) G dX9_asks_49 rfl rfl ?_
          refine zv_iload (j := 0) G dX9_asks_50 rfl ?_
          refine zv_isub G dX9_asks_52 ?_
          refine zv_mmax G zm_394 zm_395 zm_147 zm_396 (Nat.le_of_ble_eq_true rfl) (Nat.le_of_ble_eq_true rfl) (Nat.zero_le _) (Nat.zero_le _) dX9_asks_53 ?_
          refine zv_top (fun x_53 e_53 => ?_)
          refine zv_istore (lv' := [(7, za_I x_53), (6, za_I r_42), (0, za_O 0 0), (1, za_I r_1), (2, za_I r_6), (3, za_I y3_27), (4, za_I y4_27), (5, za_I y5_27)]) G dX9_asks_56 (by decide) rfl ?_
          refine zv_iload (j := 0) G dX9_asks_58 rfl ?_
          refine zv_iload (j := 6) G dX9_asks_60 rfl ?_
          refine zv_icmp_ge (tgt := 72) G dX9_asks_62 (by decide) (fun c_62 => ?_) (fun c_62 => ?_)
          · obtain ⟨x_72, e_72⟩ : ∃ y : Int32, y = y5_27 + 1 := ⟨_, rfl⟩
            refine zv_iinc (j := 7) (v := x_72) (lv' := [(5, za_I x_72), (7, za_I x_53), (6, za_I r_42), (0, za_O 0 0), (1, za_I r_1), (2, za_I r_6), (3, za_I y3_27), (4, za_I y4_27)]) G dX9_asks_72 rfl (by rw [e_72]; rfl) (by decide) rfl ?_
            refine zv_goto (tgt := 27) G dX9_asks_75 (by decide) ?_
            refine zv_sub [3, 4, 5, 6, 7, 0] (lv' := [(0, za_O 0 0), (1, za_I r_1), (2, za_I r_6), (3, za_I y3_27), (4, za_I y4_27), (5, za_I x_72)]) rfl ?_
            exact ih_27 y3_27 y4_27 x_72 σ hz (z_meas c_31 e_72 hn_27)
          · refine zv_iload (j := 7) G dX9_asks_65 rfl ?_
            refine zv_istore_n (lv' := [(3, za_I y5_27), (7, za_I x_53), (6, za_I r_42), (0, za_O 0 0), (1, za_I r_1), (2, za_I r_6), (4, za_I y4_27), (5, za_I y5_27)]) G dX9_asks_67 rfl (by decide) rfl ?_
            refine zv_iload (j := 1) G dX9_asks_68 rfl ?_
            refine zv_istore (lv' := [(4, za_I x_53), (3, za_I y5_27), (7, za_I x_53), (6, za_I r_42), (0, za_O 0 0), (1, za_I r_1), (2, za_I r_6), (5, za_I y5_27)]) G dX9_asks_70 (by decide) rfl ?_
            obtain ⟨x_72, e_72⟩ : ∃ y : Int32, y = y5_27 + 1 := ⟨_, rfl⟩
            refine zv_iinc (j := 7) (v := x_72) (lv' := [(5, za_I x_72), (4, za_I x_53), (3, za_I y5_27), (7, za_I x_53), (6, za_I r_42), (0, za_O 0 0), (1, za_I r_1), (2, za_I r_6)]) G dX9_asks_72 rfl (by rw [e_72]; rfl) (by decide) rfl ?_
            refine zv_goto (tgt := 27) G dX9_asks_75 (by decide) ?_
            refine zv_sub [5, 6, 7, 2, 1, 0] (lv' := [(0, za_O 0 0), (1, za_I r_1), (2, za_I r_6), (3, za_I y5_27), (4, za_I x_53), (5, za_I x_72)]) rfl ?_
            exact ih_27 y5_27 x_53 x_72 σ hz (z_meas c_31 e_72 hn_27)
    refine zv_istore (lv' := [(5, za_I 0), (4, za_I x_22), (3, za_I 0), (2, za_I r_6), (1, za_I r_1), (0, za_O 0 0)]) G dX9_asks_25 (by decide) rfl ?_
    refine zv_sub [5, 4, 3, 2, 1, 0] (lv' := [(0, za_O 0 0), (1, za_I r_1), (2, za_I r_6), (3, za_I 0), (4, za_I x_22), (5, za_I 0)]) rfl ?_
    exact J_27 _ (0 : Int32) x_22 (0 : Int32) σ hz (Nat.lt_succ_self _)
  · refine zv_bipush (v := (-2)) G dX9_asks_14 (by decide) ?_
    exact zv_iret G hr dX9_asks_16 hz
set_option maxHeartbeats 4000000 in
set_option maxRecDepth 100000 in
theorem zc_X9_draw (l : Launch) (E : za_E) (a1 : Int32) (σ0 : za_S)  : zMi l E yX9_draw cX9_draw 2 (Option.some Jvm.ClassFile.FieldType.int) 1 21 [za_O 0 0, za_I a1] σ0 (fun r σ' => zc σ0 σ') := by
  refine zMi_of [(0, za_O 0 0), (1, za_I a1)] (by decide) rfl rfl (Nat.le_of_ble_eq_true rfl) ?_
  intro ho p e s m args below meth c G hr
  refine zv_gen (R9 := zc σ0) (zc_r σ0) (fun σ hz => ?_)
  refine zv_aload_n (j := 0) G dX9_draw_0 rfl rfl ?_
  refine zv_aload_n (j := 0) G dX9_draw_1 rfl rfl ?_
  refine zg_X9_405 G dX9_draw_2 ?_
  refine zv_ldc_w (v := 1103515245) G dX9_draw_5 zm_1071 ?_
  refine zv_imul G dX9_draw_8 ?_
  refine zv_sipush (v := 12345) G dX9_draw_9 (by decide) ?_
  refine zv_iadd G dX9_draw_12 ?_
  refine zp_X9_405 G dX9_draw_13 ?_
  refine zv_gen (R9 := zc σ0) (zc_t hz (zc_k0 rfl)) (fun σ hz => ?_)
  refine zv_iload_n (j := 1) G dX9_draw_16 rfl rfl ?_
  refine zv_if_le (tgt := 32) G dX9_draw_17 (by decide) (fun c_17 => ?_) (fun c_17 => ?_)
  · refine zv_iconst (v := 0) G dX9_draw_32 (by decide) ?_
    exact zv_iret G hr dX9_draw_33 hz
  · refine zv_aload_n (j := 0) G dX9_draw_20 rfl rfl ?_
    refine zg_X9_405 G dX9_draw_21 ?_
    refine zv_bipush (v := 16) G dX9_draw_24 (by decide) ?_
    refine zv_iushr G dX9_draw_26 ?_
    refine zv_iload_n (j := 1) G dX9_draw_27 rfl rfl ?_
    refine zv_irem G dX9_draw_28 (z_nz c_17) ?_
    refine zv_goto (tgt := 33) G dX9_draw_29 (by decide) ?_
    exact zv_iret G hr dX9_draw_33 hz
set_option maxHeartbeats 4000000 in
set_option maxRecDepth 100000 in
theorem zc_X9_doDrawnAct (l : Launch) (E : za_E)  (σ0 : za_S)  : zMv l E yX9_doDrawnAct cX9_doDrawnAct 6 (Option.none : Option Jvm.ClassFile.FieldType) 7 173 [za_O 0 0] σ0 (fun σ' => zc σ0 σ') := by
  refine zMv_of [(0, za_O 0 0)] (by decide) rfl rfl (Nat.le_of_ble_eq_true rfl) ?_
  intro ho p e s m args below meth c G hr
  refine zv_gen (R9 := zc σ0) (zc_r σ0) (fun σ hz => ?_)
  refine zv_aload_n (j := 0) G dX9_doDrawnAct_0 rfl rfl ?_
  refine zv_bipush (v := 6) G dX9_doDrawnAct_1 (by decide) ?_
  refine zv_callVi (as := [za_I 6]) G (by decide) rfl rfl (zc_X9_draw l E (6 : Int32) σ ) zk_X9_draw zm_1067 rfl ⟨(Nat.le_of_ble_eq_true rfl), (Nat.le_of_ble_eq_true rfl)⟩ ⟨Nat.zero_le _, Nat.zero_le _⟩ (Nat.le_of_ble_eq_true rfl) dX9_doDrawnAct_3 (fun r_3 σ h_3 => ?_)
  have hz9 := h_3
  have hz := zc_t hz hz9
  refine zv_istore_n (lv' := [(1, za_I r_3), (0, za_O 0 0)]) G dX9_doDrawnAct_6 rfl (by decide) rfl ?_
  refine zv_aload_n (j := 1) G dX9_doDrawnAct_7 rfl rfl ?_
  refine zv_iconst (v := 2) G dX9_doDrawnAct_8 (by decide) ?_
  refine zv_callVi (as := [za_I 2]) G (by decide) rfl rfl (zc_X9_draw l E (2 : Int32) σ ) zk_X9_draw zm_1067 rfl ⟨(Nat.le_of_ble_eq_true rfl), (Nat.le_of_ble_eq_true rfl)⟩ ⟨Nat.zero_le _, Nat.zero_le _⟩ (Nat.le_of_ble_eq_true rfl) dX9_doDrawnAct_9 (fun r_9 σ h_9 => ?_)
  have hz9 := h_9
  have hz := zc_t hz hz9
  refine zv_istore_n (lv' := [(2, za_I r_9), (1, za_I r_3), (0, za_O 0 0)]) G dX9_doDrawnAct_12 rfl (by decide) rfl ?_
  refine zv_aload_n (j := 2) G dX9_doDrawnAct_13 rfl rfl ?_
  refine zv_bipush (v := 10) G dX9_doDrawnAct_14 (by decide) ?_
  refine zv_callVi (as := [za_I 10]) G (by decide) rfl rfl (zc_X9_draw l E (10 : Int32) σ ) zk_X9_draw zm_1067 rfl ⟨(Nat.le_of_ble_eq_true rfl), (Nat.le_of_ble_eq_true rfl)⟩ ⟨Nat.zero_le _, Nat.zero_le _⟩ (Nat.le_of_ble_eq_true rfl) dX9_doDrawnAct_16 (fun r_16 σ h_16 => ?_)
  have hz9 := h_16
  have hz := zc_t hz hz9
  refine zv_istore_n (lv' := [(3, za_I r_16), (2, za_I r_9), (1, za_I r_3), (0, za_O 0 0)]) G dX9_doDrawnAct_19 rfl (by decide) rfl ?_
  refine zv_aload_n (j := 3) G dX9_doDrawnAct_20 rfl rfl ?_
  refine zv_bipush (v := 100) G dX9_doDrawnAct_21 (by decide) ?_
  refine zv_callVi (as := [za_I 100]) G (by decide) rfl rfl (zc_X9_draw l E (100 : Int32) σ ) zk_X9_draw zm_1067 rfl ⟨(Nat.le_of_ble_eq_true rfl), (Nat.le_of_ble_eq_true rfl)⟩ ⟨Nat.zero_le _, Nat.zero_le _⟩ (Nat.le_of_ble_eq_true rfl) dX9_doDrawnAct_23 (fun r_23 σ h_23 => ?_)
  have hz9 := h_23
  have hz := zc_t hz hz9
  refine zv_istore (lv' := [(4, za_I r_23), (3, za_I r_16), (2, za_I r_9), (1, za_I r_3), (0, za_O 0 0)]) G dX9_doDrawnAct_26 (by decide) rfl ?_
  refine zv_bipush (v := 100) G dX9_doDrawnAct_28 (by decide) ?_
  refine zv_iload (j := 0) G dX9_doDrawnAct_30 rfl ?_
  refine zv_aload_n (j := 4) G dX9_doDrawnAct_32 rfl rfl ?_
  refine zv_bipush (v := 20) G dX9_doDrawnAct_33 (by decide) ?_
  refine zv_callVi (as := [za_I 20]) G (by decide) rfl rfl (zc_X9_draw l E (20 : Int32) σ ) zk_X9_draw zm_1067 rfl ⟨(Nat.le_of_ble_eq_true rfl), (Nat.le_of_ble_eq_true rfl)⟩ ⟨Nat.zero_le _, Nat.zero_le _⟩ (Nat.le_of_ble_eq_true rfl) dX9_doDrawnAct_35 (fun r_35 σ h_35 => ?_)
  have hz9 := h_35
  have hz := zc_t hz hz9
  refine zv_iadd G dX9_doDrawnAct_38 ?_
  refine zv_iconst (v := 1) G dX9_doDrawnAct_39 (by decide) ?_
  refine zv_iadd G dX9_doDrawnAct_40 ?_
  refine zv_mmin G zm_391 zm_392 zm_147 zm_393 (Nat.le_of_ble_eq_true rfl) (Nat.le_of_ble_eq_true rfl) (Nat.zero_le _) (Nat.zero_le _) dX9_doDrawnAct_41 ?_
  refine zv_top (fun x_41 e_41 => ?_)
  refine zv_istore (lv' := [(5, za_I x_41), (4, za_I r_23), (3, za_I r_16), (2, za_I r_9), (1, za_I r_3), (0, za_O 0 0)]) G dX9_doDrawnAct_44 (by decide) rfl ?_
  refine zv_iload_n (j := 4) G dX9_doDrawnAct_46 rfl rfl ?_
  rcases Decidable.em (r_3 = 2) with q_47_2 | q_47_2
  · refine zv_tabIn (off := 29) (tgt := 76) G dX9_doDrawnAct_47 (by rw [q_47_2]; decide) (by rw [q_47_2]; decide) (by rw [q_47_2]; rfl) (by decide) ?_
    refine zv_aload_n (j := 5) G dX9_doDrawnAct_76 rfl rfl ?_
    refine zv_iload_n (j := 3) G dX9_doDrawnAct_77 rfl rfl ?_
    refine zv_iload_n (j := 2) G dX9_doDrawnAct_78 rfl rfl ?_
    refine zv_aload_n (j := 5) G dX9_doDrawnAct_79 rfl rfl ?_
    refine zv_bipush (v := 100) G dX9_doDrawnAct_80 (by decide) ?_
    refine zv_callVi (as := [za_I 100]) G (by decide) rfl rfl (zc_X9_draw l E (100 : Int32) σ ) zk_X9_draw zm_1067 rfl ⟨(Nat.le_of_ble_eq_true rfl), (Nat.le_of_ble_eq_true rfl)⟩ ⟨Nat.zero_le _, Nat.zero_le _⟩ (Nat.le_of_ble_eq_true rfl) dX9_doDrawnAct_82 (fun r_82 σ h_82 => ?_)
    have hz9 := h_82
    have hz := zc_t hz hz9
    refine zv_iload (j := 1) G dX9_doDrawnAct_85 rfl ?_
    refine zv_iload (j := 0) G dX9_doDrawnAct_87 rfl ?_
    refine zv_callVi (as := [za_I r_9, za_I r_16, za_I r_82, za_I r_23, za_I x_41]) G (by decide) rfl rfl (zc_X9_setValue l E r_9 r_16 r_82 r_23 x_41 σ ) zk_X9_setValue zm_505 rfl ⟨(Nat.le_of_ble_eq_true rfl), (Nat.le_of_ble_eq_true rfl)⟩ ⟨Nat.zero_le _, Nat.zero_le _⟩ (Nat.le_of_ble_eq_true rfl) dX9_doDrawnAct_89 (fun r_89 σ h_89 => ?_)
    have hz9 := h_89
    have hz := zc_t hz hz9
    refine zv_popI G dX9_doDrawnAct_92 ?_
    refine zv_goto (tgt := 155) G dX9_doDrawnAct_93 (by decide) ?_
    exact zv_vret G hr dX9_doDrawnAct_155 hz
  rcases Decidable.em (r_3 = 3) with q_47_3 | q_47_3
  · refine zv_tabIn (off := 49) (tgt := 96) G dX9_doDrawnAct_47 (by rw [q_47_3]; decide) (by rw [q_47_3]; decide) (by rw [q_47_3]; rfl) (by decide) ?_
    refine zv_aload_n (j := 5) G dX9_doDrawnAct_96 rfl rfl ?_
    refine zv_iload_n (j := 2) G dX9_doDrawnAct_97 rfl rfl ?_
    refine zv_aload_n (j := 5) G dX9_doDrawnAct_98 rfl rfl ?_
    refine zv_bipush (v := 11) G dX9_doDrawnAct_99 (by decide) ?_
    refine zv_callVi (as := [za_I 11]) G (by decide) rfl rfl (zc_X9_draw l E (11 : Int32) σ ) zk_X9_draw zm_1067 rfl ⟨(Nat.le_of_ble_eq_true rfl), (Nat.le_of_ble_eq_true rfl)⟩ ⟨Nat.zero_le _, Nat.zero_le _⟩ (Nat.le_of_ble_eq_true rfl) dX9_doDrawnAct_101 (fun r_101 σ h_101 => ?_)
    have hz9 := h_101
    have hz := zc_t hz hz9
    refine zv_iload (j := 1) G dX9_doDrawnAct_104 rfl ?_
    refine zv_iload (j := 0) G dX9_doDrawnAct_106 rfl ?_
    refine zv_callVi (as := [za_I r_16, za_I r_101, za_I r_23, za_I x_41]) G (by decide) rfl rfl (zc_X9_setRef l E r_16 r_101 r_23 x_41 σ ) zk_X9_setRef zm_543 rfl ⟨(Nat.le_of_ble_eq_true rfl), (Nat.le_of_ble_eq_true rfl)⟩ ⟨Nat.zero_le _, Nat.zero_le _⟩ (Nat.le_of_ble_eq_true rfl) dX9_doDrawnAct_108 (fun r_108 σ h_108 => ?_)
    have hz9 := h_108
    have hz := zc_t hz hz9
    refine zv_popI G dX9_doDrawnAct_111 ?_
    refine zv_goto (tgt := 155) G dX9_doDrawnAct_112 (by decide) ?_
    exact zv_vret G hr dX9_doDrawnAct_155 hz
  rcases Decidable.em (r_3 = 4) with q_47_4 | q_47_4
  · refine zv_tabIn (off := 68) (tgt := 115) G dX9_doDrawnAct_47 (by rw [q_47_4]; decide) (by rw [q_47_4]; decide) (by rw [q_47_4]; rfl) (by decide) ?_
    refine zv_aload_n (j := 5) G dX9_doDrawnAct_115 rfl rfl ?_
    refine zv_iload_n (j := 3) G dX9_doDrawnAct_116 rfl rfl ?_
    refine zv_iload_n (j := 2) G dX9_doDrawnAct_117 rfl rfl ?_
    refine zv_iload (j := 1) G dX9_doDrawnAct_118 rfl ?_
    refine zv_iload (j := 0) G dX9_doDrawnAct_120 rfl ?_
    refine zv_callVi (as := [za_I r_9, za_I r_16, za_I r_23, za_I x_41]) G (by decide) rfl rfl (zc_X9_cutPeriod l E r_9 r_16 r_23 x_41 σ ) zk_X9_cutPeriod zm_564 rfl ⟨(Nat.le_of_ble_eq_true rfl), (Nat.le_of_ble_eq_true rfl)⟩ ⟨Nat.zero_le _, Nat.zero_le _⟩ (Nat.le_of_ble_eq_true rfl) dX9_doDrawnAct_122 (fun r_122 σ h_122 => ?_)
    have hz9 := h_122
    have hz := zc_t hz hz9
    refine zv_popI G dX9_doDrawnAct_125 ?_
    refine zv_goto (tgt := 155) G dX9_doDrawnAct_126 (by decide) ?_
    exact zv_vret G hr dX9_doDrawnAct_155 hz
  rcases Decidable.em (r_3 = 5) with q_47_5 | q_47_5
  · refine zv_tabIn (off := 82) (tgt := 129) G dX9_doDrawnAct_47 (by rw [q_47_5]; decide) (by rw [q_47_5]; decide) (by rw [q_47_5]; rfl) (by decide) ?_
    refine zv_aload_n (j := 5) G dX9_doDrawnAct_129 rfl rfl ?_
    refine zv_iload_n (j := 3) G dX9_doDrawnAct_130 rfl rfl ?_
    refine zv_callVi (as := [za_I r_9]) G (by decide) rfl rfl (zc_X9_joinAlike l E r_9 σ ) zk_X9_joinAlike zm_630 rfl ⟨(Nat.le_of_ble_eq_true rfl), (Nat.le_of_ble_eq_true rfl)⟩ ⟨Nat.zero_le _, Nat.zero_le _⟩ (Nat.le_of_ble_eq_true rfl) dX9_doDrawnAct_131 (fun r_131 σ h_131 => ?_)
    have hz9 := h_131
    have hz := zc_t hz hz9
    refine zv_popI G dX9_doDrawnAct_134 ?_
    refine zv_goto (tgt := 155) G dX9_doDrawnAct_135 (by decide) ?_
    exact zv_vret G hr dX9_doDrawnAct_155 hz
  have n_47_0 := lv_neT q_47_2 (a := 2) rfl
  have n_47_1 := lv_neT q_47_3 (a := 3) rfl
  have n_47_2 := lv_neT q_47_4 (a := 4) rfl
  have n_47_3 := lv_neT q_47_5 (a := 5) rfl
  refine zv_tabOut (tgt := 138) G dX9_doDrawnAct_47 (by omega) (by decide) ?_
  refine zv_aload_n (j := 5) G dX9_doDrawnAct_138 rfl rfl ?_
  refine zv_iload_n (j := 3) G dX9_doDrawnAct_139 rfl rfl ?_
  refine zv_iload_n (j := 2) G dX9_doDrawnAct_140 rfl rfl ?_
  refine zv_aload_n (j := 5) G dX9_doDrawnAct_141 rfl rfl ?_
  refine zv_bipush (v := 100) G dX9_doDrawnAct_142 (by decide) ?_
  refine zv_callVi (as := [za_I 100]) G (by decide) rfl rfl (zc_X9_draw l E (100 : Int32) σ ) zk_X9_draw zm_1067 rfl ⟨(Nat.le_of_ble_eq_true rfl), (Nat.le_of_ble_eq_true rfl)⟩ ⟨Nat.zero_le _, Nat.zero_le _⟩ (Nat.le_of_ble_eq_true rfl) dX9_doDrawnAct_144 (fun r_144 σ h_144 => ?_)
  have hz9 := h_144
  have hz := zc_t hz hz9
  refine zv_iload (j := 1) G dX9_doDrawnAct_147 rfl ?_
  refine zv_iload (j := 0) G dX9_doDrawnAct_149 rfl ?_
  refine zv_callVi (as := [za_I r_9, za_I r_16, za_I r_144, za_I r_23, za_I x_41]) G (by decide) rfl rfl (zc_X9_addRow l E r_9 r_16 r_144 r_23 x_41 σ ) zk_X9_addRow zm_431 rfl ⟨(Nat.le_of_ble_eq_true rfl), (Nat.le_of_ble_eq_true rfl)⟩ ⟨Nat.zero_le _, Nat.zero_le _⟩ (Nat.le_of_ble_eq_true rfl) dX9_doDrawnAct_151 (fun r_151 σ h_151 => ?_)
  have hz9 := h_151
  have hz := zc_t hz hz9
  refine zv_popI G dX9_doDrawnAct_154 ?_
  exact zv_vret G hr dX9_doDrawnAct_155 hz
set_option maxHeartbeats 4000000 in
set_option maxRecDepth 100000 in
theorem zc_X6_fromTimesValue (l : Launch) (E : za_E) (w : Nat) (σ : za_S)  : zMi l E yX6_fromTimesValue cX6_fromTimesValue 3 (Option.some Jvm.ClassFile.FieldType.int) 3 64 [za_O 2 w] σ (fun r σ' => σ' = σ) := by
  refine zMi_of [(0, za_O 2 w)] (by decide) rfl rfl (Nat.le_of_ble_eq_true rfl) ?_
  intro ho p e s m args below meth c G hr
  have h_w : za_kd w = 2 := za_okO (by decide) (List.forall_mem_cons.mp ho).1
  refine zv_iconst (v := 0) G dX6_fromTimesValue_0 (by decide) ?_
  refine zv_istore_n (lv' := [(1, za_I 0), (0, za_O 2 w)]) G dX6_fromTimesValue_1 rfl (by decide) rfl ?_
  refine zv_iconst (v := 0) G dX6_fromTimesValue_2 (by decide) ?_
  have J_4 : ∀ (n : Nat) (y1_4 : Int32) (y2_4 : Int32) (hn_4 : (2147483648 - y2_4.toInt).toNat < n), zV p l e (zRm 3 64) s m args below meth c E (za_A E) 3 0 0 (MQ below (va_Qi (fun r σ' => σ' = σ) (zB E) (za_A E)) args s 0 0 (za_A E)) 4 [(0, za_O 2 w), (1, za_I y1_4), (2, za_I y2_4)] [] σ := by
    intro n
    induction n with
    | zero => intro y1_4 y2_4 hn; exact absurd hn (Nat.not_lt_zero _)
    | succ n ih_4 =>
      intro y1_4 y2_4 hn_4
      refine zv_iload_n (j := 2) G dX6_fromTimesValue_4 rfl rfl ?_
      refine zv_aload_n (j := 0) G dX6_fromTimesValue_5 rfl rfl ?_
      refine zg_X6_15 G dX6_fromTimesValue_6 ?_
      refine zv_icmp_ge (tgt := 34) G dX6_fromTimesValue_9 (by decide) (fun c_9 => ?_) (fun c_9 => ?_)
      · refine zv_iload_n (j := 1) G dX6_fromTimesValue_34 rfl rfl ?_
        exact zv_iret G hr dX6_fromTimesValue_35 rfl
      · refine zv_iload_n (j := 1) G dX6_fromTimesValue_12 rfl rfl ?_
        refine zv_aload_n (j := 0) G dX6_fromTimesValue_13 rfl rfl ?_
        refine zv_iload_n (j := 2) G dX6_fromTimesValue_14 rfl rfl ?_
        refine zv_iconst (v := 2) G dX6_fromTimesValue_15 (by decide) ?_
        refine zv_callVi (as := [za_I y2_4, za_I 2]) G (by decide) rfl rfl (zc_X6_cell l E w y2_4 (2 : Int32) σ ) zk_X6_cell zm_465 rfl ⟨(Nat.le_of_ble_eq_true rfl), (Nat.le_of_ble_eq_true rfl)⟩ ⟨Nat.zero_le _, Nat.zero_le _⟩ (Nat.le_of_ble_eq_true rfl) dX6_fromTimesValue_16 (fun r_16 σ h_16 => ?_)
        subst h_16
        refine zv_aload_n (j := 0) G dX6_fromTimesValue_19 rfl rfl ?_
        refine zv_iload_n (j := 2) G dX6_fromTimesValue_20 rfl rfl ?_
        refine zv_iconst (v := 1) G dX6_fromTimesValue_21 (by decide) ?_
        refine zv_callVi (as := [za_I y2_4, za_I 1]) G (by decide) rfl rfl (zc_X6_cell l E w y2_4 (1 : Int32) σ ) zk_X6_cell zm_465 rfl ⟨(Nat.le_of_ble_eq_true rfl), (Nat.le_of_ble_eq_true rfl)⟩ ⟨Nat.zero_le _, Nat.zero_le _⟩ (Nat.le_of_ble_eq_true rfl) dX6_fromTimesValue_22 (fun r_22 σ h_22 => ?_)
        subst h_22
        refine zv_imul G dX6_fromTimesValue_25 ?_
        refine zv_iadd G dX6_fromTimesValue_26 ?_
        refine zv_top (fun x_27 e_27 => ?_)
        refine zv_istore_n (lv' := [(1, za_I x_27), (0, za_O 2 w), (2, za_I y2_4)]) G dX6_fromTimesValue_27 rfl (by decide) rfl ?_
        obtain ⟨x_28, e_28⟩ : ∃ y : Int32, y = y2_4 + 1 := ⟨_, rfl⟩
        refine zv_iinc (j := 2) (v := x_28) (lv' := [(2, za_I x_28), (1, za_I x_27), (0, za_O 2 w)]) G dX6_fromTimesValue_28 rfl (by rw [e_28]; rfl) (by decide) rfl ?_
        refine zv_goto (tgt := 4) G dX6_fromTimesValue_31 (by decide) ?_
        refine zv_sub [2, 1, 0] (lv' := [(0, za_O 2 w), (1, za_I x_27), (2, za_I x_28)]) rfl ?_
        exact ih_4 x_27 x_28 (z_meas c_9 e_28 hn_4)
  refine zv_istore_n (lv' := [(2, za_I 0), (1, za_I 0), (0, za_O 2 w)]) G dX6_fromTimesValue_3 rfl (by decide) rfl ?_
  refine zv_sub [2, 1, 0] (lv' := [(0, za_O 2 w), (1, za_I 0), (2, za_I 0)]) rfl ?_
  exact J_4 _ (0 : Int32) (0 : Int32) (Nat.lt_succ_self _)
set_option maxHeartbeats 4000000 in
set_option maxRecDepth 100000 in
theorem zc_X9_years (l : Launch) (E : za_E) (a1 : Int32) (a2 : Int32) (σ0 : za_S)  : zMi l E yX9_years cX9_years 4 (Option.some Jvm.ClassFile.FieldType.int) 8 198 [za_O 0 0, za_I a1, za_I a2] σ0 (fun r σ' => zc σ0 σ') := by
  refine zMi_of [(0, za_O 0 0), (1, za_I a1), (2, za_I a2)] (by decide) rfl rfl (Nat.le_of_ble_eq_true rfl) ?_
  intro ho p e s m args below meth c G hr
  refine zv_gen (R9 := zc σ0) (zc_r σ0) (fun σ hz => ?_)
  refine zv_iload_n (j := 2) G dX9_years_0 rfl rfl ?_
  refine zv_iconst (v := 1) G dX9_years_1 (by decide) ?_
  refine zv_icmp_lt (tgt := 11) G dX9_years_2 (by decide) (fun c_2 => ?_) (fun c_2 => ?_)
  · refine zv_iconst (v := (-1)) G dX9_years_11 (by decide) ?_
    exact zv_iret G hr dX9_years_12 hz
  · refine zv_iload_n (j := 2) G dX9_years_5 rfl rfl ?_
    refine zv_bipush (v := 40) G dX9_years_6 (by decide) ?_
    refine zv_icmp_le (tgt := 13) G dX9_years_8 (by decide) (fun c_8 => ?_) (fun c_8 => ?_)
    · refine zv_aload_n (j := 0) G dX9_years_13 rfl rfl ?_
      refine zv_iload_n (j := 1) G dX9_years_14 rfl rfl ?_
      refine zp_X9_405 G dX9_years_15 ?_
      refine zv_gen (R9 := zc σ0) (zc_t hz (zc_k0 rfl)) (fun σ hz => ?_)
      refine zv_iconst (v := 0) G dX9_years_18 (by decide) ?_
      have J_20 : ∀ (n : Nat) (y3_20 : Int32) (σ : za_S) (hz : zc σ0 σ) (hn_20 : (2147483648 - y3_20.toInt).toNat < n), zV p l e (zRm 8 198) s m args below meth c E (za_A E) 4 0 0 (MQ below (va_Qi (fun r σ' => zc σ0 σ') (zB E) (za_A E)) args s 0 0 (za_A E)) 20 [(0, za_O 0 0), (2, za_I a2), (3, za_I y3_20)] [] σ := by
        intro n
        induction n with
        | zero => intro y3_20 σ hz hn; exact absurd hn (Nat.not_lt_zero _)
        | succ n ih_20 =>
          intro y3_20 σ hz hn_20
          refine zv_iload_n (j := 2) G dX9_years_20 rfl rfl ?_
          refine zv_iload_n (j := 1) G dX9_years_21 rfl rfl ?_
          refine zv_icmp_ge (tgt := 35) G dX9_years_22 (by decide) (fun c_22 => ?_) (fun c_22 => ?_)
          · refine zv_aload_n (j := 0) G dX9_years_35 rfl rfl ?_
            refine zg_X9_40 G dX9_years_36 ?_
            refine zv_aload_n (j := 0) G dX9_years_39 rfl rfl ?_
            refine zg_X9_10 G dX9_years_40 ?_
            refine zg_X9_102 G dX9_years_43 ?_
            refine zv_callVNi (as := []) G (by decide) rfl rfl (zc_X6_allDays l E 2 σ ) zk_X6_allDays zm_812 rfl ⟨(Nat.le_of_ble_eq_true rfl), (Nat.le_of_ble_eq_true rfl)⟩ ⟨Nat.zero_le _, Nat.zero_le _⟩ (Nat.le_of_ble_eq_true rfl) dX9_years_46 (fun r_46 σ h_46 => ?_)
            subst h_46
            refine zv_aload_n (j := 0) G dX9_years_49 rfl rfl ?_
            refine zg_X9_10 G dX9_years_50 ?_
            refine zg_X9_179 G dX9_years_53 ?_
            refine zv_callVNi (as := []) G (by decide) rfl rfl (zc_X6_allDays l E 4 σ ) zk_X6_allDays zm_812 rfl ⟨(Nat.le_of_ble_eq_true rfl), (Nat.le_of_ble_eq_true rfl)⟩ ⟨Nat.zero_le _, Nat.zero_le _⟩ (Nat.le_of_ble_eq_true rfl) dX9_years_56 (fun r_56 σ h_56 => ?_)
            subst h_56
            refine zv_iadd G dX9_years_59 ?_
            refine zv_i2l G dX9_years_60 ?_
            refine zv_aload_n (j := 0) G dX9_years_61 rfl rfl ?_
            refine zg_X9_10 G dX9_years_62 ?_
            refine zg_X9_102 G dX9_years_65 ?_
            refine zv_callVNi (as := []) G (by decide) rfl rfl (zc_X6_fromTimesValue l E 2 σ ) zk_X6_fromTimesValue zm_1072 rfl ⟨(Nat.le_of_ble_eq_true rfl), (Nat.le_of_ble_eq_true rfl)⟩ ⟨Nat.zero_le _, Nat.zero_le _⟩ (Nat.le_of_ble_eq_true rfl) dX9_years_68 (fun r_68 σ h_68 => ?_)
            subst h_68
            refine zv_aload_n (j := 0) G dX9_years_71 rfl rfl ?_
            refine zg_X9_10 G dX9_years_72 ?_
            refine zg_X9_179 G dX9_years_75 ?_
            refine zv_callVNi (as := []) G (by decide) rfl rfl (zc_X6_fromTimesValue l E 4 σ ) zk_X6_fromTimesValue zm_1072 rfl ⟨(Nat.le_of_ble_eq_true rfl), (Nat.le_of_ble_eq_true rfl)⟩ ⟨Nat.zero_le _, Nat.zero_le _⟩ (Nat.le_of_ble_eq_true rfl) dX9_years_78 (fun r_78 σ h_78 => ?_)
            subst h_78
            refine zv_iadd G dX9_years_81 ?_
            refine zv_i2l G dX9_years_82 ?_
            refine zv_callVNv (as := [za_L ((r_46 + r_56).toInt64), za_L ((r_68 + r_78).toInt64)]) G (by decide) rfl rfl (zc_X8_tell_ l E ((r_46 + r_56).toInt64) ((r_68 + r_78).toInt64) σ ) zk_X8_tell_ zm_608 rfl ⟨(Nat.le_of_ble_eq_true rfl), (Nat.le_of_ble_eq_true rfl)⟩ ⟨Nat.zero_le _, Nat.zero_le _⟩ (Nat.le_of_ble_eq_true rfl) dX9_years_83 (fun σ h_83 => ?_)
            have hz9 := h_83
            have hz := zc_t hz hz9
            refine zv_aload_n (j := 0) G dX9_years_86 rfl rfl ?_
            refine zg_X9_10 G dX9_years_87 ?_
            refine zg_X9_102 G dX9_years_90 ?_
            refine zg_X9_106 G dX9_years_93 ?_
            refine zv_aload_n (j := 0) G dX9_years_96 rfl rfl ?_
            refine zg_X9_10 G dX9_years_97 ?_
            refine zg_X9_179 G dX9_years_100 ?_
            refine zg_X9_106 G dX9_years_103 ?_
            refine zv_iadd G dX9_years_106 ?_
            exact zv_iret G hr dX9_years_107 hz
          · refine zv_aload_n (j := 0) G dX9_years_25 rfl rfl ?_
            refine zv_callVv (as := []) G (by decide) rfl rfl (zc_X9_doDrawnAct l E  σ ) zk_X9_doDrawnAct zm_1063 rfl ⟨(Nat.le_of_ble_eq_true rfl), (Nat.le_of_ble_eq_true rfl)⟩ ⟨Nat.zero_le _, Nat.zero_le _⟩ (Nat.le_of_ble_eq_true rfl) dX9_years_26 (fun σ h_26 => ?_)
            have hz9 := h_26
            have hz := zc_t hz hz9
            obtain ⟨x_29, e_29⟩ : ∃ y : Int32, y = y3_20 + 1 := ⟨_, rfl⟩
            refine zv_iinc (j := 2) (v := x_29) (lv' := [(3, za_I x_29), (0, za_O 0 0), (2, za_I a2)]) G dX9_years_29 rfl (by rw [e_29]; rfl) (by decide) rfl ?_
            refine zv_goto (tgt := 20) G dX9_years_32 (by decide) ?_
            refine zv_sub [1, 2, 0] (lv' := [(0, za_O 0 0), (2, za_I a2), (3, za_I x_29)]) rfl ?_
            exact ih_20 x_29 σ hz (z_meas c_22 e_29 hn_20)
      refine zv_istore_n (lv' := [(3, za_I 0), (0, za_O 0 0), (1, za_I a1), (2, za_I a2)]) G dX9_years_19 rfl (by decide) rfl ?_
      refine zv_sub [1, 3, 0] (lv' := [(0, za_O 0 0), (2, za_I a2), (3, za_I 0)]) rfl ?_
      exact J_20 _ (0 : Int32) σ hz (Nat.lt_succ_self _)
    · refine zv_iconst (v := (-1)) G dX9_years_11 (by decide) ?_
      exact zv_iret G hr dX9_years_12 hz
set_option maxHeartbeats 4000000 in
set_option maxRecDepth 100000 in
theorem zc_X6_rowsWithRef (l : Launch) (E : za_E) (w : Nat) (σ : za_S)  : zMi l E yX6_rowsWithRef cX6_rowsWithRef 3 (Option.some Jvm.ClassFile.FieldType.int) 3 64 [za_O 2 w] σ (fun r σ' => σ' = σ) := by
  refine zMi_of [(0, za_O 2 w)] (by decide) rfl rfl (Nat.le_of_ble_eq_true rfl) ?_
  intro ho p e s m args below meth c G hr
  have h_w : za_kd w = 2 := za_okO (by decide) (List.forall_mem_cons.mp ho).1
  refine zv_iconst (v := 0) G dX6_rowsWithRef_0 (by decide) ?_
  refine zv_istore_n (lv' := [(1, za_I 0), (0, za_O 2 w)]) G dX6_rowsWithRef_1 rfl (by decide) rfl ?_
  refine zv_iconst (v := 0) G dX6_rowsWithRef_2 (by decide) ?_
  have J_4 : ∀ (n : Nat) (y1_4 : Int32) (y2_4 : Int32) (hn_4 : (2147483648 - y2_4.toInt).toNat < n), zV p l e (zRm 3 64) s m args below meth c E (za_A E) 3 0 0 (MQ below (va_Qi (fun r σ' => σ' = σ) (zB E) (za_A E)) args s 0 0 (za_A E)) 4 [(0, za_O 2 w), (1, za_I y1_4), (2, za_I y2_4)] [] σ := by
    intro n
    induction n with
    | zero => intro y1_4 y2_4 hn; exact absurd hn (Nat.not_lt_zero _)
    | succ n ih_4 =>
      intro y1_4 y2_4 hn_4
      refine zv_iload_n (j := 2) G dX6_rowsWithRef_4 rfl rfl ?_
      refine zv_aload_n (j := 0) G dX6_rowsWithRef_5 rfl rfl ?_
      refine zg_X6_15 G dX6_rowsWithRef_6 ?_
      refine zv_icmp_ge (tgt := 32) G dX6_rowsWithRef_9 (by decide) (fun c_9 => ?_) (fun c_9 => ?_)
      · refine zv_iload_n (j := 1) G dX6_rowsWithRef_32 rfl rfl ?_
        exact zv_iret G hr dX6_rowsWithRef_33 rfl
      · refine zv_aload_n (j := 0) G dX6_rowsWithRef_12 rfl rfl ?_
        refine zv_iload_n (j := 2) G dX6_rowsWithRef_13 rfl rfl ?_
        refine zv_iconst (v := 4) G dX6_rowsWithRef_14 (by decide) ?_
        refine zv_callVi (as := [za_I y2_4, za_I 4]) G (by decide) rfl rfl (zc_X6_cell l E w y2_4 (4 : Int32) σ ) zk_X6_cell zm_465 rfl ⟨(Nat.le_of_ble_eq_true rfl), (Nat.le_of_ble_eq_true rfl)⟩ ⟨Nat.zero_le _, Nat.zero_le _⟩ (Nat.le_of_ble_eq_true rfl) dX6_rowsWithRef_15 (fun r_15 σ h_15 => ?_)
        subst h_15
        refine zv_bipush (v := 10) G dX6_rowsWithRef_18 (by decide) ?_
        refine zv_icmp_eq (tgt := 26) G dX6_rowsWithRef_20 (by decide) (fun c_20 => ?_) (fun c_20 => ?_)
        · obtain ⟨x_26, e_26⟩ : ∃ y : Int32, y = y2_4 + 1 := ⟨_, rfl⟩
          refine zv_iinc (j := 2) (v := x_26) (lv' := [(2, za_I x_26), (0, za_O 2 w), (1, za_I y1_4)]) G dX6_rowsWithRef_26 rfl (by rw [e_26]; rfl) (by decide) rfl ?_
          refine zv_goto (tgt := 4) G dX6_rowsWithRef_29 (by decide) ?_
          refine zv_sub [1, 2, 0] (lv' := [(0, za_O 2 w), (1, za_I y1_4), (2, za_I x_26)]) rfl ?_
          exact ih_4 y1_4 x_26 (z_meas c_9 e_26 hn_4)
        · obtain ⟨x_23, e_23⟩ : ∃ y : Int32, y = y1_4 + 1 := ⟨_, rfl⟩
          refine zv_iinc (j := 1) (v := x_23) (lv' := [(1, za_I x_23), (0, za_O 2 w), (2, za_I y2_4)]) G dX6_rowsWithRef_23 rfl (by rw [e_23]; rfl) (by decide) rfl ?_
          obtain ⟨x_26, e_26⟩ : ∃ y : Int32, y = y2_4 + 1 := ⟨_, rfl⟩
          refine zv_iinc (j := 2) (v := x_26) (lv' := [(2, za_I x_26), (1, za_I x_23), (0, za_O 2 w)]) G dX6_rowsWithRef_26 rfl (by rw [e_26]; rfl) (by decide) rfl ?_
          refine zv_goto (tgt := 4) G dX6_rowsWithRef_29 (by decide) ?_
          refine zv_sub [2, 1, 0] (lv' := [(0, za_O 2 w), (1, za_I x_23), (2, za_I x_26)]) rfl ?_
          exact ih_4 x_23 x_26 (z_meas c_9 e_26 hn_4)
  refine zv_istore_n (lv' := [(2, za_I 0), (1, za_I 0), (0, za_O 2 w)]) G dX6_rowsWithRef_3 rfl (by decide) rfl ?_
  refine zv_sub [2, 1, 0] (lv' := [(0, za_O 2 w), (1, za_I 0), (2, za_I 0)]) rfl ?_
  exact J_4 _ (0 : Int32) (0 : Int32) (Nat.lt_succ_self _)
set_option maxHeartbeats 4000000 in
set_option maxRecDepth 100000 in
theorem zc_X9_count (l : Launch) (E : za_E) (a1 : Int32) (σ : za_S)  : zMi l E yX9_count cX9_count 2 (Option.some Jvm.ClassFile.FieldType.int) 5 107 [za_O 0 0, za_I a1] σ (fun r σ' => σ' = σ) := by
  refine zMi_of [(0, za_O 0 0), (1, za_I a1)] (by decide) rfl rfl (Nat.le_of_ble_eq_true rfl) ?_
  intro ho p e s m args below meth c G hr
  refine zv_iload_n (j := 1) G dX9_count_0 rfl rfl ?_
  rcases Decidable.em (a1 = 0) with q_1_0 | q_1_0
  · refine zv_tabIn (off := 55) (tgt := 56) G dX9_count_1 (by rw [q_1_0]; decide) (by rw [q_1_0]; decide) (by rw [q_1_0]; rfl) (by decide) ?_
    refine zv_aload_n (j := 0) G dX9_count_56 rfl rfl ?_
    refine zg_X9_10 G dX9_count_57 ?_
    refine zg_X9_102 G dX9_count_60 ?_
    refine zg_X9_106 G dX9_count_63 ?_
    exact zv_iret G hr dX9_count_66 rfl
  rcases Decidable.em (a1 = 1) with q_1_1 | q_1_1
  · refine zv_tabIn (off := 66) (tgt := 67) G dX9_count_1 (by rw [q_1_1]; decide) (by rw [q_1_1]; decide) (by rw [q_1_1]; rfl) (by decide) ?_
    refine zv_aload_n (j := 0) G dX9_count_67 rfl rfl ?_
    refine zg_X9_10 G dX9_count_68 ?_
    refine zg_X9_179 G dX9_count_71 ?_
    refine zg_X9_106 G dX9_count_74 ?_
    exact zv_iret G hr dX9_count_77 rfl
  rcases Decidable.em (a1 = 2) with q_1_2 | q_1_2
  · refine zv_tabIn (off := 77) (tgt := 78) G dX9_count_1 (by rw [q_1_2]; decide) (by rw [q_1_2]; decide) (by rw [q_1_2]; rfl) (by decide) ?_
    refine zv_aload_n (j := 0) G dX9_count_78 rfl rfl ?_
    refine zg_X9_10 G dX9_count_79 ?_
    refine zg_X9_238 G dX9_count_82 ?_
    exact zv_iret G hr dX9_count_85 rfl
  rcases Decidable.em (a1 = 3) with q_1_3 | q_1_3
  · refine zv_tabIn (off := 85) (tgt := 86) G dX9_count_1 (by rw [q_1_3]; decide) (by rw [q_1_3]; decide) (by rw [q_1_3]; rfl) (by decide) ?_
    refine zv_aload_n (j := 0) G dX9_count_86 rfl rfl ?_
    refine zg_X9_10 G dX9_count_87 ?_
    refine zg_X9_102 G dX9_count_90 ?_
    refine zv_callVNi (as := []) G (by decide) rfl rfl (zc_X6_allDays l E 2 σ ) zk_X6_allDays zm_812 rfl ⟨(Nat.le_of_ble_eq_true rfl), (Nat.le_of_ble_eq_true rfl)⟩ ⟨Nat.zero_le _, Nat.zero_le _⟩ (Nat.le_of_ble_eq_true rfl) dX9_count_93 (fun r_93 σ h_93 => ?_)
    subst h_93
    exact zv_iret G hr dX9_count_96 rfl
  rcases Decidable.em (a1 = 4) with q_1_4 | q_1_4
  · refine zv_tabIn (off := 96) (tgt := 97) G dX9_count_1 (by rw [q_1_4]; decide) (by rw [q_1_4]; decide) (by rw [q_1_4]; rfl) (by decide) ?_
    refine zv_aload_n (j := 0) G dX9_count_97 rfl rfl ?_
    refine zg_X9_10 G dX9_count_98 ?_
    refine zg_X9_179 G dX9_count_101 ?_
    refine zv_callVNi (as := []) G (by decide) rfl rfl (zc_X6_allDays l E 4 σ ) zk_X6_allDays zm_812 rfl ⟨(Nat.le_of_ble_eq_true rfl), (Nat.le_of_ble_eq_true rfl)⟩ ⟨Nat.zero_le _, Nat.zero_le _⟩ (Nat.le_of_ble_eq_true rfl) dX9_count_104 (fun r_104 σ h_104 => ?_)
    subst h_104
    exact zv_iret G hr dX9_count_107 rfl
  rcases Decidable.em (a1 = 5) with q_1_5 | q_1_5
  · refine zv_tabIn (off := 107) (tgt := 108) G dX9_count_1 (by rw [q_1_5]; decide) (by rw [q_1_5]; decide) (by rw [q_1_5]; rfl) (by decide) ?_
    refine zv_aload_n (j := 0) G dX9_count_108 rfl rfl ?_
    refine zg_X9_10 G dX9_count_109 ?_
    refine zg_X9_102 G dX9_count_112 ?_
    refine zv_callVNi (as := []) G (by decide) rfl rfl (zc_X6_rowsWithRef l E 2 σ ) zk_X6_rowsWithRef zm_1088 rfl ⟨(Nat.le_of_ble_eq_true rfl), (Nat.le_of_ble_eq_true rfl)⟩ ⟨Nat.zero_le _, Nat.zero_le _⟩ (Nat.le_of_ble_eq_true rfl) dX9_count_115 (fun r_115 σ h_115 => ?_)
    subst h_115
    exact zv_iret G hr dX9_count_118 rfl
  rcases Decidable.em (a1 = 6) with q_1_6 | q_1_6
  · refine zv_tabIn (off := 118) (tgt := 119) G dX9_count_1 (by rw [q_1_6]; decide) (by rw [q_1_6]; decide) (by rw [q_1_6]; rfl) (by decide) ?_
    refine zv_aload_n (j := 0) G dX9_count_119 rfl rfl ?_
    refine zg_X9_47 G dX9_count_120 ?_
    refine zg_X9_392 G dX9_count_123 ?_
    exact zv_iret G hr dX9_count_126 rfl
  rcases Decidable.em (a1 = 7) with q_1_7 | q_1_7
  · refine zv_tabIn (off := 126) (tgt := 127) G dX9_count_1 (by rw [q_1_7]; decide) (by rw [q_1_7]; decide) (by rw [q_1_7]; rfl) (by decide) ?_
    refine zv_aload_n (j := 0) G dX9_count_127 rfl rfl ?_
    refine zg_X9_22 G dX9_count_128 ?_
    refine zg_X9_186 G dX9_count_131 ?_
    exact zv_iret G hr dX9_count_134 rfl
  rcases Decidable.em (a1 = 8) with q_1_8 | q_1_8
  · refine zv_tabIn (off := 134) (tgt := 135) G dX9_count_1 (by rw [q_1_8]; decide) (by rw [q_1_8]; decide) (by rw [q_1_8]; rfl) (by decide) ?_
    refine zv_aload_n (j := 0) G dX9_count_135 rfl rfl ?_
    refine zg_X9_40 G dX9_count_136 ?_
    refine zg_X9_386 G dX9_count_139 ?_
    exact zv_iret G hr dX9_count_142 rfl
  rcases Decidable.em (a1 = 9) with q_1_9 | q_1_9
  · refine zv_tabIn (off := 142) (tgt := 143) G dX9_count_1 (by rw [q_1_9]; decide) (by rw [q_1_9]; decide) (by rw [q_1_9]; rfl) (by decide) ?_
    refine zv_aload_n (j := 0) G dX9_count_143 rfl rfl ?_
    refine zg_X9_33 G dX9_count_144 ?_
    refine zg_X9_79 G dX9_count_147 ?_
    exact zv_iret G hr dX9_count_150 rfl
  have n_1_0 := lv_neT q_1_0 (a := 0) rfl
  have n_1_1 := lv_neT q_1_1 (a := 1) rfl
  have n_1_2 := lv_neT q_1_2 (a := 2) rfl
  have n_1_3 := lv_neT q_1_3 (a := 3) rfl
  have n_1_4 := lv_neT q_1_4 (a := 4) rfl
  have n_1_5 := lv_neT q_1_5 (a := 5) rfl
  have n_1_6 := lv_neT q_1_6 (a := 6) rfl
  have n_1_7 := lv_neT q_1_7 (a := 7) rfl
  have n_1_8 := lv_neT q_1_8 (a := 8) rfl
  have n_1_9 := lv_neT q_1_9 (a := 9) rfl
  refine zv_tabOut (tgt := 151) G dX9_count_1 (by omega) (by decide) ?_
  refine zv_bipush (v := (-100)) G dX9_count_151 (by decide) ?_
  exact zv_iret G hr dX9_count_153 rfl
set_option maxHeartbeats 4000000 in
set_option maxRecDepth 100000 in
theorem zc_X8_number (l : Launch) (E : za_E) (a1 : Int32) (σ : za_S)  : zMl l E yX8_number cX8_number 2 (Option.some Jvm.ClassFile.FieldType.long) 1 21 [za_O 9 81, za_I a1] σ (fun r σ' => σ' = σ) := by
  refine zMl_of [(0, za_O 9 81), (1, za_I a1)] (by decide) rfl rfl (Nat.le_of_ble_eq_true rfl) ?_
  intro ho p e s m args below meth c G hr
  refine zv_iload_n (j := 1) G dX8_number_0 rfl rfl ?_
  refine zv_if_lt (tgt := 27) G dX8_number_1 (by decide) (fun c_1 => ?_) (fun c_1 => ?_)
  · refine zv_lconst (v := 0) G dX8_number_27 (by decide) ?_
    exact zv_lret G hr dX8_number_28 rfl
  · refine zv_iload_n (j := 1) G dX8_number_4 rfl rfl ?_
    refine zv_aload_n (j := 0) G dX8_number_5 rfl rfl ?_
    refine zg_X8_13 G dX8_number_6 ?_
    refine zv_icmp_ge (tgt := 27) G dX8_number_9 (by decide) (fun c_9 => ?_) (fun c_9 => ?_)
    · refine zv_lconst (v := 0) G dX8_number_27 (by decide) ?_
      exact zv_lret G hr dX8_number_28 rfl
    · refine zv_iload_n (j := 1) G dX8_number_12 rfl rfl ?_
      refine zv_bipush (v := 12) G dX8_number_13 (by decide) ?_
      refine zv_icmp_ge (tgt := 27) G dX8_number_15 (by decide) (fun c_15 => ?_) (fun c_15 => ?_)
      · refine zv_lconst (v := 0) G dX8_number_27 (by decide) ?_
        exact zv_lret G hr dX8_number_28 rfl
      · refine zv_aload_n (j := 0) G dX8_number_18 rfl rfl ?_
        refine zg_X8_9 G dX8_number_19 ?_
        refine zv_iload_n (j := 1) G dX8_number_22 rfl rfl ?_
        refine zv_lald G (by decide) rfl (z_in (z_ge0 c_1) (z_ltk c_15 (n := 12) rfl)) dX8_number_23 ?_
        refine zv_goto (tgt := 28) G dX8_number_24 (by decide) ?_
        exact zv_lret G hr dX8_number_28 rfl
