theorem z_ge0 {x : Int32} (c : ¬ x < 0) : 0 ≤ x.toInt := by
  rw [z_lt] at c
  have h : (0 : Int32).toInt = 0 := by decide
  omega
theorem z_neg {x : Int32} (c : x < 0) : x.toInt < 0 := by
  rw [z_lt] at c
  have h : (0 : Int32).toInt = 0 := by decide
  omega
theorem z_ltk {x k : Int32} {n : Int} (c : ¬ k ≤ x) (h : k.toInt = n) : x.toInt < n := by
  rw [z_le] at c
  omega
theorem z_clamp {r : Int32} {n : Nat} (h1 : 0 ≤ r.toInt) (h2 : r.toInt < n) : r.toNatClampNeg < n := by
  show r.toInt.toNat < n
  omega
theorem z_x11 (a : Int32) : 0 ≤ a ^^^ 11 ↔ 0 ≤ a := by
  have key : ∀ b : Int32, 0 ≤ b ↔ b.toBitVec.msb = false := by
    intro b
    rw [z_le]
    have h0 : (0 : Int32).toInt = 0 := by decide
    rw [h0]
    show 0 ≤ b.toBitVec.toInt ↔ _
    rw [BitVec.toInt_eq_msb_cond]
    have h1 := b.toBitVec.isLt
    cases hm : b.toBitVec.msb
    · simp
    · simp
      omega
  rw [key, key, Int32.toBitVec_xor, BitVec.msb_xor]
  have h11 : (11 : Int32).toBitVec.msb = false := by decide
  rw [h11, Bool.xor_false]
theorem z_tdc (a : Int) : (0 ≤ a ∧ a.tdiv 11 = a / 11) ∨ (a < 0 ∧ a.tdiv 11 = -((-a) / 11)) := by
  rcases Int.lt_or_le a 0 with h | h
  · refine Or.inr ⟨h, ?_⟩
    have h1 := Int.tdiv_eq_ediv_of_nonneg (a := -a) (b := 11) (by omega)
    rw [Int.neg_tdiv] at h1
    omega
  · exact Or.inl ⟨h, Int.tdiv_eq_ediv_of_nonneg h⟩
theorem z_rem11 (a : Int32) : (a - a / 11 * 11).toInt = a.toInt - a.toInt.tdiv 11 * 11 := by
  have h11 : (11 : Int32).toInt = 11 := by decide
  have hr := z_rng a
  have ht := z_tdc a.toInt
  have hd : (a / 11).toInt = a.toInt.tdiv 11 := by
    rw [Int32.toInt_div, h11]
    refine Int.bmod_eq_of_le ?_ ?_ <;> omega
  have hm : (a / 11 * 11).toInt = a.toInt.tdiv 11 * 11 := by
    rw [z_mul (by rw [hd, h11]; omega) (by rw [hd, h11]; omega), hd, h11]
  rw [z_sub (by rw [hm]; omega) (by rw [hm]; omega), hm]
theorem z_fm1 {a x : Int32} (e : x = a - a / 11 * 11) (c : ¬ 0 ≤ a ^^^ 11) (c2 : ¬ x = 0) : 0 ≤ (x + 11).toInt ∧ (x + 11).toInt < 11 := by
  rw [z_x11, z_le] at c
  have h0 : (0 : Int32).toInt = 0 := by decide
  have h11 : (11 : Int32).toInt = 11 := by decide
  have h1 := z_rem11 a
  have ht := z_tdc a.toInt
  rw [← e] at h1
  rw [z_eq, h0] at c2
  rw [h0] at c
  rw [z_add (by rw [h11]; omega) (by rw [h11]; omega), h11]
  omega
theorem z_fm2 {a x : Int32} (e : x = a - a / 11 * 11) (c : 0 ≤ a ^^^ 11) : 0 ≤ x.toInt ∧ x.toInt < 11 := by
  rw [z_x11, z_le] at c
  have h0 : (0 : Int32).toInt = 0 := by decide
  have h1 := z_rem11 a
  have ht := z_tdc a.toInt
  rw [← e] at h1
  rw [h0] at c
  omega
theorem z_fm3 {x : Int32} (c : x = 0) : 0 ≤ x.toInt ∧ x.toInt < 11 := by rw [c]; decide
theorem z_lenT {q : Nat} (h : q < 19) : (Int32.ofNat (za_len.getD q 0)).toInt = (za_len.getD q 0 : Nat) := (by decide +kernel : ∀ q, q < 19 → (Int32.ofNat (za_len.getD q 0)).toInt = (za_len.getD q 0 : Nat)) q h
theorem z_len9 {q : Nat} (h : q < 19) : za_len.getD q 0 < 9 := (by decide +kernel : ∀ q, q < 19 → za_len.getD q 0 < 9) q h
theorem z_byt0 : ∀ q, q < 19 → ∀ j, j < 9 → ((((za_byt.getD q []).getD j 0) &&& 255).toUInt32 % 65536).toInt32 = (za_byt.getD q []).getD j 0 ∧ narrow .char (.int ((za_byt.getD q []).getD j 0)) = .int ((za_byt.getD q []).getD j 0) := by decide +kernel
theorem z_byt {q : Nat} (h : q < 19) {j : Nat} (hj : j < za_len.getD q 0) : ((((za_byt.getD q []).getD j 0) &&& 255).toUInt32 % 65536).toInt32 = (za_byt.getD q []).getD j 0 := (z_byt0 q h j (Nat.lt_trans hj (z_len9 h))).1
theorem z_narB {q : Nat} (h : q < 19) {j : Nat} (hj : j < za_len.getD q 0) : narrow .char (.int ((za_byt.getD q []).getD j 0)) = .int ((za_byt.getD q []).getD j 0) := (z_byt0 q h j (Nat.lt_trans hj (z_len9 h))).2
theorem z_narC {q : Nat} (h : q < 19) {j : Nat} (hj : j < za_len.getD q 0) : narrow .char (.int ((((za_byt.getD q []).getD j 0) &&& 255).toUInt32 % 65536).toInt32) = .int ((((za_byt.getD q []).getD j 0) &&& 255).toUInt32 % 65536).toInt32 := by
  rw [z_byt h hj]
  exact z_narB h hj
theorem z_mx0 {x a : Int32} (e : x = if a < (0 : Int32) then (0 : Int32) else a) : 0 ≤ x.toInt := by
  rw [e]
  split
  · decide
  · rename_i h
    exact z_ge0 h
theorem z_mnl {x a b : Int32} (e : x = if b < a then b else a) : x.toInt ≤ b.toInt := by
  rw [e]
  split
  · omega
  · rename_i h
    rw [z_lt] at h
    omega
set_option maxHeartbeats 4000000 in
set_option maxRecDepth 100000 in
theorem zc_J6_bitCount_0f7a4 (l : Launch) (E : za_E) (a1 : Int32) (σ : za_S)  : zMi l E yJ6_bitCount_0f7a4 cJ6_bitCount_0f7a4 1 (Option.some Jvm.ClassFile.FieldType.int) 1 21 [za_I a1] σ (fun r σ' => σ' = σ) := by
  refine zMiF_of [(0, za_I a1)] (by decide +kernel) rfl rfl (Nat.le_of_ble_eq_true rfl) ?_
  intro ho p e s m args below meth c G hr
  refine zv_iload_n (j := 0) G dJ6_bitCount_0f7a4_0 rfl rfl ?_
  refine zv_iload_n (j := 0) G dJ6_bitCount_0f7a4_1 rfl rfl ?_
  refine zv_iconst (v := 1) G dJ6_bitCount_0f7a4_2 (by decide) ?_
  refine zv_iushr G dJ6_bitCount_0f7a4_3 ?_
  refine zv_ldc_w (v := 1431655765) G dJ6_bitCount_0f7a4_4 zm_1005 ?_
  refine zv_iand G dJ6_bitCount_0f7a4_7 ?_
  refine zv_isub G dJ6_bitCount_0f7a4_8 ?_
  refine zv_top (fun x_9 e_9 => ?_)
  refine zv_istore_n (lv' := [(0, za_I x_9)]) G dJ6_bitCount_0f7a4_9 rfl (by decide) rfl ?_
  refine zv_iload_n (j := 0) G dJ6_bitCount_0f7a4_10 rfl rfl ?_
  refine zv_ldc_w (v := 858993459) G dJ6_bitCount_0f7a4_11 zm_1006 ?_
  refine zv_iand G dJ6_bitCount_0f7a4_14 ?_
  refine zv_iload_n (j := 0) G dJ6_bitCount_0f7a4_15 rfl rfl ?_
  refine zv_iconst (v := 2) G dJ6_bitCount_0f7a4_16 (by decide) ?_
  refine zv_iushr G dJ6_bitCount_0f7a4_17 ?_
  refine zv_ldc_w (v := 858993459) G dJ6_bitCount_0f7a4_18 zm_1006 ?_
  refine zv_iand G dJ6_bitCount_0f7a4_21 ?_
  refine zv_iadd G dJ6_bitCount_0f7a4_22 ?_
  refine zv_top (fun x_23 e_23 => ?_)
  refine zv_istore_n (lv' := [(0, za_I x_23)]) G dJ6_bitCount_0f7a4_23 rfl (by decide) rfl ?_
  refine zv_iload_n (j := 0) G dJ6_bitCount_0f7a4_24 rfl rfl ?_
  refine zv_iload_n (j := 0) G dJ6_bitCount_0f7a4_25 rfl rfl ?_
  refine zv_iconst (v := 4) G dJ6_bitCount_0f7a4_26 (by decide) ?_
  refine zv_iushr G dJ6_bitCount_0f7a4_27 ?_
  refine zv_iadd G dJ6_bitCount_0f7a4_28 ?_
  refine zv_ldc_w (v := 252645135) G dJ6_bitCount_0f7a4_29 zm_1007 ?_
  refine zv_iand G dJ6_bitCount_0f7a4_32 ?_
  refine zv_top (fun x_33 e_33 => ?_)
  refine zv_istore_n (lv' := [(0, za_I x_33)]) G dJ6_bitCount_0f7a4_33 rfl (by decide) rfl ?_
  refine zv_iload_n (j := 0) G dJ6_bitCount_0f7a4_34 rfl rfl ?_
  refine zv_iload_n (j := 0) G dJ6_bitCount_0f7a4_35 rfl rfl ?_
  refine zv_bipush (v := 8) G dJ6_bitCount_0f7a4_36 (by decide) ?_
  refine zv_iushr G dJ6_bitCount_0f7a4_38 ?_
  refine zv_iadd G dJ6_bitCount_0f7a4_39 ?_
  refine zv_top (fun x_40 e_40 => ?_)
  refine zv_istore_n (lv' := [(0, za_I x_40)]) G dJ6_bitCount_0f7a4_40 rfl (by decide) rfl ?_
  refine zv_iload_n (j := 0) G dJ6_bitCount_0f7a4_41 rfl rfl ?_
  refine zv_iload_n (j := 0) G dJ6_bitCount_0f7a4_42 rfl rfl ?_
  refine zv_bipush (v := 16) G dJ6_bitCount_0f7a4_43 (by decide) ?_
  refine zv_iushr G dJ6_bitCount_0f7a4_45 ?_
  refine zv_iadd G dJ6_bitCount_0f7a4_46 ?_
  refine zv_top (fun x_47 e_47 => ?_)
  refine zv_istore_n (lv' := [(0, za_I x_47)]) G dJ6_bitCount_0f7a4_47 rfl (by decide) rfl ?_
  refine zv_iload_n (j := 0) G dJ6_bitCount_0f7a4_48 rfl rfl ?_
  refine zv_bipush (v := 63) G dJ6_bitCount_0f7a4_49 (by decide) ?_
  refine zv_iand G dJ6_bitCount_0f7a4_51 ?_
  exact zv_iret G hr dJ6_bitCount_0f7a4_52 rfl
set_option maxHeartbeats 4000000 in
set_option maxRecDepth 100000 in
theorem zc_J9_floorMod_7cf53 (l : Launch) (E : za_E) (a1 : Int32) (σ : za_S)  : zMi l E yJ9_floorMod_7cf53 cJ9_floorMod_7cf53 3 (Option.some Jvm.ClassFile.FieldType.int) 1 21 [za_I a1, za_I 11] σ (fun r σ' => (0 ≤ r.toInt ∧ r.toInt < 11) ∧ σ' = σ) := by
  refine zMiF_of [(0, za_I a1), (1, za_I 11)] (by decide +kernel) rfl rfl (Nat.le_of_ble_eq_true rfl) ?_
  intro ho p e s m args below meth c G hr
  refine zv_iload_n (j := 0) G dJ9_floorMod_7cf53_0 rfl rfl ?_
  refine zv_iload_n (j := 1) G dJ9_floorMod_7cf53_1 rfl rfl ?_
  refine zv_irem G dJ9_floorMod_7cf53_2 (by decide) ?_
  refine zv_top (fun x_3 e_3 => ?_)
  refine zv_istore_n (lv' := [(2, za_I x_3), (0, za_I a1), (1, za_I 11)]) G dJ9_floorMod_7cf53_3 rfl (by decide) rfl ?_
  refine zv_iload_n (j := 1) G dJ9_floorMod_7cf53_4 rfl rfl ?_
  refine zv_iload_n (j := 2) G dJ9_floorMod_7cf53_5 rfl rfl ?_
  refine zv_ixor G dJ9_floorMod_7cf53_6 ?_
  refine zv_if_ge (tgt := 18) G dJ9_floorMod_7cf53_7 (by decide) (fun c_7 => ?_) (fun c_7 => ?_)
  · refine zv_iload_n (j := 0) G dJ9_floorMod_7cf53_18 rfl rfl ?_
    exact zv_iret G hr dJ9_floorMod_7cf53_19 ⟨(by first | exact z_fm2 e_3 c_7 | exact z_fm3 c_11), rfl⟩
  · refine zv_iload_n (j := 0) G dJ9_floorMod_7cf53_10 rfl rfl ?_
    refine zv_if_eq (tgt := 18) G dJ9_floorMod_7cf53_11 (by decide) (fun c_11 => ?_) (fun c_11 => ?_)
    · refine zv_iload_n (j := 0) G dJ9_floorMod_7cf53_18 rfl rfl ?_
      exact zv_iret G hr dJ9_floorMod_7cf53_19 ⟨(by first | exact z_fm2 e_3 c_7 | exact z_fm3 c_11), rfl⟩
    · refine zv_iload_n (j := 0) G dJ9_floorMod_7cf53_14 rfl rfl ?_
      refine zv_iload_n (j := 2) G dJ9_floorMod_7cf53_15 rfl rfl ?_
      refine zv_iadd G dJ9_floorMod_7cf53_16 ?_
      exact zv_iret G hr dJ9_floorMod_7cf53_17 ⟨(z_fm1 e_3 c_7 c_11), rfl⟩
set_option maxHeartbeats 4000000 in
set_option maxRecDepth 100000 in
theorem zc_J0_isLatin1_aae02 (l : Launch) (E : za_E) (w : Nat) (σ : za_S)  : zMi l E yJ0_isLatin1_aae02 cJ0_isLatin1_aae02 1 (Option.some Jvm.ClassFile.FieldType.boolean) 1 21 [za_O 50 w] σ (fun r σ' => (r = 1) ∧ σ' = σ) := by
  refine zMiF_of [(0, za_O 50 w)] (by decide +kernel) rfl rfl (Nat.le_of_ble_eq_true rfl) ?_
  intro ho p e s m args below meth c G hr
  refine zv_gstat G zm_691 dJ0_isLatin1_aae02_0 ?_
  refine zv_if_eq (tgt := 17) G dJ0_isLatin1_aae02_3 (by decide) (fun c_3 => ?_) (fun c_3 => ?_)
  · exact absurd c_3 (by decide)
  · refine zv_aload_n (j := 0) G dJ0_isLatin1_aae02_6 rfl rfl ?_
    refine zv_scod G zm_1751 dJ0_isLatin1_aae02_7 ?_
    refine zv_if_ne (tgt := 17) G dJ0_isLatin1_aae02_10 (by decide) (fun c_10 => ?_) (fun c_10 => ?_)
    · exact absurd c_10 (by decide)
    · refine zv_iconst (v := 1) G dJ0_isLatin1_aae02_13 (by decide) ?_
      refine zv_goto (tgt := 18) G dJ0_isLatin1_aae02_14 (by decide) ?_
      exact zv_zret G hr dJ0_isLatin1_aae02_18 (by decide) ⟨rfl, rfl⟩
set_option maxHeartbeats 4000000 in
set_option maxRecDepth 100000 in
theorem zc_J0_coder_7d493 (l : Launch) (E : za_E) (w : Nat) (σ : za_S)  : zMi l E yJ0_coder_7d493 cJ0_coder_7d493 1 (Option.some Jvm.ClassFile.FieldType.byte) 1 21 [za_O 50 w] σ (fun r σ' => (r = 0) ∧ σ' = σ) := by
  refine zMiF_of [(0, za_O 50 w)] (by decide +kernel) rfl rfl (Nat.le_of_ble_eq_true rfl) ?_
  intro ho p e s m args below meth c G hr
  refine zv_gstat G zm_691 dJ0_coder_7d493_0 ?_
  refine zv_if_eq (tgt := 13) G dJ0_coder_7d493_3 (by decide) (fun c_3 => ?_) (fun c_3 => ?_)
  · exact absurd c_3 (by decide)
  · refine zv_aload_n (j := 0) G dJ0_coder_7d493_6 rfl rfl ?_
    refine zv_scod G zm_1751 dJ0_coder_7d493_7 ?_
    refine zv_goto (tgt := 14) G dJ0_coder_7d493_10 (by decide) ?_
    exact zv_zret G hr dJ0_coder_7d493_14 (by decide) ⟨rfl, rfl⟩
set_option maxHeartbeats 4000000 in
set_option maxRecDepth 100000 in
theorem zc_J0_length_8abf5 (l : Launch) (E : za_E) (w : Nat) (σ : za_S)  : zMi l E yJ0_length_8abf5 cJ0_length_8abf5 1 (Option.some Jvm.ClassFile.FieldType.int) 2 41 [za_O 50 w] σ (fun r σ' => (r = Int32.ofNat (za_len.getD w 0)) ∧ σ' = σ) := by
  refine zMiF_of [(0, za_O 50 w)] (by decide +kernel) rfl rfl (Nat.le_of_ble_eq_true rfl) ?_
  intro ho p e s m args below meth c G hr
  refine zv_aload_n (j := 0) G dJ0_length_8abf5_0 rfl rfl ?_
  refine zv_sval G zm_1750 dJ0_length_8abf5_1 ?_
  refine zv_slen G dJ0_length_8abf5_4 ?_
  refine zv_aload_n (j := 0) G dJ0_length_8abf5_5 rfl rfl ?_
  refine zv_callTi (as := []) G (zc_J0_coder_7d493 l E w σ ) zk_J0_coder_7d493 zm_687 rfl ⟨(Nat.le_of_ble_eq_true rfl), (Nat.le_of_ble_eq_true rfl)⟩ ⟨Nat.zero_le _, Nat.zero_le _⟩ (Nat.le_of_ble_eq_true rfl) dJ0_length_8abf5_6 (fun r_6 σ h_6 => ?_)
  obtain ⟨h_6, rfl⟩ := h_6
  refine zv_ishr G dJ0_length_8abf5_9 ?_
  exact zv_iret G hr dJ0_length_8abf5_10 ⟨(by rw [h_6]; exact sb_shr0 _), rfl⟩
set_option maxHeartbeats 4000000 in
set_option maxRecDepth 100000 in
theorem zc_J0_isEmpty_aae02 (l : Launch) (E : za_E) (w : Nat) (σ : za_S)  : zMi l E yJ0_isEmpty_aae02 cJ0_isEmpty_aae02 1 (Option.some Jvm.ClassFile.FieldType.boolean) 1 21 [za_O 50 w] σ (fun r σ' => (r = 0 ∨ r = 1) ∧ σ' = σ) := by
  refine zMiF_of [(0, za_O 50 w)] (by decide +kernel) rfl rfl (Nat.le_of_ble_eq_true rfl) ?_
  intro ho p e s m args below meth c G hr
  refine zv_aload_n (j := 0) G dJ0_isEmpty_aae02_0 rfl rfl ?_
  refine zv_sval G zm_1750 dJ0_isEmpty_aae02_1 ?_
  refine zv_slen G dJ0_isEmpty_aae02_4 ?_
  refine zv_if_ne (tgt := 12) G dJ0_isEmpty_aae02_5 (by decide) (fun c_5 => ?_) (fun c_5 => ?_)
  · refine zv_iconst (v := 0) G dJ0_isEmpty_aae02_12 (by decide) ?_
    exact zv_zret G hr dJ0_isEmpty_aae02_13 (by decide) ⟨(Or.inl rfl), rfl⟩
  · refine zv_iconst (v := 1) G dJ0_isEmpty_aae02_8 (by decide) ?_
    refine zv_goto (tgt := 13) G dJ0_isEmpty_aae02_9 (by decide) ?_
    exact zv_zret G hr dJ0_isEmpty_aae02_13 (by decide) ⟨(Or.inr rfl), rfl⟩
set_option maxHeartbeats 4000000 in
set_option maxRecDepth 100000 in
theorem zc_J3_checkIndex_8e157 (l : Launch) (E : za_E) (a1 : Int32) (a2 : Int32) (a3 : Nat) (σ : za_S) (h : 0 ≤ a1.toInt ∧ a1.toInt < a2.toInt) : zMi l E yJ3_checkIndex_8e157 cJ3_checkIndex_8e157 3 (Option.some Jvm.ClassFile.FieldType.int) 1 21 [za_I a1, za_I a2, za_O 52 a3] σ (fun r σ' => σ' = σ) := by
  refine zMiF_of [(0, za_I a1), (1, za_I a2), (2, za_O 52 a3)] (by decide +kernel) rfl rfl (Nat.le_of_ble_eq_true rfl) ?_
  intro ho p e s m args below meth c G hr
  refine zv_iload_n (j := 0) G dJ3_checkIndex_8e157_0 rfl rfl ?_
  refine zv_if_lt (tgt := 9) G dJ3_checkIndex_8e157_1 (by decide) (fun c_1 => ?_) (fun c_1 => ?_)
  · exact absurd (z_neg c_1) (by omega)
  · refine zv_iload_n (j := 0) G dJ3_checkIndex_8e157_4 rfl rfl ?_
    refine zv_iload_n (j := 1) G dJ3_checkIndex_8e157_5 rfl rfl ?_
    refine zv_icmp_lt (tgt := 16) G dJ3_checkIndex_8e157_6 (by decide) (fun c_6 => ?_) (fun c_6 => ?_)
    · refine zv_iload_n (j := 0) G dJ3_checkIndex_8e157_16 rfl rfl ?_
      exact zv_iret G hr dJ3_checkIndex_8e157_17 rfl
    · exact absurd h.2 (by rw [z_lt] at c_6; exact c_6)
set_option maxHeartbeats 4000000 in
set_option maxRecDepth 100000 in
theorem zc_J0_checkIndex_df160 (l : Launch) (E : za_E) (a1 : Int32) (a2 : Int32) (σ : za_S) (h : 0 ≤ a1.toInt ∧ a1.toInt < a2.toInt) : zMv l E yJ0_checkIndex_df160 cJ0_checkIndex_df160 2 (Option.none : Option Jvm.ClassFile.FieldType) 2 43 [za_I a1, za_I a2] σ (fun σ' => σ' = σ) := by
  refine zMvF_of [(0, za_I a1), (1, za_I a2)] (by decide +kernel) rfl rfl (Nat.le_of_ble_eq_true rfl) ?_
  intro ho p e s m args below meth c G hr
  refine zv_iload_n (j := 0) G dJ0_checkIndex_df160_0 rfl rfl ?_
  refine zv_iload_n (j := 1) G dJ0_checkIndex_df160_1 rfl rfl ?_
  refine zv_gfmt G zm_707 dJ0_checkIndex_df160_2 (fun f_2 => ?_)
  refine zv_callSi (as := [za_I a1, za_I a2, za_O 52 f_2]) G (zc_J3_checkIndex_8e157 l E a1 a2 f_2 σ h) zk_J3_checkIndex_8e157 zm_709 rfl ⟨(Nat.le_of_ble_eq_true rfl), (Nat.le_of_ble_eq_true rfl)⟩ ⟨Nat.zero_le _, Nat.zero_le _⟩ (Nat.le_of_ble_eq_true rfl) dJ0_checkIndex_df160_5 (fun r_5 σ h_5 => ?_)
  subst h_5
  refine zv_popI G dJ0_checkIndex_df160_8 ?_
  exact zv_vret G hr dJ0_checkIndex_df160_9 rfl
set_option maxHeartbeats 4000000 in
set_option maxRecDepth 100000 in
theorem zc_J1_charAt_3b067 (l : Launch) (E : za_E) (a1 : Nat) (a2 : Int32) (σ : za_S) (h : 0 ≤ a2.toInt ∧ a2.toInt < (Int32.ofNat (za_len.getD a1 0)).toInt) : zMi l E yJ1_charAt_3b067 cJ1_charAt_3b067 2 (Option.some Jvm.ClassFile.FieldType.char) 3 64 [za_O 51 a1, za_I a2] σ (fun r σ' => (r = (za_byt.getD a1 []).getD a2.toNatClampNeg 0) ∧ σ' = σ) := by
  refine zMiF_of [(0, za_O 51 a1), (1, za_I a2)] (by decide +kernel) rfl rfl (Nat.le_of_ble_eq_true rfl) ?_
  intro ho p e s m args below meth c G hr
  have hq : a1 < 19 := (List.forall_mem_cons.mp ho).1
  refine zv_iload_n (j := 1) G dJ1_charAt_3b067_0 rfl rfl ?_
  refine zv_aload_n (j := 0) G dJ1_charAt_3b067_1 rfl rfl ?_
  refine zv_slen G dJ1_charAt_3b067_2 ?_
  refine zv_callSv (as := [za_I a2, za_I (Int32.ofNat (za_len.getD a1 0))]) G (zc_J0_checkIndex_df160 l E a2 (Int32.ofNat (za_len.getD a1 0)) σ h) zk_J0_checkIndex_df160 zm_704 rfl ⟨(Nat.le_of_ble_eq_true rfl), (Nat.le_of_ble_eq_true rfl)⟩ ⟨Nat.zero_le _, Nat.zero_le _⟩ (Nat.le_of_ble_eq_true rfl) dJ1_charAt_3b067_3 (fun σ h_3 => ?_)
  subst h_3
  refine zv_aload_n (j := 0) G dJ1_charAt_3b067_6 rfl rfl ?_
  refine zv_iload_n (j := 1) G dJ1_charAt_3b067_7 rfl rfl ?_
  refine zv_sbyte G (z_in h.1 (z_lenT hq ▸ h.2)) dJ1_charAt_3b067_8 ?_
  refine zv_sipush (v := 255) G dJ1_charAt_3b067_9 (by decide) ?_
  refine zv_iand G dJ1_charAt_3b067_12 ?_
  refine zv_i2c G dJ1_charAt_3b067_13 ?_
  exact zv_zret G hr dJ1_charAt_3b067_14 (z_narC hq (z_clamp h.1 (z_lenT hq ▸ h.2))) ⟨(z_byt hq (z_clamp h.1 (z_lenT hq ▸ h.2))), rfl⟩
set_option maxHeartbeats 4000000 in
set_option maxRecDepth 100000 in
theorem zc_J0_charAt_5068e (l : Launch) (E : za_E) (w : Nat) (a1 : Int32) (σ : za_S) (h : 0 ≤ a1.toInt ∧ a1.toInt < (Int32.ofNat (za_len.getD w 0)).toInt) : zMi l E yJ0_charAt_5068e cJ0_charAt_5068e 2 (Option.some Jvm.ClassFile.FieldType.char) 4 85 [za_O 50 w, za_I a1] σ (fun r σ' => (r = (za_byt.getD w []).getD a1.toNatClampNeg 0) ∧ σ' = σ) := by
  refine zMiF_of [(0, za_O 50 w), (1, za_I a1)] (by decide +kernel) rfl rfl (Nat.le_of_ble_eq_true rfl) ?_
  intro ho p e s m args below meth c G hr
  have hq : w < 19 := (List.forall_mem_cons.mp ho).1
  refine zv_aload_n (j := 0) G dJ0_charAt_5068e_0 rfl rfl ?_
  refine zv_callTi (as := []) G (zc_J0_isLatin1_aae02 l E w σ ) zk_J0_isLatin1_aae02 zm_697 rfl ⟨(Nat.le_of_ble_eq_true rfl), (Nat.le_of_ble_eq_true rfl)⟩ ⟨Nat.zero_le _, Nat.zero_le _⟩ (Nat.le_of_ble_eq_true rfl) dJ0_charAt_5068e_1 (fun r_1 σ h_1 => ?_)
  obtain ⟨h_1, rfl⟩ := h_1
  refine zv_if_eq (tgt := 16) G dJ0_charAt_5068e_4 (by decide) (fun c_4 => ?_) (fun c_4 => ?_)
  · exact absurd c_4 (by rw [h_1]; decide)
  · refine zv_aload_n (j := 0) G dJ0_charAt_5068e_7 rfl rfl ?_
    refine zv_sval G zm_1750 dJ0_charAt_5068e_8 ?_
    refine zv_iload_n (j := 1) G dJ0_charAt_5068e_11 rfl rfl ?_
    refine zv_callSi (as := [za_O 51 w, za_I a1]) G (zc_J1_charAt_3b067 l E w a1 σ h) zk_J1_charAt_3b067 zm_701 rfl ⟨(Nat.le_of_ble_eq_true rfl), (Nat.le_of_ble_eq_true rfl)⟩ ⟨Nat.zero_le _, Nat.zero_le _⟩ (Nat.le_of_ble_eq_true rfl) dJ0_charAt_5068e_12 (fun r_12 σ h_12 => ?_)
    obtain ⟨h_12, rfl⟩ := h_12
    exact zv_zret G hr dJ0_charAt_5068e_15 (by rw [h_12]; exact z_narB hq (z_clamp h.1 (z_lenT hq ▸ h.2))) ⟨h_12, rfl⟩
set_option maxHeartbeats 4000000 in
set_option maxRecDepth 100000 in
theorem zc_J1_canEncode_9a6ad (l : Launch) (E : za_E) (a1 : Int32) (σ : za_S)  : zMi l E yJ1_canEncode_9a6ad cJ1_canEncode_9a6ad 1 (Option.some Jvm.ClassFile.FieldType.boolean) 1 21 [za_I a1] σ (fun r σ' => (r = 0 ∨ r = 1) ∧ σ' = σ) := by
  refine zMiF_of [(0, za_I a1)] (by decide +kernel) rfl rfl (Nat.le_of_ble_eq_true rfl) ?_
  intro ho p e s m args below meth c G hr
  refine zv_iload_n (j := 0) G dJ1_canEncode_9a6ad_0 rfl rfl ?_
  refine zv_if_lt (tgt := 15) G dJ1_canEncode_9a6ad_1 (by decide) (fun c_1 => ?_) (fun c_1 => ?_)
  · refine zv_iconst (v := 0) G dJ1_canEncode_9a6ad_15 (by decide) ?_
    exact zv_zret G hr dJ1_canEncode_9a6ad_16 (by decide) ⟨(Or.inl rfl), rfl⟩
  · refine zv_iload_n (j := 0) G dJ1_canEncode_9a6ad_4 rfl rfl ?_
    refine zv_sipush (v := 255) G dJ1_canEncode_9a6ad_5 (by decide) ?_
    refine zv_icmp_gt (tgt := 15) G dJ1_canEncode_9a6ad_8 (by decide) (fun c_8 => ?_) (fun c_8 => ?_)
    · refine zv_iconst (v := 0) G dJ1_canEncode_9a6ad_15 (by decide) ?_
      exact zv_zret G hr dJ1_canEncode_9a6ad_16 (by decide) ⟨(Or.inl rfl), rfl⟩
    · refine zv_iconst (v := 1) G dJ1_canEncode_9a6ad_11 (by decide) ?_
      refine zv_goto (tgt := 16) G dJ1_canEncode_9a6ad_12 (by decide) ?_
      exact zv_zret G hr dJ1_canEncode_9a6ad_16 (by decide) ⟨(Or.inr rfl), rfl⟩
set_option maxHeartbeats 4000000 in
set_option maxRecDepth 100000 in
theorem zc_J1_indexOfChar_4cfef (l : Launch) (E : za_E) (a1 : Nat) (a2 : Int32) (a3 : Int32) (a4 : Int32) (σ : za_S) (h : 0 ≤ a3.toInt ∧ a4.toInt ≤ (Int32.ofNat (za_len.getD a1 0)).toInt) : zMi l E yJ1_indexOfChar_4cfef cJ1_indexOfChar_4cfef 6 (Option.some Jvm.ClassFile.FieldType.int) 1 21 [za_O 51 a1, za_I a2, za_I a3, za_I a4] σ (fun r σ' => σ' = σ) := by
  refine zMiF_of [(0, za_O 51 a1), (1, za_I a2), (2, za_I a3), (3, za_I a4)] (by decide +kernel) rfl rfl (Nat.le_of_ble_eq_true rfl) ?_
  intro ho p e s m args below meth c G hr
  have hq : a1 < 19 := (List.forall_mem_cons.mp ho).1
  refine zv_iload_n (j := 1) G dJ1_indexOfChar_4cfef_0 rfl rfl ?_
  refine zv_i2b G dJ1_indexOfChar_4cfef_1 ?_
  refine zv_top (fun x_2 e_2 => ?_)
  refine zv_istore (lv' := [(4, za_I x_2), (0, za_O 51 a1), (1, za_I a2), (2, za_I a3), (3, za_I a4)]) G dJ1_indexOfChar_4cfef_2 (by decide) rfl ?_
  refine zv_iload_n (j := 3) G dJ1_indexOfChar_4cfef_4 rfl rfl ?_
  have J_7 : ∀ (n : Nat) (y5_7 : Int32) (i5_7 : 0 ≤ y5_7.toInt) (hn_7 : (2147483648 - y5_7.toInt).toNat < n), zV p l e (zRm 1 21) s m args below meth c E (za_A E) 6 0 0 (MQ below (va_Qi (fun r σ' => σ' = σ) (zB E) (za_A E)) args s 0 0 (za_A E)) 7 [(0, za_O 51 a1), (3, za_I a4), (4, za_I x_2), (5, za_I y5_7)] [] σ := by
    intro n
    induction n with
    | zero => intro y5_7 i5_7 hn; exact absurd hn (Nat.not_lt_zero _)
    | succ n ih_7 =>
      intro y5_7 i5_7 hn_7
      refine zv_iload (j := 3) G dJ1_indexOfChar_4cfef_7 rfl ?_
      refine zv_iload_n (j := 1) G dJ1_indexOfChar_4cfef_9 rfl rfl ?_
      refine zv_icmp_ge (tgt := 31) G dJ1_indexOfChar_4cfef_10 (by decide) (fun c_10 => ?_) (fun c_10 => ?_)
      · refine zv_iconst (v := (-1)) G dJ1_indexOfChar_4cfef_31 (by decide) ?_
        exact zv_iret G hr dJ1_indexOfChar_4cfef_32 rfl
      · refine zv_aload_n (j := 0) G dJ1_indexOfChar_4cfef_13 rfl rfl ?_
        refine zv_iload (j := 3) G dJ1_indexOfChar_4cfef_14 rfl ?_
        refine zv_sbyte G (z_in i5_7 (by have h1 := h.2; rw [z_lenT hq] at h1; rw [z_le] at c_10; omega)) dJ1_indexOfChar_4cfef_16 ?_
        refine zv_iload (j := 2) G dJ1_indexOfChar_4cfef_17 rfl ?_
        refine zv_icmp_ne (tgt := 25) G dJ1_indexOfChar_4cfef_19 (by decide) (fun c_19 => ?_) (fun c_19 => ?_)
        · obtain ⟨x_25, e_25⟩ : ∃ y : Int32, y = y5_7 + 1 := ⟨_, rfl⟩
          refine zv_iinc (j := 3) (v := x_25) (lv' := [(5, za_I x_25), (0, za_O 51 a1), (3, za_I a4), (4, za_I x_2)]) G dJ1_indexOfChar_4cfef_25 rfl (by rw [e_25]; rfl) (by decide) rfl ?_
          refine zv_goto (tgt := 7) G dJ1_indexOfChar_4cfef_28 (by decide) ?_
          refine zv_sub [1, 2, 3, 0] (lv' := [(0, za_O 51 a1), (3, za_I a4), (4, za_I x_2), (5, za_I x_25)]) rfl ?_
          exact ih_7 x_25 (by have := z_inc c_10 e_25; omega) (z_meas c_10 e_25 hn_7)
        · refine zv_iload (j := 3) G dJ1_indexOfChar_4cfef_22 rfl ?_
          exact zv_iret G hr dJ1_indexOfChar_4cfef_24 rfl
  refine zv_istore (lv' := [(5, za_I a3), (4, za_I x_2), (0, za_O 51 a1), (1, za_I a2), (2, za_I a3), (3, za_I a4)]) G dJ1_indexOfChar_4cfef_5 (by decide) rfl ?_
  refine zv_sub [2, 5, 1, 0] (lv' := [(0, za_O 51 a1), (3, za_I a4), (4, za_I x_2), (5, za_I a3)]) rfl ?_
  exact J_7 _ a3 h.1 (Nat.lt_succ_self _)
set_option maxHeartbeats 4000000 in
set_option maxRecDepth 100000 in
theorem zc_J1_indexOf_4cfef (l : Launch) (E : za_E) (a1 : Nat) (a2 : Int32) (a3 : Int32) (a4 : Int32) (σ : za_S)  : zMi l E yJ1_indexOf_4cfef cJ1_indexOf_4cfef 4 (Option.some Jvm.ClassFile.FieldType.int) 2 46 [za_O 51 a1, za_I a2, za_I a3, za_I a4] σ (fun r σ' => σ' = σ) := by
  refine zMiF_of [(0, za_O 51 a1), (1, za_I a2), (2, za_I a3), (3, za_I a4)] (by decide +kernel) rfl rfl (Nat.le_of_ble_eq_true rfl) ?_
  intro ho p e s m args below meth c G hr
  refine zv_iload_n (j := 1) G dJ1_indexOf_4cfef_0 rfl rfl ?_
  refine zv_callSi (as := [za_I a2]) G (zc_J1_canEncode_9a6ad l E a2 σ ) zk_J1_canEncode_9a6ad zm_953 rfl ⟨(Nat.le_of_ble_eq_true rfl), (Nat.le_of_ble_eq_true rfl)⟩ ⟨Nat.zero_le _, Nat.zero_le _⟩ (Nat.le_of_ble_eq_true rfl) dJ1_indexOf_4cfef_1 (fun r_1 σ h_1 => ?_)
  obtain ⟨h_1, rfl⟩ := h_1
  refine zv_if_ne (tgt := 9) G dJ1_indexOf_4cfef_4 (by decide) (fun c_4 => ?_) (fun c_4 => ?_)
  · refine zv_iload_n (j := 2) G dJ1_indexOf_4cfef_9 rfl rfl ?_
    refine zv_iconst (v := 0) G dJ1_indexOf_4cfef_10 (by decide) ?_
    refine zv_mmax G zm_956 zm_395 zm_147 zm_396 (Nat.le_of_ble_eq_true rfl) (Nat.le_of_ble_eq_true rfl) (Nat.zero_le _) (Nat.zero_le _) dJ1_indexOf_4cfef_11 ?_
    refine zv_top (fun x_11 e_11 => ?_)
    refine zv_istore_n (lv' := [(2, za_I x_11), (0, za_O 51 a1), (1, za_I a2), (3, za_I a4)]) G dJ1_indexOf_4cfef_14 rfl (by decide) rfl ?_
    refine zv_iload_n (j := 3) G dJ1_indexOf_4cfef_15 rfl rfl ?_
    refine zv_aload_n (j := 1) G dJ1_indexOf_4cfef_16 rfl rfl ?_
    refine zv_slen G dJ1_indexOf_4cfef_17 ?_
    refine zv_mmin G zm_957 zm_392 zm_147 zm_393 (Nat.le_of_ble_eq_true rfl) (Nat.le_of_ble_eq_true rfl) (Nat.zero_le _) (Nat.zero_le _) dJ1_indexOf_4cfef_18 ?_
    refine zv_top (fun x_18 e_18 => ?_)
    refine zv_istore_n (lv' := [(3, za_I x_18), (2, za_I x_11), (0, za_O 51 a1), (1, za_I a2)]) G dJ1_indexOf_4cfef_21 rfl (by decide) rfl ?_
    refine zv_iload_n (j := 1) G dJ1_indexOf_4cfef_22 rfl rfl ?_
    refine zv_iload_n (j := 0) G dJ1_indexOf_4cfef_23 rfl rfl ?_
    refine zv_icmp_lt (tgt := 29) G dJ1_indexOf_4cfef_24 (by decide) (fun c_24 => ?_) (fun c_24 => ?_)
    · refine zv_aload_n (j := 2) G dJ1_indexOf_4cfef_29 rfl rfl ?_
      refine zv_iload_n (j := 3) G dJ1_indexOf_4cfef_30 rfl rfl ?_
      refine zv_iload_n (j := 1) G dJ1_indexOf_4cfef_31 rfl rfl ?_
      refine zv_iload_n (j := 0) G dJ1_indexOf_4cfef_32 rfl rfl ?_
      refine zv_callSi (as := [za_O 51 a1, za_I a2, za_I x_11, za_I x_18]) G (zc_J1_indexOfChar_4cfef l E a1 a2 x_11 x_18 σ ⟨z_mx0 e_11, z_mnl e_18⟩) zk_J1_indexOfChar_4cfef zm_958 rfl ⟨(Nat.le_of_ble_eq_true rfl), (Nat.le_of_ble_eq_true rfl)⟩ ⟨Nat.zero_le _, Nat.zero_le _⟩ (Nat.le_of_ble_eq_true rfl) dJ1_indexOf_4cfef_33 (fun r_33 σ h_33 => ?_)
      subst h_33
      exact zv_iret G hr dJ1_indexOf_4cfef_36 rfl
    · refine zv_iconst (v := (-1)) G dJ1_indexOf_4cfef_27 (by decide) ?_
      exact zv_iret G hr dJ1_indexOf_4cfef_28 rfl
  · refine zv_iconst (v := (-1)) G dJ1_indexOf_4cfef_7 (by decide) ?_
    exact zv_iret G hr dJ1_indexOf_4cfef_8 rfl
set_option maxHeartbeats 4000000 in
set_option maxRecDepth 100000 in
theorem zc_J0_indexOf_7cf53 (l : Launch) (E : za_E) (w : Nat) (a1 : Int32) (a2 : Int32) (σ : za_S)  : zMi l E yJ0_indexOf_7cf53 cJ0_indexOf_7cf53 3 (Option.some Jvm.ClassFile.FieldType.int) 3 69 [za_O 50 w, za_I a1, za_I a2] σ (fun r σ' => σ' = σ) := by
  refine zMiF_of [(0, za_O 50 w), (1, za_I a1), (2, za_I a2)] (by decide +kernel) rfl rfl (Nat.le_of_ble_eq_true rfl) ?_
  intro ho p e s m args below meth c G hr
  refine zv_aload_n (j := 0) G dJ0_indexOf_7cf53_0 rfl rfl ?_
  refine zv_callTi (as := []) G (zc_J0_isLatin1_aae02 l E w σ ) zk_J0_isLatin1_aae02 zm_697 rfl ⟨(Nat.le_of_ble_eq_true rfl), (Nat.le_of_ble_eq_true rfl)⟩ ⟨Nat.zero_le _, Nat.zero_le _⟩ (Nat.le_of_ble_eq_true rfl) dJ0_indexOf_7cf53_1 (fun r_1 σ h_1 => ?_)
  obtain ⟨h_1, rfl⟩ := h_1
  refine zv_if_eq (tgt := 23) G dJ0_indexOf_7cf53_4 (by decide) (fun c_4 => ?_) (fun c_4 => ?_)
  · exact absurd c_4 (by rw [h_1]; decide)
  · refine zv_aload_n (j := 0) G dJ0_indexOf_7cf53_7 rfl rfl ?_
    refine zv_sval G zm_1750 dJ0_indexOf_7cf53_8 ?_
    refine zv_iload_n (j := 1) G dJ0_indexOf_7cf53_11 rfl rfl ?_
    refine zv_iload_n (j := 2) G dJ0_indexOf_7cf53_12 rfl rfl ?_
    refine zv_aload_n (j := 0) G dJ0_indexOf_7cf53_13 rfl rfl ?_
    refine zv_callTi (as := []) G (zc_J0_length_8abf5 l E w σ ) zk_J0_length_8abf5 zm_949 rfl ⟨(Nat.le_of_ble_eq_true rfl), (Nat.le_of_ble_eq_true rfl)⟩ ⟨Nat.zero_le _, Nat.zero_le _⟩ (Nat.le_of_ble_eq_true rfl) dJ0_indexOf_7cf53_14 (fun r_14 σ h_14 => ?_)
    obtain ⟨h_14, rfl⟩ := h_14
    refine zv_callSi (as := [za_O 51 w, za_I a1, za_I a2, za_I r_14]) G (zc_J1_indexOf_4cfef l E w a1 a2 r_14 σ ) zk_J1_indexOf_4cfef zm_950 rfl ⟨(Nat.le_of_ble_eq_true rfl), (Nat.le_of_ble_eq_true rfl)⟩ ⟨Nat.zero_le _, Nat.zero_le _⟩ (Nat.le_of_ble_eq_true rfl) dJ0_indexOf_7cf53_17 (fun r_17 σ h_17 => ?_)
    subst h_17
    refine zv_goto (tgt := 36) G dJ0_indexOf_7cf53_20 (by decide) ?_
    exact zv_iret G hr dJ0_indexOf_7cf53_36 rfl
set_option maxHeartbeats 4000000 in
set_option maxRecDepth 100000 in
theorem zc_J0_indexOf_0f7a4 (l : Launch) (E : za_E) (w : Nat) (a1 : Int32) (σ : za_S)  : zMi l E yJ0_indexOf_0f7a4 cJ0_indexOf_0f7a4 2 (Option.some Jvm.ClassFile.FieldType.int) 4 91 [za_O 50 w, za_I a1] σ (fun r σ' => σ' = σ) := by
  refine zMiF_of [(0, za_O 50 w), (1, za_I a1)] (by decide +kernel) rfl rfl (Nat.le_of_ble_eq_true rfl) ?_
  intro ho p e s m args below meth c G hr
  refine zv_aload_n (j := 0) G dJ0_indexOf_0f7a4_0 rfl rfl ?_
  refine zv_iload_n (j := 1) G dJ0_indexOf_0f7a4_1 rfl rfl ?_
  refine zv_iconst (v := 0) G dJ0_indexOf_0f7a4_2 (by decide) ?_
  refine zv_callTi (as := [za_I a1, za_I 0]) G (zc_J0_indexOf_7cf53 l E w a1 (0 : Int32) σ ) zk_J0_indexOf_7cf53 zm_945 rfl ⟨(Nat.le_of_ble_eq_true rfl), (Nat.le_of_ble_eq_true rfl)⟩ ⟨Nat.zero_le _, Nat.zero_le _⟩ (Nat.le_of_ble_eq_true rfl) dJ0_indexOf_0f7a4_3 (fun r_3 σ h_3 => ?_)
  subst h_3
  exact zv_iret G hr dJ0_indexOf_0f7a4_6 rfl
