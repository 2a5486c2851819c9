/-! ===== what the reference's calls that only ask leave as it was ===== -/
def zfr (σ0 σ : za_S) : Prop := (∀ w, (w < 93 ∨ w = 99 ∨ w = 102 ∨ 189 ≤ w) → σ.1 w = σ0.1 w ∧ σ.2 w = σ0.2 w) ∧ σ.1 93 4 = σ0.1 93 4 ∧ σ.1 93 17 = σ0.1 93 17 ∧ σ.1 93 32 = σ0.1 93 32
def zkr (σ : za_S) : Prop := (0 ≤ (σ.1 93 15).toInt ∧ (σ.1 93 15).toInt ≤ 9) ∧ 0 ≤ (σ.1 93 16).toInt ∧ (σ.1 93 16).toInt ≤ 99
def zch (σ : za_S) : Prop := ∀ i, i < 20 → 0 ≤ (σ.1 188 i).toInt ∧ (σ.1 188 i).toInt ≤ 19
def zq (b : Int) (σ0 σ : za_S) : Prop := zfr σ0 σ ∧ zkr σ ∧ zch σ ∧ 0 ≤ (σ.1 93 1).toInt ∧ (σ.1 93 1).toInt ≤ b
def zJ (σ : za_S) : Prop := zkr σ ∧ zch σ ∧ (0 ≤ (σ.1 93 1).toInt ∧ (σ.1 93 1).toInt ≤ 12) ∧ (0 ≤ (σ.1 93 17).toInt ∧ (σ.1 93 17).toInt ≤ 10) ∧ (0 ≤ (σ.1 93 32).toInt ∧ (σ.1 93 32).toInt ≤ 12) ∧ (0 ≤ (σ.1 93 4).toInt ∧ (σ.1 93 4).toInt ≤ 80) ∧ zG (σ.1 99) ∧ (∀ k, k < 11 → zG (fun i => σ.1 102 (2001 * k + i))) ∧ ∀ k, k < 2 → zG (fun i => σ.1 190 (2001 * k + i))
theorem zfr_r (σ : za_S) : zfr σ σ := ⟨fun _ _ => ⟨rfl, rfl⟩, rfl, rfl, rfl⟩
theorem zfr_t {a b d : za_S} (h : zfr a b) (k : zfr b d) : zfr a d := ⟨fun w hw => ⟨((k.1 w hw).1).trans (h.1 w hw).1, ((k.1 w hw).2).trans (h.1 w hw).2⟩, k.2.1.trans h.2.1, k.2.2.1.trans h.2.2.1, k.2.2.2.trans h.2.2.2⟩
theorem zq_0 {σ : za_S} (h : zJ σ) : zq 12 σ σ := ⟨zfr_r σ, h.1, h.2.1, h.2.2.1⟩
theorem zq_m {b d : Int} {σ0 σ : za_S} (h : zq b σ0 σ) (hb : b ≤ d) : zq d σ0 σ := ⟨h.1, h.2.1, h.2.2.1, h.2.2.2.1, by have := h.2.2.2.2; omega⟩
theorem zq_tr {b d : Int} {σ0 σ σ' : za_S} (h : zq b σ0 σ) (k : zq d σ σ') : zq d σ0 σ' := ⟨zfr_t h.1 k.1, k.2⟩
theorem zq_p {b : Int} {σ0 σ : za_S} (h : zq b σ0 σ) (hb : b ≤ 23) : 0 ≤ (σ.1 93 1).toInt ∧ (σ.1 93 1).toInt ≤ 23 := ⟨h.2.2.2.1, by have := h.2.2.2.2; omega⟩
theorem zq_now {b : Int} {σ0 σ : za_S} (h : zq b σ0 σ) : σ.1 99 = σ0.1 99 := (h.1.1 99 (by decide)).1
theorem zq_J {σ0 σ : za_S} (hJ : zJ σ0) (h : zq 12 σ0 σ) : zJ σ := by
  obtain ⟨-, -, -, h4, h5, h6, h7, h8, h9⟩ := hJ
  refine ⟨h.2.1, h.2.2.1, h.2.2.2, ?_, ?_, ?_, ?_, ?_, ?_⟩
  · rw [h.1.2.2.1]; exact h4
  · rw [h.1.2.2.2]; exact h5
  · rw [h.1.2.1]; exact h6
  · rw [zq_now h]; exact h7
  · rw [(h.1.1 102 (by decide)).1]; exact h8
  · rw [(h.1.1 190 (by decide)).1]; exact h9
theorem zq_w {b : Int} {σ0 σ : za_S} {w j : Nat} {x : Int32} (h : zq b σ0 σ) (hw : 94 ≤ w ∧ w ≠ 99 ∧ w ≠ 102 ∧ w < 188) : zq b σ0 (za_si σ w j x) := by
  refine ⟨⟨fun w' hw' => ?_, ?_, ?_, ?_⟩, ?_, ?_, ?_⟩
  · rw [(za_si_off w' (by omega)).1, (za_si_off w' (by omega)).2]
    exact h.1.1 w' hw'
  · rw [za_si_ne _ _ (Or.inl (by omega))]; exact h.1.2.1
  · rw [za_si_ne _ _ (Or.inl (by omega))]; exact h.1.2.2.1
  · rw [za_si_ne _ _ (Or.inl (by omega))]; exact h.1.2.2.2
  · unfold zkr
    rw [za_si_ne _ _ (Or.inl (by omega)), za_si_ne _ _ (Or.inl (by omega))]
    exact h.2.1
  · intro i hi
    rw [za_si_ne _ _ (Or.inl (by omega))]
    exact h.2.2.1 i hi
  · rw [za_si_ne _ _ (Or.inl (by omega))]
    exact h.2.2.2
theorem zq_93 {b : Int} {σ0 σ : za_S} {j : Nat} {x : Int32} (h : zq b σ0 σ) (hj : j ≠ 1 ∧ j ≠ 4 ∧ j ≠ 15 ∧ j ≠ 16 ∧ j ≠ 17 ∧ j ≠ 32) : zq b σ0 (za_si σ 93 j x) := by
  refine ⟨⟨fun w' hw' => ?_, ?_, ?_, ?_⟩, ?_, ?_, ?_⟩
  · rw [(za_si_off w' (by omega)).1, (za_si_off w' (by omega)).2]
    exact h.1.1 w' hw'
  · rw [za_si_ne _ _ (Or.inr (by omega))]; exact h.1.2.1
  · rw [za_si_ne _ _ (Or.inr (by omega))]; exact h.1.2.2.1
  · rw [za_si_ne _ _ (Or.inr (by omega))]; exact h.1.2.2.2
  · unfold zkr
    rw [za_si_ne _ _ (Or.inr (by omega)), za_si_ne _ _ (Or.inr (by omega))]
    exact h.2.1
  · intro i hi
    rw [za_si_ne _ _ (Or.inl (by decide))]
    exact h.2.2.1 i hi
  · rw [za_si_ne _ _ (Or.inr (by omega))]
    exact h.2.2.2
theorem zq_tl {b d : Int} {σ0 σ : za_S} {x : Int32} (h : zq b σ0 σ) (hx : 0 ≤ x.toInt ∧ x.toInt ≤ d) : zq d σ0 (za_si σ 93 1 x) := by
  refine ⟨⟨fun w' hw' => ?_, ?_, ?_, ?_⟩, ?_, ?_, ?_⟩
  · rw [(za_si_off w' (by omega)).1, (za_si_off w' (by omega)).2]
    exact h.1.1 w' hw'
  · rw [za_si_ne _ _ (Or.inr (by omega))]; exact h.1.2.1
  · rw [za_si_ne _ _ (Or.inr (by omega))]; exact h.1.2.2.1
  · rw [za_si_ne _ _ (Or.inr (by omega))]; exact h.1.2.2.2
  · unfold zkr
    rw [za_si_ne _ _ (Or.inr (by omega)), za_si_ne _ _ (Or.inr (by omega))]
    exact h.2.1
  · intro i hi
    rw [za_si_ne _ _ (Or.inl (by decide))]
    exact h.2.2.1 i hi
  · rw [za_si_same]
    exact hx
theorem zq_t0 {b : Int} {σ0 σ : za_S} (h : zq b σ0 σ) : zq 0 σ0 (za_si σ 93 1 0) := zq_tl h (by decide)
theorem zq_l {b : Int} {σ0 σ : za_S} {j : Nat} {x : Int64} (h : zq b σ0 σ) : zq b σ0 (za_sl σ 94 j x) := by
  refine ⟨⟨fun w' hw' => ⟨(h.1.1 w' hw').1, ?_⟩, h.1.2⟩, h.2⟩
  rw [(za_sl_off w' (by omega)).2]
  exact (h.1.1 w' hw').2
theorem zq_e {b : Int} {σ0 σ σ' : za_S} {v : Int64} (h : zq b σ0 σ) (e : σ' = za_si (za_sl σ 94 (σ.1 93 1).toNatClampNeg v) 93 1 (σ.1 93 1 + 1)) (hb : b ≤ 23 := by first | decide | omega) : zq (b + 1) σ0 σ' := by
  rw [e]
  refine zq_tl (zq_l h) ?_
  have h1 := h.2.2.2
  rw [z_add (by rw [z_one]; omega) (by rw [z_one]; omega), z_one]
  omega
theorem zq_k {b : Int} {σ0 σ : za_S} {k d : Int32} (h : zq b σ0 σ) (hk : 0 ≤ k.toInt ∧ k.toInt ≤ 9) (hd : 0 ≤ d.toInt ∧ d.toInt ≤ 99) : zq b σ0 (za_si (za_si σ 93 15 k) 93 16 d) := by
  refine ⟨⟨fun w' hw' => ?_, ?_, ?_, ?_⟩, ?_, ?_, ?_⟩
  · rw [(za_si_off w' (by omega)).1, (za_si_off w' (by omega)).2, (za_si_off w' (by omega)).1, (za_si_off w' (by omega)).2]
    exact h.1.1 w' hw'
  · rw [za_si_ne _ _ (Or.inr (by omega)), za_si_ne _ _ (Or.inr (by omega))]; exact h.1.2.1
  · rw [za_si_ne _ _ (Or.inr (by omega)), za_si_ne _ _ (Or.inr (by omega))]; exact h.1.2.2.1
  · rw [za_si_ne _ _ (Or.inr (by omega)), za_si_ne _ _ (Or.inr (by omega))]; exact h.1.2.2.2
  · unfold zkr
    rw [za_si_same, za_si_ne _ _ (Or.inr (by omega)), za_si_same]
    exact ⟨hk, hd⟩
  · intro i hi
    rw [za_si_ne _ _ (Or.inl (by decide)), za_si_ne _ _ (Or.inl (by decide))]
    exact h.2.2.1 i hi
  · rw [za_si_ne _ _ (Or.inr (by omega)), za_si_ne _ _ (Or.inr (by omega))]
    exact h.2.2.2
theorem zq_c {b : Int} {σ0 σ : za_S} {j : Nat} {x : Int32} (h : zq b σ0 σ) (hx : 0 ≤ x.toInt ∧ x.toInt ≤ 19) : zq b σ0 (za_si σ 188 j x) := by
  refine ⟨⟨fun w' hw' => ?_, ?_, ?_, ?_⟩, ?_, ?_, ?_⟩
  · rw [(za_si_off w' (by omega)).1, (za_si_off w' (by omega)).2]
    exact h.1.1 w' hw'
  · rw [za_si_ne _ _ (Or.inl (by omega))]; exact h.1.2.1
  · rw [za_si_ne _ _ (Or.inl (by omega))]; exact h.1.2.2.1
  · rw [za_si_ne _ _ (Or.inl (by omega))]; exact h.1.2.2.2
  · unfold zkr
    rw [za_si_ne _ _ (Or.inl (by omega)), za_si_ne _ _ (Or.inl (by omega))]
    exact h.2.1
  · intro i hi
    by_cases e : i = j
    · subst e
      rw [za_si_same]
      exact hx
    · rw [za_si_ne _ _ (Or.inr e)]
      exact h.2.2.1 i hi
  · rw [za_si_ne _ _ (Or.inl (by omega))]
    exact h.2.2.2
theorem zq_cp {b : Int} {σ0 σ : za_S} {q w n : Nat} (h : zq b σ0 σ) (hw : w = 100 ∨ w = 101) : zq b σ0 (zcp σ q w n) := by
  refine ⟨⟨fun w' hw' => ⟨?_, (h.1.1 w' hw').2⟩, ?_, ?_, ?_⟩, ?_, ?_, ?_⟩
  · rw [zcp_o (by omega)]
    exact (h.1.1 w' hw').1
  · rw [zcp_o (by omega)]; exact h.1.2.1
  · rw [zcp_o (by omega)]; exact h.1.2.2.1
  · rw [zcp_o (by omega)]; exact h.1.2.2.2
  · unfold zkr
    rw [zcp_o (by omega)]
    exact h.2.1
  · intro i hi
    rw [zcp_o (by omega)]
    exact h.2.2.1 i hi
  · rw [zcp_o (by omega)]
    exact h.2.2.2
/-- what seeks says, of the table now -/
def zsn (σ0 : za_S) (t i r : Int32) : Prop := (r = 1 ∧ i.toInt < (zcn (σ0.1 99) t.toInt.toNat : Nat)) ∨ (r = 0 ∧ ¬ i.toInt < (zcn (σ0.1 99) t.toInt.toNat : Nat))
theorem zq_n {b : Int} {σ0 σ σ' : za_S} {t i r : Int32} (h : zq b σ0 σ) (k : (r = 1 ∧ i.toInt < (zcn (σ.1 99) t.toInt.toNat : Nat) ∧ ∃ k d, zsk (σ.1 99) t i k d ∧ σ' = za_si (za_si σ 93 15 k) 93 16 d) ∨ (r = 0 ∧ ¬ i.toInt < (zcn (σ.1 99) t.toInt.toNat : Nat) ∧ σ' = σ)) : zsn σ0 t i r := by
  rw [zq_now h] at k
  rcases k with ⟨h1, h2, -⟩ | ⟨h1, h2, -⟩
  · exact Or.inl ⟨h1, h2⟩
  · exact Or.inr ⟨h1, h2⟩
theorem zq_s {b : Int} {σ0 σ σ' : za_S} {t i r : Int32} (h : zq b σ0 σ) (k : (r = 1 ∧ i.toInt < (zcn (σ.1 99) t.toInt.toNat : Nat) ∧ ∃ k d, zsk (σ.1 99) t i k d ∧ σ' = za_si (za_si σ 93 15 k) 93 16 d) ∨ (r = 0 ∧ ¬ i.toInt < (zcn (σ.1 99) t.toInt.toNat : Nat) ∧ σ' = σ)) : zq b σ0 σ' := by
  rcases k with ⟨-, -, k, d, h1, h2⟩ | ⟨-, -, h2⟩
  · rw [h2]
    exact zq_k h h1.1 h1.2.1.1
  · rw [h2]
    exact h
theorem zsn_20 {σ0 : za_S} {t i r : Int32} (hJ : zJ σ0) (ht : 0 ≤ t.toInt ∧ t.toInt ≤ 1) (n : zsn σ0 t i r) (c : ¬ r = 0) : i.toInt < 20 := by
  have hg := hJ.2.2.2.2.2.2.1.2.2
  have e : t.toInt.toNat = 0 ∨ t.toInt.toNat = 1 := by omega
  rcases n with ⟨-, h⟩ | ⟨h, -⟩
  · have h1 := hg.1
    have h2 := hg.2
    rcases e with e | e <;> rw [e] at h <;> omega
  · exact absurd h c
theorem zGI_q {b : Int} {σ0 σ : za_S} (hJ : zJ σ0) (h : zq b σ0 σ) : zGI (σ.1 99) := by
  rw [zq_now h]
  exact hJ.2.2.2.2.2.2.1.2.1
theorem zq_th {b : Int} {σ0 σ : za_S} {t k d : Int32} (h : zq b σ0 σ) (q : zth (σ0.1 99) t k d) : zth (σ.1 99) t k d := by
  rw [zq_now h]
  exact q
theorem z_dm {y : Int32} (h : 0 ≤ y.toInt) (k : ¬ y.toInt = 0) (b : 0 ≤ y.toInt ∧ y.toInt < 100) : vp_in (y - 1) 100 := by
  have h1 : (y - 1).toInt = y.toInt - 1 := by rw [z_sub (by rw [z_one]; omega) (by rw [z_one]; omega), z_one]
  exact z_in (by omega) (by omega)
theorem z_1t {t : Int32} (h : 0 ≤ t.toInt ∧ t.toInt ≤ 1) : 0 ≤ (1 - t).toInt ∧ (1 - t).toInt ≤ 1 := by
  rw [z_sub (by rw [z_one]; omega) (by rw [z_one]; omega), z_one]
  omega
theorem z_addw {y n : Int32} (c : ¬ (100 : Int32) < y + n) (h1 : 0 ≤ y.toInt) (h2 : y.toInt ≤ 100) (h : (1 : Int64).toInt ≤ n.toInt64.toInt ∧ n.toInt64.toInt ≤ (100 : Int64).toInt) : y.toInt < 100 := by
  have e1 : (1 : Int64).toInt = 1 := by decide
  have e2 : (100 : Int64).toInt = 100 := by decide
  have e3 : (100 : Int32).toInt = 100 := by decide
  rw [z_w, e1, e2] at h
  rw [z_lt, z_add (by omega) (by omega), e3] at c
  omega
theorem z_i2 {a : Int32} (h : (0 : Int64).toInt ≤ a.toInt64.toInt ∧ a.toInt64.toInt ≤ (1 : Int64).toInt) : 0 ≤ a.toInt ∧ a.toInt ≤ 1 := by
  have hL := z_lL
  rw [z_w] at h
  omega
theorem z_kx {a y : Int32} (h : 0 ≤ a.toInt ∧ a.toInt ≤ 1) (b : 0 ≤ y.toInt ∧ y.toInt < 2001) : vp_in (2001 * a + y) 4002 := by
  have e : (2001 : Int32).toInt = 2001 := by decide
  have h1 : (2001 * a).toInt = 2001 * a.toInt := by rw [z_mul (by rw [e]; omega) (by rw [e]; omega), e]
  have h2 : (2001 * a + y).toInt = 2001 * a.toInt + y.toInt := by rw [z_add (by rw [h1]; omega) (by rw [h1]; omega), h1]
  exact z_in (by omega) (by omega)
theorem zq_hm {b : Int} {σ0 σ : za_S} (hJ : zJ σ0) (h : zq b σ0 σ) : 0 ≤ (σ.1 93 32).toInt ∧ (σ.1 93 32).toInt ≤ 12 := by
  rw [h.1.2.2.2]
  exact hJ.2.2.2.2.1
theorem z_rowx {b : Int} {σ0 σ : za_S} {a : Int32} (h : zq b σ0 σ) (t : (0 : Int64).toInt ≤ a.toInt64.toInt ∧ a.toInt64.toInt ≤ (σ.1 93 1 - 1).toInt64.toInt) (hb : b ≤ 12 := by decide) : vp_in a 24 := by
  have hL := z_lL
  rw [z_w, z_w] at t
  have h1 := h.2.2.2
  have h2 : (σ.1 93 1 - 1).toInt = (σ.1 93 1).toInt - 1 := by rw [z_sub (by rw [z_one]; omega) (by rw [z_one]; omega), z_one]
  exact z_in (by omega) (by omega)
set_option maxHeartbeats 4000000 in
set_option maxRecDepth 100000 in
theorem zc_X10_at (l : Launch) (E : za_E) (t : Int32) (k : Int32) (d : Int32) (σ0 : za_S) (hJ : zJ σ0) : zMi l E yX10_at cX10_at 4 (Option.some Jvm.ClassFile.FieldType.int) 6 136 [za_O 19 93, za_I t, za_I k, za_I d] σ0 (fun r σ' => zq 12 σ0 σ') := by
  refine zMi_of [(0, za_O 19 93), (1, za_I t), (2, za_I k), (3, za_I d)] (by decide) rfl rfl (Nat.le_of_ble_eq_true rfl) ?_
  intro ho p e s m args below meth c G hr
  refine zv_gen (R9 := zq 12 σ0) (zq_0 hJ) (fun σ hz => ?_)
  refine zv_aload_n (j := 0) G dX10_at_0 rfl rfl ?_
  refine zv_iconst (v := 0) G dX10_at_1 (by decide) ?_
  refine zp_X10_3 G dX10_at_2 ?_
  refine zv_gen (R9 := zq 12 σ0) (zq_93 hz (by decide)) (fun σ hz => ?_)
  refine zv_iload_n (j := 1) G dX10_at_5 rfl rfl ?_
  refine zv_callSi (as := [za_I t]) G (zc_X10_isTable l E t σ ) zk_X10_isTable zm_1309 rfl ⟨(Nat.le_of_ble_eq_true rfl), (Nat.le_of_ble_eq_true rfl)⟩ ⟨Nat.zero_le _, Nat.zero_le _⟩ (Nat.le_of_ble_eq_true rfl) dX10_at_6 (fun r_6 σ h_6 => ?_)
  obtain ⟨h_6, rfl⟩ := h_6
  refine zv_if_eq (tgt := 26) G dX10_at_9 (by decide) (fun c_9 => ?_) (fun c_9 => ?_)
  · have f_6 := fun q9 => (h_6.2.mpr q9) c_9
    refine zv_iconst (v := (-1)) G dX10_at_26 (by decide) ?_
    exact zv_iret G hr dX10_at_27 (zq_m hz (by first | decide | omega | (have hL := z_lits; omega)))
  · have t_6 := h_6.2.mp c_9
    refine zv_iload_n (j := 2) G dX10_at_12 rfl rfl ?_
    refine zv_callSi (as := [za_I k]) G (zc_X10_isKey l E k σ ) zk_X10_isKey zm_1371 rfl ⟨(Nat.le_of_ble_eq_true rfl), (Nat.le_of_ble_eq_true rfl)⟩ ⟨Nat.zero_le _, Nat.zero_le _⟩ (Nat.le_of_ble_eq_true rfl) dX10_at_13 (fun r_13 σ h_13 => ?_)
    obtain ⟨h_13, rfl⟩ := h_13
    refine zv_if_eq (tgt := 26) G dX10_at_16 (by decide) (fun c_16 => ?_) (fun c_16 => ?_)
    · have f_13 := fun q9 => (h_13.2.mpr q9) c_16
      refine zv_iconst (v := (-1)) G dX10_at_26 (by decide) ?_
      exact zv_iret G hr dX10_at_27 (zq_m hz (by first | decide | omega | (have hL := z_lits; omega)))
    · have t_13 := h_13.2.mp c_16
      refine zv_iload_n (j := 3) G dX10_at_19 rfl rfl ?_
      refine zv_callSi (as := [za_I d]) G (zc_X10_isDay l E d σ ) zk_X10_isDay zm_1323 rfl ⟨(Nat.le_of_ble_eq_true rfl), (Nat.le_of_ble_eq_true rfl)⟩ ⟨Nat.zero_le _, Nat.zero_le _⟩ (Nat.le_of_ble_eq_true rfl) dX10_at_20 (fun r_20 σ h_20 => ?_)
      obtain ⟨h_20, rfl⟩ := h_20
      refine zv_if_ne (tgt := 28) G dX10_at_23 (by decide) (fun c_23 => ?_) (fun c_23 => ?_)
      · have t_20 := h_20.2.mp c_23
        refine zv_aload_n (j := 0) G dX10_at_28 rfl rfl ?_
        refine zg_X10_118 G dX10_at_29 ?_
        refine zv_iload_n (j := 1) G dX10_at_32 rfl rfl ?_
        refine zv_iload_n (j := 2) G dX10_at_33 rfl rfl ?_
        refine zv_iload_n (j := 3) G dX10_at_34 rfl rfl ?_
        refine zv_callSi (as := [za_O 22 99, za_I t, za_I k, za_I d]) G (zc_X10_isThere l E 99 t k d σ (by first | assumption | decide | omega | exact hz.2.1.1 | exact hz.2.1.2) (by first | assumption | decide | omega | exact hz.2.1.1 | exact hz.2.1.2)) zk_X10_isThere zm_1320 rfl ⟨(Nat.le_of_ble_eq_true rfl), (Nat.le_of_ble_eq_true rfl)⟩ ⟨Nat.zero_le _, Nat.zero_le _⟩ (Nat.le_of_ble_eq_true rfl) dX10_at_35 (fun r_35 σ h_35 => ?_)
        obtain ⟨h_35, rfl⟩ := h_35
        refine zv_if_ne (tgt := 44) G dX10_at_38 (by decide) (fun c_38 => ?_) (fun c_38 => ?_)
        · have t_35 := h_35.2.mp c_38
          rw [zq_now hz] at t_35
          refine zv_aload_n (j := 0) G dX10_at_44 rfl rfl ?_
          refine zv_iconst (v := 0) G dX10_at_45 (by decide) ?_
          refine zp_X10_15 G dX10_at_46 ?_
          refine zv_gen (R9 := zq 0 σ0) (zq_t0 hz) (fun σ hz => ?_)
          refine zv_aload_n (j := 0) G dX10_at_49 rfl rfl ?_
          refine zv_aload_n (j := 0) G dX10_at_50 rfl rfl ?_
          refine zg_X10_118 G dX10_at_51 ?_
          refine zv_iload_n (j := 1) G dX10_at_54 rfl rfl ?_
          refine zv_iload_n (j := 2) G dX10_at_55 rfl rfl ?_
          refine zv_iload_n (j := 3) G dX10_at_56 rfl rfl ?_
          refine zv_callSi (as := [za_O 22 99, za_I t, za_I k, za_I d]) G (zc_X10_refOn l E 99 t k d σ (by first | assumption | decide | omega | exact hz.2.1.1 | exact hz.2.1.2) (by first | assumption | decide | omega | exact hz.2.1.1 | exact hz.2.1.2) (by first | assumption | decide | omega | exact hz.2.1.1 | exact hz.2.1.2)) zk_X10_refOn zm_1340 rfl ⟨(Nat.le_of_ble_eq_true rfl), (Nat.le_of_ble_eq_true rfl)⟩ ⟨Nat.zero_le _, Nat.zero_le _⟩ (Nat.le_of_ble_eq_true rfl) dX10_at_57 (fun r_57 σ h_57 => ?_)
          obtain ⟨h_57, rfl⟩ := h_57
          refine zv_i2l G dX10_at_60 ?_
          refine zv_callVv (as := [za_L r_57.toInt64]) G (by decide) rfl rfl (zc_X10_enters l E r_57.toInt64 σ (zq_p hz (by first | decide | omega))) zk_X10_enters zm_1418 rfl ⟨(Nat.le_of_ble_eq_true rfl), (Nat.le_of_ble_eq_true rfl)⟩ ⟨Nat.zero_le _, Nat.zero_le _⟩ (Nat.le_of_ble_eq_true rfl) dX10_at_61 (fun σ h_61 => ?_)
          have hz : zq 1 σ0 σ := zq_e hz h_61
          refine zv_aload_n (j := 0) G dX10_at_64 rfl rfl ?_
          refine zv_aload_n (j := 0) G dX10_at_65 rfl rfl ?_
          refine zg_X10_118 G dX10_at_66 ?_
          refine zv_iload_n (j := 1) G dX10_at_69 rfl rfl ?_
          refine zv_iload_n (j := 2) G dX10_at_70 rfl rfl ?_
          refine zv_iload_n (j := 3) G dX10_at_71 rfl rfl ?_
          refine zv_callSi (as := [za_O 22 99, za_I t, za_I k, za_I d]) G (zc_X10_fromOf l E 99 t k d σ t_6 t_13 (zq_th hz t_35) (zGI_q hJ hz)) zk_X10_fromOf zm_1529 rfl ⟨(Nat.le_of_ble_eq_true rfl), (Nat.le_of_ble_eq_true rfl)⟩ ⟨Nat.zero_le _, Nat.zero_le _⟩ (Nat.le_of_ble_eq_true rfl) dX10_at_72 (fun r_72 σ h_72 => ?_)
          subst h_72
          refine zv_i2l G dX10_at_75 ?_
          refine zv_callVv (as := [za_L r_72.toInt64]) G (by decide) rfl rfl (zc_X10_enters l E r_72.toInt64 σ (zq_p hz (by first | decide | omega))) zk_X10_enters zm_1418 rfl ⟨(Nat.le_of_ble_eq_true rfl), (Nat.le_of_ble_eq_true rfl)⟩ ⟨Nat.zero_le _, Nat.zero_le _⟩ (Nat.le_of_ble_eq_true rfl) dX10_at_76 (fun σ h_76 => ?_)
          have hz : zq 2 σ0 σ := zq_e hz h_76
          refine zv_aload_n (j := 0) G dX10_at_79 rfl rfl ?_
          refine zv_aload_n (j := 0) G dX10_at_80 rfl rfl ?_
          refine zg_X10_118 G dX10_at_81 ?_
          refine zv_iload_n (j := 1) G dX10_at_84 rfl rfl ?_
          refine zv_iload_n (j := 2) G dX10_at_85 rfl rfl ?_
          refine zv_iload_n (j := 3) G dX10_at_86 rfl rfl ?_
          refine zv_callSi (as := [za_O 22 99, za_I t, za_I k, za_I d]) G (zc_X10_toOf l E 99 t k d σ (by first | assumption | decide | omega | exact hz.2.1.1 | exact hz.2.1.2) (by first | assumption | decide | omega | exact hz.2.1.1 | exact hz.2.1.2) (by first | assumption | decide | omega | exact hz.2.1.1 | exact hz.2.1.2)) zk_X10_toOf zm_1337 rfl ⟨(Nat.le_of_ble_eq_true rfl), (Nat.le_of_ble_eq_true rfl)⟩ ⟨Nat.zero_le _, Nat.zero_le _⟩ (Nat.le_of_ble_eq_true rfl) dX10_at_87 (fun r_87 σ h_87 => ?_)
          obtain ⟨h_87, rfl⟩ := h_87
          refine zv_i2l G dX10_at_90 ?_
          refine zv_callVv (as := [za_L r_87.toInt64]) G (by decide) rfl rfl (zc_X10_enters l E r_87.toInt64 σ (zq_p hz (by first | decide | omega))) zk_X10_enters zm_1418 rfl ⟨(Nat.le_of_ble_eq_true rfl), (Nat.le_of_ble_eq_true rfl)⟩ ⟨Nat.zero_le _, Nat.zero_le _⟩ (Nat.le_of_ble_eq_true rfl) dX10_at_91 (fun σ h_91 => ?_)
          have hz : zq 3 σ0 σ := zq_e hz h_91
          refine zv_aload_n (j := 0) G dX10_at_94 rfl rfl ?_
          refine zg_X10_118 G dX10_at_95 ?_
          refine zv_iload_n (j := 1) G dX10_at_98 rfl rfl ?_
          refine zv_iload_n (j := 2) G dX10_at_99 rfl rfl ?_
          refine zv_iload_n (j := 3) G dX10_at_100 rfl rfl ?_
          refine zv_callSi (as := [za_O 22 99, za_I t, za_I k, za_I d]) G (zc_X10_valueOn l E 99 t k d σ (by first | assumption | decide | omega | exact hz.2.1.1 | exact hz.2.1.2) (by first | assumption | decide | omega | exact hz.2.1.1 | exact hz.2.1.2) (by first | assumption | decide | omega | exact hz.2.1.1 | exact hz.2.1.2)) zk_X10_valueOn zm_1334 rfl ⟨(Nat.le_of_ble_eq_true rfl), (Nat.le_of_ble_eq_true rfl)⟩ ⟨Nat.zero_le _, Nat.zero_le _⟩ (Nat.le_of_ble_eq_true rfl) dX10_at_101 (fun r_101 σ h_101 => ?_)
          obtain ⟨h_101, rfl⟩ := h_101
          exact zv_iret G hr dX10_at_104 (zq_m hz (by first | decide | omega | (have hL := z_lits; omega)))
        · have f_35 := fun q9 => (h_35.2.mpr q9) c_38
          refine zv_bipush (v := (-2)) G dX10_at_41 (by decide) ?_
          exact zv_iret G hr dX10_at_43 (zq_m hz (by first | decide | omega | (have hL := z_lits; omega)))
      · have f_20 := fun q9 => (h_20.2.mpr q9) c_23
        refine zv_iconst (v := (-1)) G dX10_at_26 (by decide) ?_
        exact zv_iret G hr dX10_at_27 (zq_m hz (by first | decide | omega | (have hL := z_lits; omega)))
set_option maxHeartbeats 4000000 in
set_option maxRecDepth 100000 in
theorem zc_X10_slice (l : Launch) (E : za_E) (t : Int32) (d : Int32) (σ0 : za_S) (hJ : zJ σ0) : zMi l E yX10_slice cX10_slice 5 (Option.some Jvm.ClassFile.FieldType.int) 4 89 [za_O 19 93, za_I t, za_I d] σ0 (fun r σ' => zq 12 σ0 σ') := by
  refine zMi_of [(0, za_O 19 93), (1, za_I t), (2, za_I d)] (by decide) rfl rfl (Nat.le_of_ble_eq_true rfl) ?_
  intro ho p e s m args below meth c G hr
  refine zv_gen (R9 := zq 12 σ0) (zq_0 hJ) (fun σ hz => ?_)
  refine zv_aload_n (j := 0) G dX10_slice_0 rfl rfl ?_
  refine zv_iconst (v := 0) G dX10_slice_1 (by decide) ?_
  refine zp_X10_3 G dX10_slice_2 ?_
  refine zv_gen (R9 := zq 12 σ0) (zq_93 hz (by decide)) (fun σ hz => ?_)
  refine zv_iload_n (j := 1) G dX10_slice_5 rfl rfl ?_
  refine zv_callSi (as := [za_I t]) G (zc_X10_isTable l E t σ ) zk_X10_isTable zm_1309 rfl ⟨(Nat.le_of_ble_eq_true rfl), (Nat.le_of_ble_eq_true rfl)⟩ ⟨Nat.zero_le _, Nat.zero_le _⟩ (Nat.le_of_ble_eq_true rfl) dX10_slice_6 (fun r_6 σ h_6 => ?_)
  obtain ⟨h_6, rfl⟩ := h_6
  refine zv_if_eq (tgt := 19) G dX10_slice_9 (by decide) (fun c_9 => ?_) (fun c_9 => ?_)
  · have f_6 := fun q9 => (h_6.2.mpr q9) c_9
    refine zv_iconst (v := (-1)) G dX10_slice_19 (by decide) ?_
    exact zv_iret G hr dX10_slice_20 (zq_m hz (by first | decide | omega | (have := z_inc9 (by omega) e_75; omega)))
  · have t_6 := h_6.2.mp c_9
    refine zv_iload_n (j := 2) G dX10_slice_12 rfl rfl ?_
    refine zv_callSi (as := [za_I d]) G (zc_X10_isDay l E d σ ) zk_X10_isDay zm_1323 rfl ⟨(Nat.le_of_ble_eq_true rfl), (Nat.le_of_ble_eq_true rfl)⟩ ⟨Nat.zero_le _, Nat.zero_le _⟩ (Nat.le_of_ble_eq_true rfl) dX10_slice_13 (fun r_13 σ h_13 => ?_)
    obtain ⟨h_13, rfl⟩ := h_13
    refine zv_if_ne (tgt := 21) G dX10_slice_16 (by decide) (fun c_16 => ?_) (fun c_16 => ?_)
    · have t_13 := h_13.2.mp c_16
      refine zv_iconst (v := 0) G dX10_slice_21 (by decide) ?_
      refine zv_istore_n (lv' := [(3, za_I 0), (0, za_O 19 93), (1, za_I t), (2, za_I d)]) G dX10_slice_22 rfl (by decide) rfl ?_
      refine zv_aload_n (j := 1) G dX10_slice_23 rfl rfl ?_
      refine zv_iconst (v := 0) G dX10_slice_24 (by decide) ?_
      refine zp_X10_15 G dX10_slice_25 ?_
      refine zv_gen (R9 := zq 0 σ0) (zq_t0 hz) (fun σ hz => ?_)
      refine zv_iconst (v := 0) G dX10_slice_28 (by decide) ?_
      have J_31 : ∀ (n : Nat) (y3_31 : Int32) (y4_31 : Int32) (σ : za_S) (hz : zq y4_31.toInt σ0 σ) (i4_31 : 0 ≤ y4_31.toInt) (u4_31 : y4_31.toInt ≤ 10) (hn_31 : (2147483648 - y4_31.toInt).toNat < n), zV p l e (zRm 4 89) s m args below meth c E (za_A E) 5 0 0 (MQ below (va_Qi (fun r σ' => zq 12 σ0 σ') (zB E) (za_A E)) args s 0 0 (za_A E)) 31 [(0, za_O 19 93), (1, za_I t), (2, za_I d), (3, za_I y3_31), (4, za_I y4_31)] [] σ := by
        intro n
        induction n with
        | zero => intro y3_31 y4_31 σ hz i4_31 u4_31 hn; exact absurd hn (Nat.not_lt_zero _)
        | succ n ih_31 =>
          intro y3_31 y4_31 σ hz i4_31 u4_31 hn_31
          refine zv_iload (j := 4) G dX10_slice_31 rfl ?_
          refine zv_bipush (v := 10) G dX10_slice_33 (by decide) ?_
          refine zv_icmp_ge (tgt := 81) G dX10_slice_35 (by decide) (fun c_35 => ?_) (fun c_35 => ?_)
          · have k_35 := z_cle c_35 (a := 10) (b := y4_31.toInt) rfl rfl
            refine zv_iload_n (j := 3) G dX10_slice_81 rfl rfl ?_
            exact zv_iret G hr dX10_slice_82 (zq_m hz (by first | decide | omega | (have := z_inc9 (by omega) e_75; omega)))
          · have b_35 : 0 ≤ y4_31.toInt ∧ y4_31.toInt < 10 := ⟨i4_31, z_ltk c_35 rfl⟩
            have k_35 := z_cnle c_35 (a := 10) (b := y4_31.toInt) rfl rfl
            refine zv_aload_n (j := 0) G dX10_slice_38 rfl rfl ?_
            refine zg_X10_118 G dX10_slice_39 ?_
            refine zv_iload_n (j := 1) G dX10_slice_42 rfl rfl ?_
            refine zv_iload (j := 4) G dX10_slice_43 rfl ?_
            refine zv_iload_n (j := 2) G dX10_slice_45 rfl rfl ?_
            refine zv_callSi (as := [za_O 22 99, za_I t, za_I y4_31, za_I d]) G (zc_X10_isThere l E 99 t y4_31 d σ (by first | assumption | decide | omega | exact hz.2.1.1 | exact hz.2.1.2) (by first | assumption | decide | omega | exact hz.2.1.1 | exact hz.2.1.2)) zk_X10_isThere zm_1320 rfl ⟨(Nat.le_of_ble_eq_true rfl), (Nat.le_of_ble_eq_true rfl)⟩ ⟨Nat.zero_le _, Nat.zero_le _⟩ (Nat.le_of_ble_eq_true rfl) dX10_slice_46 (fun r_46 σ h_46 => ?_)
            obtain ⟨h_46, rfl⟩ := h_46
            refine zv_if_eq (tgt := 75) G dX10_slice_49 (by decide) (fun c_49 => ?_) (fun c_49 => ?_)
            · have f_46 := fun q9 => (h_46.2.mpr q9) c_49
              obtain ⟨x_75, e_75⟩ : ∃ y : Int32, y = y4_31 + 1 := ⟨_, rfl⟩
              refine zv_iinc (j := 4) (v := x_75) (lv' := [(4, za_I x_75), (0, za_O 19 93), (1, za_I t), (2, za_I d), (3, za_I y3_31)]) G dX10_slice_75 rfl (by rw [e_75]; rfl) (by decide) rfl ?_
              first | have q_75 := z_inc9 (by omega) e_75 | skip
              refine zv_goto (tgt := 31) G dX10_slice_78 (by decide) ?_
              refine zv_sub [1, 2, 3, 4, 0] (lv' := [(0, za_O 19 93), (1, za_I t), (2, za_I d), (3, za_I y3_31), (4, za_I x_75)]) rfl ?_
              exact ih_31 y3_31 x_75 σ (zq_m hz (by first | decide | omega | (have := z_inc9 (by omega) e_75; omega))) (by have := z_inc c_35 e_75; omega) (by have := z_inc9 (by omega) e_75; omega) (z_meas c_35 e_75 hn_31)
            · have t_46 := h_46.2.mp c_49
              refine zv_iload_n (j := 3) G dX10_slice_52 rfl rfl ?_
              refine zv_iconst (v := 1) G dX10_slice_53 (by decide) ?_
              refine zv_iload (j := 4) G dX10_slice_54 rfl ?_
              refine zv_ishl G dX10_slice_56 ?_
              refine zv_ior G dX10_slice_57 ?_
              refine zv_top (fun x_58 e_58 => ?_)
              refine zv_istore_n (lv' := [(3, za_I x_58), (0, za_O 19 93), (1, za_I t), (2, za_I d), (4, za_I y4_31)]) G dX10_slice_58 rfl (by decide) rfl ?_
              refine zv_aload_n (j := 1) G dX10_slice_59 rfl rfl ?_
              refine zv_aload_n (j := 1) G dX10_slice_60 rfl rfl ?_
              refine zg_X10_118 G dX10_slice_61 ?_
              refine zv_iload_n (j := 2) G dX10_slice_64 rfl rfl ?_
              refine zv_iload (j := 4) G dX10_slice_65 rfl ?_
              refine zv_iload_n (j := 3) G dX10_slice_67 rfl rfl ?_
              refine zv_callSi (as := [za_O 22 99, za_I t, za_I y4_31, za_I d]) G (zc_X10_valueOn l E 99 t y4_31 d σ (by first | assumption | decide | omega | exact hz.2.1.1 | exact hz.2.1.2) (by first | assumption | decide | omega | exact hz.2.1.1 | exact hz.2.1.2) (by first | assumption | decide | omega | exact hz.2.1.1 | exact hz.2.1.2)) zk_X10_valueOn zm_1334 rfl ⟨(Nat.le_of_ble_eq_true rfl), (Nat.le_of_ble_eq_true rfl)⟩ ⟨Nat.zero_le _, Nat.zero_le _⟩ (Nat.le_of_ble_eq_true rfl) dX10_slice_68 (fun r_68 σ h_68 => ?_)
              obtain ⟨h_68, rfl⟩ := h_68
              refine zv_i2l G dX10_slice_71 ?_
              refine zv_callVv (as := [za_L r_68.toInt64]) G (by decide) rfl rfl (zc_X10_enters l E r_68.toInt64 σ (zq_p hz (by first | decide | omega))) zk_X10_enters zm_1418 rfl ⟨(Nat.le_of_ble_eq_true rfl), (Nat.le_of_ble_eq_true rfl)⟩ ⟨Nat.zero_le _, Nat.zero_le _⟩ (Nat.le_of_ble_eq_true rfl) dX10_slice_72 (fun σ h_72 => ?_)
              have hz : zq (y4_31.toInt + 1) σ0 σ := zq_e hz h_72
              obtain ⟨x_75, e_75⟩ : ∃ y : Int32, y = y4_31 + 1 := ⟨_, rfl⟩
              refine zv_iinc (j := 4) (v := x_75) (lv' := [(4, za_I x_75), (3, za_I x_58), (0, za_O 19 93), (1, za_I t), (2, za_I d)]) G dX10_slice_75 rfl (by rw [e_75]; rfl) (by decide) rfl ?_
              first | have q_75 := z_inc9 (by omega) e_75 | skip
              refine zv_goto (tgt := 31) G dX10_slice_78 (by decide) ?_
              refine zv_sub [2, 3, 4, 1, 0] (lv' := [(0, za_O 19 93), (1, za_I t), (2, za_I d), (3, za_I x_58), (4, za_I x_75)]) rfl ?_
              exact ih_31 x_58 x_75 σ (zq_m hz (by first | decide | omega | (have := z_inc9 (by omega) e_75; omega))) (by have := z_inc c_35 e_75; omega) (by have := z_inc9 (by omega) e_75; omega) (z_meas c_35 e_75 hn_31)
      refine zv_istore (lv' := [(4, za_I 0), (3, za_I 0), (0, za_O 19 93), (1, za_I t), (2, za_I d)]) G dX10_slice_29 (by decide) rfl ?_
      refine zv_sub [2, 3, 4, 1, 0] (lv' := [(0, za_O 19 93), (1, za_I t), (2, za_I d), (3, za_I 0), (4, za_I 0)]) rfl ?_
      exact J_31 _ (0 : Int32) (0 : Int32) σ (zq_m hz (by first | decide | omega | (have := z_inc9 (by omega) e_75; omega))) (by decide) (by decide) (Nat.lt_succ_self _)
    · have f_13 := fun q9 => (h_13.2.mpr q9) c_16
      refine zv_iconst (v := (-1)) G dX10_slice_19 (by decide) ?_
      exact zv_iret G hr dX10_slice_20 (zq_m hz (by first | decide | omega | (have := z_inc9 (by omega) e_75; omega)))
set_option maxHeartbeats 4000000 in
set_option maxRecDepth 100000 in
theorem zc_X10_covers (l : Launch) (E : za_E) (k : Int32) (fd : Int32) (td : Int32) (σ0 : za_S) (hJ : zJ σ0) : zMi l E yX10_covers cX10_covers 6 (Option.some Jvm.ClassFile.FieldType.int) 6 138 [za_O 19 93, za_I k, za_I fd, za_I td] σ0 (fun r σ' => zq 12 σ0 σ') := by
  refine zMi_of [(0, za_O 19 93), (1, za_I k), (2, za_I fd), (3, za_I td)] (by decide) rfl rfl (Nat.le_of_ble_eq_true rfl) ?_
  intro ho p e s m args below meth c G hr
  refine zv_gen (R9 := zq 12 σ0) (zq_0 hJ) (fun σ hz => ?_)
  refine zv_aload_n (j := 0) G dX10_covers_0 rfl rfl ?_
  refine zv_iconst (v := 0) G dX10_covers_1 (by decide) ?_
  refine zp_X10_3 G dX10_covers_2 ?_
  refine zv_gen (R9 := zq 12 σ0) (zq_93 hz (by decide)) (fun σ hz => ?_)
  refine zv_iload_n (j := 1) G dX10_covers_5 rfl rfl ?_
  refine zv_callSi (as := [za_I k]) G (zc_X10_isKey l E k σ ) zk_X10_isKey zm_1371 rfl ⟨(Nat.le_of_ble_eq_true rfl), (Nat.le_of_ble_eq_true rfl)⟩ ⟨Nat.zero_le _, Nat.zero_le _⟩ (Nat.le_of_ble_eq_true rfl) dX10_covers_6 (fun r_6 σ h_6 => ?_)
  obtain ⟨h_6, rfl⟩ := h_6
  refine zv_if_eq (tgt := 20) G dX10_covers_9 (by decide) (fun c_9 => ?_) (fun c_9 => ?_)
  · have f_6 := fun q9 => (h_6.2.mpr q9) c_9
    refine zv_iconst (v := (-1)) G dX10_covers_20 (by decide) ?_
    exact zv_iret G hr dX10_covers_21 (zq_m hz (by first | decide | omega | (have hL := z_lits; omega)))
  · have t_6 := h_6.2.mp c_9
    refine zv_iload_n (j := 2) G dX10_covers_12 rfl rfl ?_
    refine zv_iload_n (j := 3) G dX10_covers_13 rfl rfl ?_
    refine zv_callSi (as := [za_I fd, za_I td]) G (zc_X10_isPeriod l E fd td σ ) zk_X10_isPeriod zm_1375 rfl ⟨(Nat.le_of_ble_eq_true rfl), (Nat.le_of_ble_eq_true rfl)⟩ ⟨Nat.zero_le _, Nat.zero_le _⟩ (Nat.le_of_ble_eq_true rfl) dX10_covers_14 (fun r_14 σ h_14 => ?_)
    obtain ⟨h_14, rfl⟩ := h_14
    refine zv_if_ne (tgt := 22) G dX10_covers_17 (by decide) (fun c_17 => ?_) (fun c_17 => ?_)
    · have t_14 := h_14.2.mp c_17
      refine zv_iconst (v := 1) G dX10_covers_22 (by decide) ?_
      refine zv_istore (lv' := [(4, za_I 1), (0, za_O 19 93), (1, za_I k), (2, za_I fd), (3, za_I td)]) G dX10_covers_23 (by decide) rfl ?_
      refine zv_iload_n (j := 3) G dX10_covers_25 rfl rfl ?_
      have J_28 : ∀ (n : Nat) (y4_28 : Int32) (y5_28 : Int32) (σ : za_S) (hz : zq 12 σ0 σ) (b4_28 : y4_28 = 0 ∨ y4_28 = 1) (i5_28 : 0 ≤ y5_28.toInt) (hn_28 : (2147483648 - y5_28.toInt).toNat < n), zV p l e (zRm 6 138) s m args below meth c E (za_A E) 6 0 0 (MQ below (va_Qi (fun r σ' => zq 12 σ0 σ') (zB E) (za_A E)) args s 0 0 (za_A E)) 28 [(0, za_O 19 93), (1, za_I k), (2, za_I fd), (3, za_I td), (4, za_I y4_28), (5, za_I y5_28)] [] σ := by
        intro n
        induction n with
        | zero => intro y4_28 y5_28 σ hz b4_28 i5_28 hn; exact absurd hn (Nat.not_lt_zero _)
        | succ n ih_28 =>
          intro y4_28 y5_28 σ hz b4_28 i5_28 hn_28
          refine zv_iload (j := 5) G dX10_covers_28 rfl ?_
          refine zv_iload_n (j := 3) G dX10_covers_30 rfl rfl ?_
          refine zv_icmp_ge (tgt := 66) G dX10_covers_31 (by decide) (fun c_31 => ?_) (fun c_31 => ?_)
          · have k_31 := z_cle c_31 (a := td.toInt) (b := y5_28.toInt) rfl rfl
            refine zv_aload_n (j := 0) G dX10_covers_66 rfl rfl ?_
            refine zv_iconst (v := 0) G dX10_covers_67 (by decide) ?_
            refine zp_X10_15 G dX10_covers_68 ?_
            refine zv_gen (R9 := zq 0 σ0) (zq_t0 hz) (fun σ hz => ?_)
            refine zv_aload_n (j := 0) G dX10_covers_71 rfl rfl ?_
            refine zv_aload_n (j := 0) G dX10_covers_72 rfl rfl ?_
            refine zg_X10_118 G dX10_covers_73 ?_
            refine zv_iconst (v := 1) G dX10_covers_76 (by decide) ?_
            refine zv_iload_n (j := 1) G dX10_covers_77 rfl rfl ?_
            refine zv_iload_n (j := 2) G dX10_covers_78 rfl rfl ?_
            refine zv_iload_n (j := 3) G dX10_covers_79 rfl rfl ?_
            refine zv_callSi (as := [za_O 22 99, za_I 1, za_I k, za_I fd, za_I td]) G (zc_X10_rowsIn l E 99 (1 : Int32) k fd td σ (by first | assumption | decide | omega | exact hz.2.1.1 | exact hz.2.1.2) (by first | assumption | decide | omega | exact hz.2.1.1 | exact hz.2.1.2)) zk_X10_rowsIn zm_1378 rfl ⟨(Nat.le_of_ble_eq_true rfl), (Nat.le_of_ble_eq_true rfl)⟩ ⟨Nat.zero_le _, Nat.zero_le _⟩ (Nat.le_of_ble_eq_true rfl) dX10_covers_80 (fun r_80 σ h_80 => ?_)
            subst h_80
            refine zv_i2l G dX10_covers_83 ?_
            refine zv_callVv (as := [za_L r_80.toInt64]) G (by decide) rfl rfl (zc_X10_enters l E r_80.toInt64 σ (zq_p hz (by first | decide | omega))) zk_X10_enters zm_1418 rfl ⟨(Nat.le_of_ble_eq_true rfl), (Nat.le_of_ble_eq_true rfl)⟩ ⟨Nat.zero_le _, Nat.zero_le _⟩ (Nat.le_of_ble_eq_true rfl) dX10_covers_84 (fun σ h_84 => ?_)
            have hz : zq 1 σ0 σ := zq_e hz h_84
            refine zv_iload (j := 4) G dX10_covers_87 rfl ?_
            refine zv_callSi (as := [za_I y4_28]) G (zc_X10_flag l E y4_28 σ ) zk_X10_flag zm_1351 rfl ⟨(Nat.le_of_ble_eq_true rfl), (Nat.le_of_ble_eq_true rfl)⟩ ⟨Nat.zero_le _, Nat.zero_le _⟩ (Nat.le_of_ble_eq_true rfl) dX10_covers_89 (fun r_89 σ h_89 => ?_)
            obtain ⟨h_89, rfl⟩ := h_89
            have g_89 := z_flagT h_89.2 (a := y4_28.toInt) rfl
            exact zv_iret G hr dX10_covers_92 (zq_m hz (by first | decide | omega | (have hL := z_lits; omega)))
          · have k_31 := z_cnle c_31 (a := td.toInt) (b := y5_28.toInt) rfl rfl
            refine zv_iload (j := 4) G dX10_covers_34 rfl ?_
            refine zv_if_eq (tgt := 57) G dX10_covers_36 (by decide) (fun c_36 => ?_) (fun c_36 => ?_)
            · have k_36 := z_ceq c_36 (a := y4_28.toInt) (b := 0) rfl rfl
              refine zv_iconst (v := 0) G dX10_covers_57 (by decide) ?_
              refine zv_istore (lv' := [(4, za_I 0), (0, za_O 19 93), (1, za_I k), (2, za_I fd), (3, za_I td), (5, za_I y5_28)]) G dX10_covers_58 (by decide) rfl ?_
              obtain ⟨x_60, e_60⟩ : ∃ y : Int32, y = y5_28 + 1 := ⟨_, rfl⟩
              refine zv_iinc (j := 5) (v := x_60) (lv' := [(5, za_I x_60), (4, za_I 0), (0, za_O 19 93), (1, za_I k), (2, za_I fd), (3, za_I td)]) G dX10_covers_60 rfl (by rw [e_60]; rfl) (by decide) rfl ?_
              first | have q_60 := z_inc9 (by omega) e_60 | skip
              refine zv_goto (tgt := 28) G dX10_covers_63 (by decide) ?_
              refine zv_sub [2, 3, 4, 5, 1, 0] (lv' := [(0, za_O 19 93), (1, za_I k), (2, za_I fd), (3, za_I td), (4, za_I 0), (5, za_I x_60)]) rfl ?_
              exact ih_28 (0 : Int32) x_60 σ (zq_m hz (by first | decide | omega | (have hL := z_lits; omega))) (Or.inl rfl) (by have := z_inc c_31 e_60; omega) (z_meas c_31 e_60 hn_28)
            · have k_36 := z_cne c_36 (a := y4_28.toInt) (b := 0) rfl rfl
              refine zv_aload_n (j := 0) G dX10_covers_39 rfl rfl ?_
              refine zg_X10_118 G dX10_covers_40 ?_
              refine zv_iconst (v := 1) G dX10_covers_43 (by decide) ?_
              refine zv_iload_n (j := 1) G dX10_covers_44 rfl rfl ?_
              refine zv_iload (j := 5) G dX10_covers_45 rfl ?_
              refine zv_callSi (as := [za_O 22 99, za_I 1, za_I k, za_I y5_28]) G (zc_X10_isThere l E 99 (1 : Int32) k y5_28 σ (by first | assumption | decide | omega | exact hz.2.1.1 | exact hz.2.1.2) (by first | assumption | decide | omega | exact hz.2.1.1 | exact hz.2.1.2)) zk_X10_isThere zm_1320 rfl ⟨(Nat.le_of_ble_eq_true rfl), (Nat.le_of_ble_eq_true rfl)⟩ ⟨Nat.zero_le _, Nat.zero_le _⟩ (Nat.le_of_ble_eq_true rfl) dX10_covers_47 (fun r_47 σ h_47 => ?_)
              obtain ⟨h_47, rfl⟩ := h_47
              refine zv_if_eq (tgt := 57) G dX10_covers_50 (by decide) (fun c_50 => ?_) (fun c_50 => ?_)
              · have f_47 := fun q9 => (h_47.2.mpr q9) c_50
                refine zv_iconst (v := 0) G dX10_covers_57 (by decide) ?_
                refine zv_istore (lv' := [(4, za_I 0), (0, za_O 19 93), (1, za_I k), (2, za_I fd), (3, za_I td), (5, za_I y5_28)]) G dX10_covers_58 (by decide) rfl ?_
                obtain ⟨x_60, e_60⟩ : ∃ y : Int32, y = y5_28 + 1 := ⟨_, rfl⟩
                refine zv_iinc (j := 5) (v := x_60) (lv' := [(5, za_I x_60), (4, za_I 0), (0, za_O 19 93), (1, za_I k), (2, za_I fd), (3, za_I td)]) G dX10_covers_60 rfl (by rw [e_60]; rfl) (by decide) rfl ?_
                first | have q_60 := z_inc9 (by omega) e_60 | skip
                refine zv_goto (tgt := 28) G dX10_covers_63 (by decide) ?_
                refine zv_sub [2, 3, 4, 5, 1, 0] (lv' := [(0, za_O 19 93), (1, za_I k), (2, za_I fd), (3, za_I td), (4, za_I 0), (5, za_I x_60)]) rfl ?_
                exact ih_28 (0 : Int32) x_60 σ (zq_m hz (by first | decide | omega | (have hL := z_lits; omega))) (Or.inl rfl) (by have := z_inc c_31 e_60; omega) (z_meas c_31 e_60 hn_28)
              · have t_47 := h_47.2.mp c_50
                refine zv_iconst (v := 1) G dX10_covers_53 (by decide) ?_
                refine zv_goto (tgt := 58) G dX10_covers_54 (by decide) ?_
                refine zv_istore (lv' := [(4, za_I 1), (0, za_O 19 93), (1, za_I k), (2, za_I fd), (3, za_I td), (5, za_I y5_28)]) G dX10_covers_58 (by decide) rfl ?_
                obtain ⟨x_60, e_60⟩ : ∃ y : Int32, y = y5_28 + 1 := ⟨_, rfl⟩
                refine zv_iinc (j := 5) (v := x_60) (lv' := [(5, za_I x_60), (4, za_I 1), (0, za_O 19 93), (1, za_I k), (2, za_I fd), (3, za_I td)]) G dX10_covers_60 rfl (by rw [e_60]; rfl) (by decide) rfl ?_
                first | have q_60 := z_inc9 (by omega) e_60 | skip
                refine zv_goto (tgt := 28) G dX10_covers_63 (by decide) ?_
                refine zv_sub [2, 3, 4, 5, 1, 0] (lv' := [(0, za_O 19 93), (1, za_I k), (2, za_I fd), (3, za_I td), (4, za_I 1), (5, za_I x_60)]) rfl ?_
                exact ih_28 (1 : Int32) x_60 σ (zq_m hz (by first | decide | omega | (have hL := z_lits; omega))) (Or.inr rfl) (by have := z_inc c_31 e_60; omega) (z_meas c_31 e_60 hn_28)
      refine zv_istore (lv' := [(5, za_I fd), (4, za_I 1), (0, za_O 19 93), (1, za_I k), (2, za_I fd), (3, za_I td)]) G dX10_covers_26 (by decide) rfl ?_
      refine zv_sub [2, 3, 4, 5, 1, 0] (lv' := [(0, za_O 19 93), (1, za_I k), (2, za_I fd), (3, za_I td), (4, za_I 1), (5, za_I fd)]) rfl ?_
      exact J_28 _ (1 : Int32) fd σ (zq_m hz (by first | decide | omega | (have hL := z_lits; omega))) (Or.inr rfl) (by first | assumption | omega) (Nat.lt_succ_self _)
    · have f_14 := fun q9 => (h_14.2.mpr q9) c_17
      refine zv_iconst (v := (-1)) G dX10_covers_20 (by decide) ?_
      exact zv_iret G hr dX10_covers_21 (zq_m hz (by first | decide | omega | (have hL := z_lits; omega)))
set_option maxHeartbeats 4000000 in
set_option maxRecDepth 100000 in
theorem zc_X10_lies (l : Launch) (E : za_E) (a1 : Int32) (a2 : Int32) (a3 : Int32) (a4 : Int32) (σ0 : za_S) (hJ : zJ σ0) : zMi l E yX10_lies cX10_lies 9 (Option.some Jvm.ClassFile.FieldType.int) 6 138 [za_O 19 93, za_I a1, za_I a2, za_I a3, za_I a4] σ0 (fun r σ' => zq 12 σ0 σ') := by
  refine zMi_of [(0, za_O 19 93), (1, za_I a1), (2, za_I a2), (3, za_I a3), (4, za_I a4)] (by decide) rfl rfl (Nat.le_of_ble_eq_true rfl) ?_
  intro ho p e s m args below meth c G hr
  refine zv_gen (R9 := zq 12 σ0) (zq_0 hJ) (fun σ hz => ?_)
  refine zv_aload_n (j := 0) G dX10_lies_0 rfl rfl ?_
  refine zv_iconst (v := 0) G dX10_lies_1 (by decide) ?_
  refine zp_X10_3 G dX10_lies_2 ?_
  refine zv_gen (R9 := zq 12 σ0) (zq_93 hz (by decide)) (fun σ hz => ?_)
  refine zv_iload_n (j := 1) G dX10_lies_5 rfl rfl ?_
  refine zv_callSi (as := [za_I a1]) G (zc_X10_isTable l E a1 σ ) zk_X10_isTable zm_1309 rfl ⟨(Nat.le_of_ble_eq_true rfl), (Nat.le_of_ble_eq_true rfl)⟩ ⟨Nat.zero_le _, Nat.zero_le _⟩ (Nat.le_of_ble_eq_true rfl) dX10_lies_6 (fun r_6 σ h_6 => ?_)
  obtain ⟨h_6, rfl⟩ := h_6
  refine zv_if_eq (tgt := 41) G dX10_lies_9 (by decide) (fun c_9 => ?_) (fun c_9 => ?_)
  · have f_6 := fun q9 => (h_6.2.mpr q9) c_9
    refine zv_iconst (v := (-1)) G dX10_lies_41 (by decide) ?_
    exact zv_iret G hr dX10_lies_42 (zq_m hz (by first | decide | omega | (have hL := z_lits; omega)))
  · have t_6 := h_6.2.mp c_9
    refine zv_iload_n (j := 3) G dX10_lies_12 rfl rfl ?_
    refine zv_callSi (as := [za_I a3]) G (zc_X10_isTable l E a3 σ ) zk_X10_isTable zm_1309 rfl ⟨(Nat.le_of_ble_eq_true rfl), (Nat.le_of_ble_eq_true rfl)⟩ ⟨Nat.zero_le _, Nat.zero_le _⟩ (Nat.le_of_ble_eq_true rfl) dX10_lies_13 (fun r_13 σ h_13 => ?_)
    obtain ⟨h_13, rfl⟩ := h_13
    refine zv_if_eq (tgt := 41) G dX10_lies_16 (by decide) (fun c_16 => ?_) (fun c_16 => ?_)
    · have f_13 := fun q9 => (h_13.2.mpr q9) c_16
      refine zv_iconst (v := (-1)) G dX10_lies_41 (by decide) ?_
      exact zv_iret G hr dX10_lies_42 (zq_m hz (by first | decide | omega | (have hL := z_lits; omega)))
    · have t_13 := h_13.2.mp c_16
      refine zv_iload_n (j := 2) G dX10_lies_19 rfl rfl ?_
      refine zv_if_lt (tgt := 41) G dX10_lies_20 (by decide) (fun c_20 => ?_) (fun c_20 => ?_)
      · have k_20 := z_clt c_20 (a := a2.toInt) (b := 0) rfl rfl
        refine zv_iconst (v := (-1)) G dX10_lies_41 (by decide) ?_
        exact zv_iret G hr dX10_lies_42 (zq_m hz (by first | decide | omega | (have hL := z_lits; omega)))
      · have k_20 := z_cnlt c_20 (a := a2.toInt) (b := 0) rfl rfl
        refine zv_iload (j := 4) G dX10_lies_23 rfl ?_
        refine zv_if_lt (tgt := 41) G dX10_lies_25 (by decide) (fun c_25 => ?_) (fun c_25 => ?_)
        · have k_25 := z_clt c_25 (a := a4.toInt) (b := 0) rfl rfl
          refine zv_iconst (v := (-1)) G dX10_lies_41 (by decide) ?_
          exact zv_iret G hr dX10_lies_42 (zq_m hz (by first | decide | omega | (have hL := z_lits; omega)))
        · have k_25 := z_cnlt c_25 (a := a4.toInt) (b := 0) rfl rfl
          refine zv_aload_n (j := 0) G dX10_lies_28 rfl rfl ?_
          refine zv_aload_n (j := 0) G dX10_lies_29 rfl rfl ?_
          refine zg_X10_118 G dX10_lies_30 ?_
          refine zv_iload_n (j := 1) G dX10_lies_33 rfl rfl ?_
          refine zv_iload_n (j := 2) G dX10_lies_34 rfl rfl ?_
          refine zv_callVi (as := [za_O 22 99, za_I a1, za_I a2]) G (by decide) rfl rfl (zc_X10_seeks l E 99 a1 a2 σ (by first | assumption | decide | omega | exact hz.2.1.1 | exact hz.2.1.2) (by first | assumption | decide | omega | exact hz.2.1.1 | exact hz.2.1.2)) zk_X10_seeks zm_1313 rfl ⟨(Nat.le_of_ble_eq_true rfl), (Nat.le_of_ble_eq_true rfl)⟩ ⟨Nat.zero_le _, Nat.zero_le _⟩ (Nat.le_of_ble_eq_true rfl) dX10_lies_35 (fun r_35 σ h_35 => ?_)
          obtain ⟨h_35, s_35⟩ := h_35
          have n_35 := zq_n hz s_35
          have hz : zq 12 σ0 σ := zq_s hz s_35
          refine zv_if_ne (tgt := 43) G dX10_lies_38 (by decide) (fun c_38 => ?_) (fun c_38 => ?_)
          · refine zv_aload_n (j := 0) G dX10_lies_43 rfl rfl ?_
            refine zg_X10_194 G dX10_lies_44 ?_
            refine zv_top (fun x_47 e_47 => ?_)
            have k_47 : 0 ≤ x_47.toInt ∧ x_47.toInt ≤ 99 := by rw [e_47]; exact hz.2.1.2
            refine zv_istore (lv' := [(5, za_I x_47), (0, za_O 19 93), (1, za_I a1), (2, za_I a2), (3, za_I a3), (4, za_I a4)]) G dX10_lies_47 (by decide) rfl ?_
            refine zv_aload_n (j := 1) G dX10_lies_49 rfl rfl ?_
            refine zg_X10_118 G dX10_lies_50 ?_
            refine zv_iload_n (j := 2) G dX10_lies_53 rfl rfl ?_
            refine zv_aload_n (j := 1) G dX10_lies_54 rfl rfl ?_
            refine zg_X10_191 G dX10_lies_55 ?_
            refine zv_iload (j := 0) G dX10_lies_58 rfl ?_
            refine zv_callSi (as := [za_O 22 99, za_I a1, za_I (σ.1 93 15), za_I x_47]) G (zc_X10_toOf l E 99 a1 (σ.1 93 15) x_47 σ (by first | assumption | decide | omega | exact hz.2.1.1 | exact hz.2.1.2) (by first | assumption | decide | omega | exact hz.2.1.1 | exact hz.2.1.2) (by first | assumption | decide | omega | exact hz.2.1.1 | exact hz.2.1.2)) zk_X10_toOf zm_1337 rfl ⟨(Nat.le_of_ble_eq_true rfl), (Nat.le_of_ble_eq_true rfl)⟩ ⟨Nat.zero_le _, Nat.zero_le _⟩ (Nat.le_of_ble_eq_true rfl) dX10_lies_60 (fun r_60 σ h_60 => ?_)
            obtain ⟨h_60, rfl⟩ := h_60
            refine zv_istore (lv' := [(6, za_I r_60), (5, za_I x_47), (0, za_O 19 93), (1, za_I a1), (2, za_I a2), (3, za_I a3), (4, za_I a4)]) G dX10_lies_63 (by decide) rfl ?_
            refine zv_aload_n (j := 2) G dX10_lies_65 rfl rfl ?_
            refine zv_aload_n (j := 2) G dX10_lies_66 rfl rfl ?_
            refine zg_X10_118 G dX10_lies_67 ?_
            refine zv_iload_n (j := 5) G dX10_lies_70 rfl rfl ?_
            refine zv_iload (j := 6) G dX10_lies_71 rfl ?_
            refine zv_callVi (as := [za_O 22 99, za_I a3, za_I a4]) G (by decide) rfl rfl (zc_X10_seeks l E 99 a3 a4 σ (by first | assumption | decide | omega | exact hz.2.1.1 | exact hz.2.1.2) (by first | assumption | decide | omega | exact hz.2.1.1 | exact hz.2.1.2)) zk_X10_seeks zm_1313 rfl ⟨(Nat.le_of_ble_eq_true rfl), (Nat.le_of_ble_eq_true rfl)⟩ ⟨Nat.zero_le _, Nat.zero_le _⟩ (Nat.le_of_ble_eq_true rfl) dX10_lies_73 (fun r_73 σ h_73 => ?_)
            obtain ⟨h_73, s_73⟩ := h_73
            have n_73 := zq_n hz s_73
            have hz : zq 12 σ0 σ := zq_s hz s_73
            refine zv_if_ne (tgt := 81) G dX10_lies_76 (by decide) (fun c_76 => ?_) (fun c_76 => ?_)
            · refine zv_aload_n (j := 2) G dX10_lies_81 rfl rfl ?_
              refine zg_X10_194 G dX10_lies_82 ?_
              refine zv_top (fun x_85 e_85 => ?_)
              have k_85 : 0 ≤ x_85.toInt ∧ x_85.toInt ≤ 99 := by rw [e_85]; exact hz.2.1.2
              refine zv_istore (lv' := [(7, za_I x_85), (6, za_I r_60), (5, za_I x_47), (0, za_O 19 93), (1, za_I a1), (2, za_I a2), (3, za_I a3), (4, za_I a4)]) G dX10_lies_85 (by decide) rfl ?_
              refine zv_aload_n (j := 3) G dX10_lies_87 rfl rfl ?_
              refine zg_X10_118 G dX10_lies_88 ?_
              refine zv_iload_n (j := 6) G dX10_lies_91 rfl rfl ?_
              refine zv_aload_n (j := 3) G dX10_lies_92 rfl rfl ?_
              refine zg_X10_191 G dX10_lies_93 ?_
              refine zv_iload (j := 0) G dX10_lies_96 rfl ?_
              refine zv_callSi (as := [za_O 22 99, za_I a3, za_I (σ.1 93 15), za_I x_85]) G (zc_X10_toOf l E 99 a3 (σ.1 93 15) x_85 σ (by first | assumption | decide | omega | exact hz.2.1.1 | exact hz.2.1.2) (by first | assumption | decide | omega | exact hz.2.1.1 | exact hz.2.1.2) (by first | assumption | decide | omega | exact hz.2.1.1 | exact hz.2.1.2)) zk_X10_toOf zm_1337 rfl ⟨(Nat.le_of_ble_eq_true rfl), (Nat.le_of_ble_eq_true rfl)⟩ ⟨Nat.zero_le _, Nat.zero_le _⟩ (Nat.le_of_ble_eq_true rfl) dX10_lies_98 (fun r_98 σ h_98 => ?_)
              obtain ⟨h_98, rfl⟩ := h_98
              refine zv_istore (lv' := [(8, za_I r_98), (7, za_I x_85), (6, za_I r_60), (5, za_I x_47), (0, za_O 19 93), (1, za_I a1), (2, za_I a2), (3, za_I a3), (4, za_I a4)]) G dX10_lies_101 (by decide) rfl ?_
              refine zv_aload_n (j := 4) G dX10_lies_103 rfl rfl ?_
              refine zv_iconst (v := 0) G dX10_lies_104 (by decide) ?_
              refine zp_X10_15 G dX10_lies_105 ?_
              refine zv_gen (R9 := zq 0 σ0) (zq_t0 hz) (fun σ hz => ?_)
              refine zv_aload_n (j := 4) G dX10_lies_108 rfl rfl ?_
              refine zv_iconst (v := 0) G dX10_lies_109 (by decide) ?_
              refine zv_iload (j := 2) G dX10_lies_110 rfl ?_
              refine zv_iload (j := 0) G dX10_lies_112 rfl ?_
              refine zv_mmin G zm_1354 zm_392 zm_147 zm_393 (Nat.le_of_ble_eq_true rfl) (Nat.le_of_ble_eq_true rfl) (Nat.zero_le _) (Nat.zero_le _) dX10_lies_114 ?_
              refine zv_top (fun x_114 e_114 => ?_)
              refine zv_iload (j := 3) G dX10_lies_117 rfl ?_
              refine zv_iload (j := 1) G dX10_lies_119 rfl ?_
              refine zv_mmax G zm_1355 zm_395 zm_147 zm_396 (Nat.le_of_ble_eq_true rfl) (Nat.le_of_ble_eq_true rfl) (Nat.zero_le _) (Nat.zero_le _) dX10_lies_121 ?_
              refine zv_top (fun x_121 e_121 => ?_)
              refine zv_isub G dX10_lies_124 ?_
              refine zv_mmax G zm_1355 zm_395 zm_147 zm_396 (Nat.le_of_ble_eq_true rfl) (Nat.le_of_ble_eq_true rfl) (Nat.zero_le _) (Nat.zero_le _) dX10_lies_125 ?_
              refine zv_top (fun x_125 e_125 => ?_)
              refine zv_i2l G dX10_lies_128 ?_
              refine zv_callVv (as := [za_L x_125.toInt64]) G (by decide) rfl rfl (zc_X10_enters l E x_125.toInt64 σ (zq_p hz (by first | decide | omega))) zk_X10_enters zm_1418 rfl ⟨(Nat.le_of_ble_eq_true rfl), (Nat.le_of_ble_eq_true rfl)⟩ ⟨Nat.zero_le _, Nat.zero_le _⟩ (Nat.le_of_ble_eq_true rfl) dX10_lies_129 (fun σ h_129 => ?_)
              have hz : zq 1 σ0 σ := zq_e hz h_129
              refine zv_iload (j := 2) G dX10_lies_132 rfl ?_
              refine zv_iload (j := 1) G dX10_lies_134 rfl ?_
              refine zv_icmp_gt (tgt := 152) G dX10_lies_136 (by decide) (fun c_136 => ?_) (fun c_136 => ?_)
              · have k_136 := z_clt c_136 (a := x_85.toInt) (b := r_60.toInt) rfl rfl
                refine zv_iload (j := 0) G dX10_lies_152 rfl ?_
                refine zv_iload (j := 3) G dX10_lies_154 rfl ?_
                refine zv_icmp_gt (tgt := 174) G dX10_lies_156 (by decide) (fun c_156 => ?_) (fun c_156 => ?_)
                · have k_156 := z_clt c_156 (a := x_47.toInt) (b := r_98.toInt) rfl rfl
                  refine zv_iload (j := 3) G dX10_lies_174 rfl ?_
                  refine zv_iload (j := 1) G dX10_lies_176 rfl ?_
                  refine zv_icmp_ge (tgt := 207) G dX10_lies_178 (by decide) (fun c_178 => ?_) (fun c_178 => ?_)
                  · have k_178 := z_cle c_178 (a := x_85.toInt) (b := x_47.toInt) rfl rfl
                    refine zv_iload (j := 3) G dX10_lies_207 rfl ?_
                    refine zv_iload (j := 1) G dX10_lies_209 rfl ?_
                    refine zv_icmp_ne (tgt := 240) G dX10_lies_211 (by decide) (fun c_211 => ?_) (fun c_211 => ?_)
                    · have k_211 := z_cne c_211 (a := x_47.toInt) (b := x_85.toInt) rfl rfl
                      refine zv_iload (j := 2) G dX10_lies_240 rfl ?_
                      refine zv_iload (j := 0) G dX10_lies_242 rfl ?_
                      refine zv_icmp_ge (tgt := 251) G dX10_lies_244 (by decide) (fun c_244 => ?_) (fun c_244 => ?_)
                      · have k_244 := z_cle c_244 (a := r_98.toInt) (b := r_60.toInt) rfl rfl
                        refine zv_iload (j := 2) G dX10_lies_251 rfl ?_
                        refine zv_iload (j := 0) G dX10_lies_253 rfl ?_
                        refine zv_icmp_ne (tgt := 262) G dX10_lies_255 (by decide) (fun c_255 => ?_) (fun c_255 => ?_)
                        · have k_255 := z_cne c_255 (a := r_60.toInt) (b := r_98.toInt) rfl rfl
                          refine zv_bipush (v := 10) G dX10_lies_262 (by decide) ?_
                          exact zv_iret G hr dX10_lies_264 (zq_m hz (by first | decide | omega | (have hL := z_lits; omega)))
                        · have k_255 := z_ceq c_255 (a := r_60.toInt) (b := r_98.toInt) rfl rfl
                          refine zv_iconst (v := 5) G dX10_lies_258 (by decide) ?_
                          refine zv_goto (tgt := 264) G dX10_lies_259 (by decide) ?_
                          exact zv_iret G hr dX10_lies_264 (zq_m hz (by first | decide | omega | (have hL := z_lits; omega)))
                      · have k_244 := z_cnle c_244 (a := r_98.toInt) (b := r_60.toInt) rfl rfl
                        refine zv_iconst (v := 4) G dX10_lies_247 (by decide) ?_
                        refine zv_goto (tgt := 264) G dX10_lies_248 (by decide) ?_
                        exact zv_iret G hr dX10_lies_264 (zq_m hz (by first | decide | omega | (have hL := z_lits; omega)))
                    · have k_211 := z_ceq c_211 (a := x_47.toInt) (b := x_85.toInt) rfl rfl
                      refine zv_iload (j := 2) G dX10_lies_214 rfl ?_
                      refine zv_iload (j := 0) G dX10_lies_216 rfl ?_
                      refine zv_icmp_ge (tgt := 225) G dX10_lies_218 (by decide) (fun c_218 => ?_) (fun c_218 => ?_)
                      · have k_218 := z_cle c_218 (a := r_98.toInt) (b := r_60.toInt) rfl rfl
                        refine zv_iload (j := 2) G dX10_lies_225 rfl ?_
                        refine zv_iload (j := 0) G dX10_lies_227 rfl ?_
                        refine zv_icmp_ne (tgt := 237) G dX10_lies_229 (by decide) (fun c_229 => ?_) (fun c_229 => ?_)
                        · have k_229 := z_cne c_229 (a := r_60.toInt) (b := r_98.toInt) rfl rfl
                          refine zv_bipush (v := 9) G dX10_lies_237 (by decide) ?_
                          exact zv_iret G hr dX10_lies_239 (zq_m hz (by first | decide | omega | (have hL := z_lits; omega)))
                        · have k_229 := z_ceq c_229 (a := r_60.toInt) (b := r_98.toInt) rfl rfl
                          refine zv_bipush (v := 6) G dX10_lies_232 (by decide) ?_
                          refine zv_goto (tgt := 239) G dX10_lies_234 (by decide) ?_
                          exact zv_iret G hr dX10_lies_239 (zq_m hz (by first | decide | omega | (have hL := z_lits; omega)))
                      · have k_218 := z_cnle c_218 (a := r_98.toInt) (b := r_60.toInt) rfl rfl
                        refine zv_iconst (v := 3) G dX10_lies_221 (by decide) ?_
                        refine zv_goto (tgt := 239) G dX10_lies_222 (by decide) ?_
                        exact zv_iret G hr dX10_lies_239 (zq_m hz (by first | decide | omega | (have hL := z_lits; omega)))
                  · have k_178 := z_cnle c_178 (a := x_85.toInt) (b := x_47.toInt) rfl rfl
                    refine zv_iload (j := 2) G dX10_lies_181 rfl ?_
                    refine zv_iload (j := 0) G dX10_lies_183 rfl ?_
                    refine zv_icmp_ge (tgt := 192) G dX10_lies_185 (by decide) (fun c_185 => ?_) (fun c_185 => ?_)
                    · have k_185 := z_cle c_185 (a := r_98.toInt) (b := r_60.toInt) rfl rfl
                      refine zv_iload (j := 2) G dX10_lies_192 rfl ?_
                      refine zv_iload (j := 0) G dX10_lies_194 rfl ?_
                      refine zv_icmp_ne (tgt := 204) G dX10_lies_196 (by decide) (fun c_196 => ?_) (fun c_196 => ?_)
                      · have k_196 := z_cne c_196 (a := r_60.toInt) (b := r_98.toInt) rfl rfl
                        refine zv_bipush (v := 8) G dX10_lies_204 (by decide) ?_
                        exact zv_iret G hr dX10_lies_206 (zq_m hz (by first | decide | omega | (have hL := z_lits; omega)))
                      · have k_196 := z_ceq c_196 (a := r_60.toInt) (b := r_98.toInt) rfl rfl
                        refine zv_bipush (v := 7) G dX10_lies_199 (by decide) ?_
                        refine zv_goto (tgt := 206) G dX10_lies_201 (by decide) ?_
                        exact zv_iret G hr dX10_lies_206 (zq_m hz (by first | decide | omega | (have hL := z_lits; omega)))
                    · have k_185 := z_cnle c_185 (a := r_98.toInt) (b := r_60.toInt) rfl rfl
                      refine zv_iconst (v := 2) G dX10_lies_188 (by decide) ?_
                      refine zv_goto (tgt := 206) G dX10_lies_189 (by decide) ?_
                      exact zv_iret G hr dX10_lies_206 (zq_m hz (by first | decide | omega | (have hL := z_lits; omega)))
                · have k_156 := z_cnlt c_156 (a := x_47.toInt) (b := r_98.toInt) rfl rfl
                  refine zv_iload (j := 0) G dX10_lies_159 rfl ?_
                  refine zv_iload (j := 3) G dX10_lies_161 rfl ?_
                  refine zv_icmp_ge (tgt := 171) G dX10_lies_163 (by decide) (fun c_163 => ?_) (fun c_163 => ?_)
                  · have k_163 := z_cle c_163 (a := x_47.toInt) (b := r_98.toInt) rfl rfl
                    refine zv_bipush (v := 11) G dX10_lies_171 (by decide) ?_
                    exact zv_iret G hr dX10_lies_173 (zq_m hz (by first | decide | omega | (have hL := z_lits; omega)))
                  · have k_163 := z_cnle c_163 (a := x_47.toInt) (b := r_98.toInt) rfl rfl
                    refine zv_bipush (v := 12) G dX10_lies_166 (by decide) ?_
                    refine zv_goto (tgt := 173) G dX10_lies_168 (by decide) ?_
                    exact zv_iret G hr dX10_lies_173 (zq_m hz (by first | decide | omega | (have hL := z_lits; omega)))
              · have k_136 := z_cnlt c_136 (a := x_85.toInt) (b := r_60.toInt) rfl rfl
                refine zv_iload (j := 2) G dX10_lies_139 rfl ?_
                refine zv_iload (j := 1) G dX10_lies_141 rfl ?_
                refine zv_icmp_ge (tgt := 150) G dX10_lies_143 (by decide) (fun c_143 => ?_) (fun c_143 => ?_)
                · have k_143 := z_cle c_143 (a := x_85.toInt) (b := r_60.toInt) rfl rfl
                  refine zv_iconst (v := 1) G dX10_lies_150 (by decide) ?_
                  exact zv_iret G hr dX10_lies_151 (zq_m hz (by first | decide | omega | (have hL := z_lits; omega)))
                · have k_143 := z_cnle c_143 (a := x_85.toInt) (b := r_60.toInt) rfl rfl
                  refine zv_iconst (v := 0) G dX10_lies_146 (by decide) ?_
                  refine zv_goto (tgt := 151) G dX10_lies_147 (by decide) ?_
                  exact zv_iret G hr dX10_lies_151 (zq_m hz (by first | decide | omega | (have hL := z_lits; omega)))
            · refine zv_iconst (v := (-1)) G dX10_lies_79 (by decide) ?_
              exact zv_iret G hr dX10_lies_80 (zq_m hz (by first | decide | omega | (have hL := z_lits; omega)))
          · refine zv_iconst (v := (-1)) G dX10_lies_41 (by decide) ?_
            exact zv_iret G hr dX10_lies_42 (zq_m hz (by first | decide | omega | (have hL := z_lits; omega)))
set_option maxHeartbeats 4000000 in
set_option maxRecDepth 100000 in
theorem zc_X10_longest (l : Launch) (E : za_E) (a1 : Int32) (σ0 : za_S) (hJ : zJ σ0) : zMi l E yX10_longest cX10_longest 6 (Option.some Jvm.ClassFile.FieldType.int) 6 138 [za_O 19 93, za_I a1] σ0 (fun r σ' => zq 12 σ0 σ') := by
  refine zMi_of [(0, za_O 19 93), (1, za_I a1)] (by decide) rfl rfl (Nat.le_of_ble_eq_true rfl) ?_
  intro ho p e s m args below meth c G hr
  refine zv_gen (R9 := zq 12 σ0) (zq_0 hJ) (fun σ hz => ?_)
  refine zv_aload_n (j := 0) G dX10_longest_0 rfl rfl ?_
  refine zv_iconst (v := 0) G dX10_longest_1 (by decide) ?_
  refine zp_X10_3 G dX10_longest_2 ?_
  refine zv_gen (R9 := zq 12 σ0) (zq_93 hz (by decide)) (fun σ hz => ?_)
  refine zv_iload_n (j := 1) G dX10_longest_5 rfl rfl ?_
  refine zv_callSi (as := [za_I a1]) G (zc_X10_isTable l E a1 σ ) zk_X10_isTable zm_1309 rfl ⟨(Nat.le_of_ble_eq_true rfl), (Nat.le_of_ble_eq_true rfl)⟩ ⟨Nat.zero_le _, Nat.zero_le _⟩ (Nat.le_of_ble_eq_true rfl) dX10_longest_6 (fun r_6 σ h_6 => ?_)
  obtain ⟨h_6, rfl⟩ := h_6
  refine zv_if_ne (tgt := 14) G dX10_longest_9 (by decide) (fun c_9 => ?_) (fun c_9 => ?_)
  · have t_6 := h_6.2.mp c_9
    refine zv_bipush (v := (-2)) G dX10_longest_14 (by decide) ?_
    refine zv_istore_n (lv' := [(2, za_I (-2)), (0, za_O 19 93), (1, za_I a1)]) G dX10_longest_16 rfl (by decide) rfl ?_
    refine zv_iconst (v := 0) G dX10_longest_17 (by decide) ?_
    refine zv_istore_n (lv' := [(3, za_I 0), (2, za_I (-2)), (0, za_O 19 93), (1, za_I a1)]) G dX10_longest_18 rfl (by decide) rfl ?_
    refine zv_iconst (v := 0) G dX10_longest_19 (by decide) ?_
    have J_22 : ∀ (n : Nat) (y2_22 : Int32) (y3_22 : Int32) (y4_22 : Int32) (σ : za_S) (hz : zq 12 σ0 σ) (l_22 : y4_22.toInt ≤ 20) (i4_22 : 0 ≤ y4_22.toInt) (hn_22 : (20 - y4_22.toInt).toNat < n), zV p l e (zRm 6 138) s m args below meth c E (za_A E) 6 0 0 (MQ below (va_Qi (fun r σ' => zq 12 σ0 σ') (zB E) (za_A E)) args s 0 0 (za_A E)) 22 [(0, za_O 19 93), (1, za_I a1), (2, za_I y2_22), (3, za_I y3_22), (4, za_I y4_22)] [] σ := by
      intro n
      induction n with
      | zero => intro y2_22 y3_22 y4_22 σ hz l_22 i4_22 hn; exact absurd hn (Nat.not_lt_zero _)
      | succ n ih_22 =>
        intro y2_22 y3_22 y4_22 σ hz l_22 i4_22 hn_22
        refine zv_aload_n (j := 0) G dX10_longest_22 rfl rfl ?_
        refine zv_aload_n (j := 0) G dX10_longest_23 rfl rfl ?_
        refine zg_X10_118 G dX10_longest_24 ?_
        refine zv_iload_n (j := 1) G dX10_longest_27 rfl rfl ?_
        refine zv_iload (j := 4) G dX10_longest_28 rfl ?_
        refine zv_callVi (as := [za_O 22 99, za_I a1, za_I y4_22]) G (by decide) rfl rfl (zc_X10_seeks l E 99 a1 y4_22 σ (by first | assumption | decide | omega | exact hz.2.1.1 | exact hz.2.1.2) (by first | assumption | decide | omega | exact hz.2.1.1 | exact hz.2.1.2)) zk_X10_seeks zm_1313 rfl ⟨(Nat.le_of_ble_eq_true rfl), (Nat.le_of_ble_eq_true rfl)⟩ ⟨Nat.zero_le _, Nat.zero_le _⟩ (Nat.le_of_ble_eq_true rfl) dX10_longest_30 (fun r_30 σ h_30 => ?_)
        obtain ⟨h_30, s_30⟩ := h_30
        have n_30 := zq_n hz s_30
        have hz : zq 12 σ0 σ := zq_s hz s_30
        refine zv_if_eq (tgt := 85) G dX10_longest_33 (by decide) (fun c_33 => ?_) (fun c_33 => ?_)
        · refine zv_iload_n (j := 2) G dX10_longest_85 rfl rfl ?_
          refine zv_if_lt (tgt := 100) G dX10_longest_86 (by decide) (fun c_86 => ?_) (fun c_86 => ?_)
          · have k_86 := z_clt c_86 (a := y2_22.toInt) (b := 0) rfl rfl
            refine zv_iload_n (j := 2) G dX10_longest_100 rfl rfl ?_
            exact zv_iret G hr dX10_longest_101 (zq_m hz (by first | decide | omega | (have hL := z_lits; omega)))
          · have k_86 := z_cnlt c_86 (a := y2_22.toInt) (b := 0) rfl rfl
            refine zv_aload_n (j := 0) G dX10_longest_89 rfl rfl ?_
            refine zv_iconst (v := 0) G dX10_longest_90 (by decide) ?_
            refine zp_X10_15 G dX10_longest_91 ?_
            refine zv_gen (R9 := zq 0 σ0) (zq_t0 hz) (fun σ hz => ?_)
            refine zv_aload_n (j := 0) G dX10_longest_94 rfl rfl ?_
            refine zv_iload_n (j := 3) G dX10_longest_95 rfl rfl ?_
            refine zv_i2l G dX10_longest_96 ?_
            refine zv_callVv (as := [za_L y3_22.toInt64]) G (by decide) rfl rfl (zc_X10_enters l E y3_22.toInt64 σ (zq_p hz (by first | decide | omega))) zk_X10_enters zm_1418 rfl ⟨(Nat.le_of_ble_eq_true rfl), (Nat.le_of_ble_eq_true rfl)⟩ ⟨Nat.zero_le _, Nat.zero_le _⟩ (Nat.le_of_ble_eq_true rfl) dX10_longest_97 (fun σ h_97 => ?_)
            have hz : zq 1 σ0 σ := zq_e hz h_97
            refine zv_iload_n (j := 2) G dX10_longest_100 rfl rfl ?_
            exact zv_iret G hr dX10_longest_101 (zq_m hz (by first | decide | omega | (have hL := z_lits; omega)))
        · refine zv_aload_n (j := 0) G dX10_longest_36 rfl rfl ?_
          refine zg_X10_118 G dX10_longest_37 ?_
          refine zv_iload_n (j := 1) G dX10_longest_40 rfl rfl ?_
          refine zv_aload_n (j := 0) G dX10_longest_41 rfl rfl ?_
          refine zg_X10_191 G dX10_longest_42 ?_
          refine zv_aload_n (j := 0) G dX10_longest_45 rfl rfl ?_
          refine zg_X10_194 G dX10_longest_46 ?_
          refine zv_callSi (as := [za_O 22 99, za_I a1, za_I (σ.1 93 15), za_I (σ.1 93 16)]) G (zc_X10_toOf l E 99 a1 (σ.1 93 15) (σ.1 93 16) σ (by first | assumption | decide | omega | exact hz.2.1.1 | exact hz.2.1.2) (by first | assumption | decide | omega | exact hz.2.1.1 | exact hz.2.1.2) (by first | assumption | decide | omega | exact hz.2.1.1 | exact hz.2.1.2)) zk_X10_toOf zm_1337 rfl ⟨(Nat.le_of_ble_eq_true rfl), (Nat.le_of_ble_eq_true rfl)⟩ ⟨Nat.zero_le _, Nat.zero_le _⟩ (Nat.le_of_ble_eq_true rfl) dX10_longest_49 (fun r_49 σ h_49 => ?_)
          obtain ⟨h_49, rfl⟩ := h_49
          refine zv_aload_n (j := 0) G dX10_longest_52 rfl rfl ?_
          refine zg_X10_194 G dX10_longest_53 ?_
          refine zv_isub G dX10_longest_56 ?_
          refine zv_top (fun x_57 e_57 => ?_)
          first | have q_57 := z_subf e_57 (a := r_49.toInt) (b := (σ.1 93 16).toInt) rfl rfl (by omega) (by omega) | skip
          refine zv_istore (lv' := [(5, za_I x_57), (0, za_O 19 93), (1, za_I a1), (2, za_I y2_22), (3, za_I y3_22), (4, za_I y4_22)]) G dX10_longest_57 (by decide) rfl ?_
          refine zv_iload (j := 0) G dX10_longest_59 rfl ?_
          refine zv_iload_n (j := 4) G dX10_longest_61 rfl rfl ?_
          refine zv_icmp_le (tgt := 70) G dX10_longest_62 (by decide) (fun c_62 => ?_) (fun c_62 => ?_)
          · have k_62 := z_cle c_62 (a := x_57.toInt) (b := y3_22.toInt) rfl rfl
            refine zv_iload_n (j := 3) G dX10_longest_70 rfl rfl ?_
            refine zv_istore_n (lv' := [(2, za_I y2_22), (5, za_I x_57), (0, za_O 19 93), (1, za_I a1), (3, za_I y3_22), (4, za_I y4_22)]) G dX10_longest_71 rfl (by decide) rfl ?_
            refine zv_iload_n (j := 4) G dX10_longest_72 rfl rfl ?_
            refine zv_iload (j := 1) G dX10_longest_73 rfl ?_
            refine zv_mmax G zm_1355 zm_395 zm_147 zm_396 (Nat.le_of_ble_eq_true rfl) (Nat.le_of_ble_eq_true rfl) (Nat.zero_le _) (Nat.zero_le _) dX10_longest_75 ?_
            refine zv_top (fun x_75 e_75 => ?_)
            refine zv_istore_n (lv' := [(3, za_I x_75), (2, za_I y2_22), (5, za_I x_57), (0, za_O 19 93), (1, za_I a1), (4, za_I y4_22)]) G dX10_longest_78 rfl (by decide) rfl ?_
            obtain ⟨x_79, e_79⟩ : ∃ y : Int32, y = y4_22 + 1 := ⟨_, rfl⟩
            refine zv_iinc (j := 5) (v := x_79) (lv' := [(4, za_I x_79), (3, za_I x_75), (2, za_I y2_22), (5, za_I x_57), (0, za_O 19 93), (1, za_I a1)]) G dX10_longest_79 rfl (by rw [e_79]; rfl) (by decide) rfl ?_
            first | have q_79 := z_inc9 (by omega) e_79 | skip
            refine zv_goto (tgt := 22) G dX10_longest_82 (by decide) ?_
            refine zv_sub [4, 5, 2, 1, 0] (lv' := [(0, za_O 19 93), (1, za_I a1), (2, za_I y2_22), (3, za_I x_75), (4, za_I x_79)]) rfl ?_
            exact ih_22 y2_22 x_75 x_79 σ (zq_m hz (by first | decide | omega | (have hL := z_lits; omega))) (by have h9 := z_inc9 (by omega) e_79; have h8 := zsn_20 hJ t_6 n_30 c_33; omega) (by have := z_inc9 (by omega) e_79; omega) (by have h9 := z_inc9 (by omega) e_79; have h8 := zsn_20 hJ t_6 n_30 c_33; omega)
          · have k_62 := z_cnle c_62 (a := x_57.toInt) (b := y3_22.toInt) rfl rfl
            refine zv_iload (j := 5) G dX10_longest_65 rfl ?_
            refine zv_goto (tgt := 71) G dX10_longest_67 (by decide) ?_
            refine zv_istore_n (lv' := [(2, za_I y4_22), (5, za_I x_57), (0, za_O 19 93), (1, za_I a1), (3, za_I y3_22), (4, za_I y4_22)]) G dX10_longest_71 rfl (by decide) rfl ?_
            refine zv_iload_n (j := 4) G dX10_longest_72 rfl rfl ?_
            refine zv_iload (j := 1) G dX10_longest_73 rfl ?_
            refine zv_mmax G zm_1355 zm_395 zm_147 zm_396 (Nat.le_of_ble_eq_true rfl) (Nat.le_of_ble_eq_true rfl) (Nat.zero_le _) (Nat.zero_le _) dX10_longest_75 ?_
            refine zv_top (fun x_75 e_75 => ?_)
            refine zv_istore_n (lv' := [(3, za_I x_75), (2, za_I y4_22), (5, za_I x_57), (0, za_O 19 93), (1, za_I a1), (4, za_I y4_22)]) G dX10_longest_78 rfl (by decide) rfl ?_
            obtain ⟨x_79, e_79⟩ : ∃ y : Int32, y = y4_22 + 1 := ⟨_, rfl⟩
            refine zv_iinc (j := 5) (v := x_79) (lv' := [(4, za_I x_79), (3, za_I x_75), (2, za_I y4_22), (5, za_I x_57), (0, za_O 19 93), (1, za_I a1)]) G dX10_longest_79 rfl (by rw [e_79]; rfl) (by decide) rfl ?_
            first | have q_79 := z_inc9 (by omega) e_79 | skip
            refine zv_goto (tgt := 22) G dX10_longest_82 (by decide) ?_
            refine zv_sub [4, 5, 2, 1, 0] (lv' := [(0, za_O 19 93), (1, za_I a1), (2, za_I y4_22), (3, za_I x_75), (4, za_I x_79)]) rfl ?_
            exact ih_22 y4_22 x_75 x_79 σ (zq_m hz (by first | decide | omega | (have hL := z_lits; omega))) (by have h9 := z_inc9 (by omega) e_79; have h8 := zsn_20 hJ t_6 n_30 c_33; omega) (by have := z_inc9 (by omega) e_79; omega) (by have h9 := z_inc9 (by omega) e_79; have h8 := zsn_20 hJ t_6 n_30 c_33; omega)
    refine zv_istore (lv' := [(4, za_I 0), (3, za_I 0), (2, za_I (-2)), (0, za_O 19 93), (1, za_I a1)]) G dX10_longest_20 (by decide) rfl ?_
    refine zv_sub [3, 4, 2, 1, 0] (lv' := [(0, za_O 19 93), (1, za_I a1), (2, za_I (-2)), (3, za_I 0), (4, za_I 0)]) rfl ?_
    exact J_22 _ (-2) (0 : Int32) (0 : Int32) σ (zq_m hz (by first | decide | omega | (have hL := z_lits; omega))) (by decide) (by decide) (Nat.lt_succ_self _)
  · have f_6 := fun q9 => (h_6.2.mpr q9) c_9
    refine zv_iconst (v := (-1)) G dX10_longest_12 (by decide) ?_
    exact zv_iret G hr dX10_longest_13 (zq_m hz (by first | decide | omega | (have hL := z_lits; omega)))
set_option maxHeartbeats 4000000 in
set_option maxRecDepth 100000 in
theorem zc_X10_gaps (l : Launch) (E : za_E) (t : Int32) (k : Int32) (fd : Int32) (td : Int32) (σ0 : za_S) (hJ : zJ σ0) : zMi l E yX10_gaps cX10_gaps 9 (Option.some Jvm.ClassFile.FieldType.int) 4 89 [za_O 19 93, za_I t, za_I k, za_I fd, za_I td] σ0 (fun r σ' => zq 12 σ0 σ') := by
  refine zMi_of [(0, za_O 19 93), (1, za_I t), (2, za_I k), (3, za_I fd), (4, za_I td)] (by decide) rfl rfl (Nat.le_of_ble_eq_true rfl) ?_
  intro ho p e s m args below meth c G hr
  refine zv_gen (R9 := zq 12 σ0) (zq_0 hJ) (fun σ hz => ?_)
  refine zv_aload_n (j := 0) G dX10_gaps_0 rfl rfl ?_
  refine zv_iconst (v := 0) G dX10_gaps_1 (by decide) ?_
  refine zp_X10_3 G dX10_gaps_2 ?_
  refine zv_gen (R9 := zq 12 σ0) (zq_93 hz (by decide)) (fun σ hz => ?_)
  refine zv_iload_n (j := 1) G dX10_gaps_5 rfl rfl ?_
  refine zv_callSi (as := [za_I t]) G (zc_X10_isTable l E t σ ) zk_X10_isTable zm_1309 rfl ⟨(Nat.le_of_ble_eq_true rfl), (Nat.le_of_ble_eq_true rfl)⟩ ⟨Nat.zero_le _, Nat.zero_le _⟩ (Nat.le_of_ble_eq_true rfl) dX10_gaps_6 (fun r_6 σ h_6 => ?_)
  obtain ⟨h_6, rfl⟩ := h_6
  refine zv_if_eq (tgt := 28) G dX10_gaps_9 (by decide) (fun c_9 => ?_) (fun c_9 => ?_)
  · have f_6 := fun q9 => (h_6.2.mpr q9) c_9
    refine zv_iconst (v := (-1)) G dX10_gaps_28 (by decide) ?_
    exact zv_iret G hr dX10_gaps_29 (zq_m hz (by first | decide | omega | (have hL := z_lits; omega)))
  · have t_6 := h_6.2.mp c_9
    refine zv_iload_n (j := 2) G dX10_gaps_12 rfl rfl ?_
    refine zv_callSi (as := [za_I k]) G (zc_X10_isKey l E k σ ) zk_X10_isKey zm_1371 rfl ⟨(Nat.le_of_ble_eq_true rfl), (Nat.le_of_ble_eq_true rfl)⟩ ⟨Nat.zero_le _, Nat.zero_le _⟩ (Nat.le_of_ble_eq_true rfl) dX10_gaps_13 (fun r_13 σ h_13 => ?_)
    obtain ⟨h_13, rfl⟩ := h_13
    refine zv_if_eq (tgt := 28) G dX10_gaps_16 (by decide) (fun c_16 => ?_) (fun c_16 => ?_)
    · have f_13 := fun q9 => (h_13.2.mpr q9) c_16
      refine zv_iconst (v := (-1)) G dX10_gaps_28 (by decide) ?_
      exact zv_iret G hr dX10_gaps_29 (zq_m hz (by first | decide | omega | (have hL := z_lits; omega)))
    · have t_13 := h_13.2.mp c_16
      refine zv_iload_n (j := 3) G dX10_gaps_19 rfl rfl ?_
      refine zv_iload (j := 4) G dX10_gaps_20 rfl ?_
      refine zv_callSi (as := [za_I fd, za_I td]) G (zc_X10_isPeriod l E fd td σ ) zk_X10_isPeriod zm_1375 rfl ⟨(Nat.le_of_ble_eq_true rfl), (Nat.le_of_ble_eq_true rfl)⟩ ⟨Nat.zero_le _, Nat.zero_le _⟩ (Nat.le_of_ble_eq_true rfl) dX10_gaps_22 (fun r_22 σ h_22 => ?_)
      obtain ⟨h_22, rfl⟩ := h_22
      refine zv_if_ne (tgt := 30) G dX10_gaps_25 (by decide) (fun c_25 => ?_) (fun c_25 => ?_)
      · have t_22 := h_22.2.mp c_25
        refine zv_iconst (v := 0) G dX10_gaps_30 (by decide) ?_
        refine zv_istore (lv' := [(5, za_I 0), (0, za_O 19 93), (1, za_I t), (2, za_I k), (3, za_I fd), (4, za_I td)]) G dX10_gaps_31 (by decide) rfl ?_
        refine zv_aload_n (j := 1) G dX10_gaps_33 rfl rfl ?_
        refine zv_iconst (v := 0) G dX10_gaps_34 (by decide) ?_
        refine zp_X10_15 G dX10_gaps_35 ?_
        refine zv_gen (R9 := zq 0 σ0) (zq_t0 hz) (fun σ hz => ?_)
        refine zv_iload_n (j := 4) G dX10_gaps_38 rfl rfl ?_
        have J_41 : ∀ (n : Nat) (y5_41 : Int32) (y6_41 : Int32) (σ : za_S) (hz : zq (if y5_41.toInt = 0 then 0 else 2) σ0 σ) (g_41 : 0 ≤ y5_41.toInt ∧ y5_41.toInt ≤ y6_41.toInt) (i6_41 : 0 ≤ y6_41.toInt) (hn_41 : (2147483648 - y6_41.toInt).toNat < n), zV p l e (zRm 4 89) s m args below meth c E (za_A E) 9 0 0 (MQ below (va_Qi (fun r σ' => zq 12 σ0 σ') (zB E) (za_A E)) args s 0 0 (za_A E)) 41 [(0, za_O 19 93), (1, za_I t), (2, za_I k), (4, za_I td), (5, za_I y5_41), (6, za_I y6_41)] [] σ := by
          intro n
          induction n with
          | zero => intro y5_41 y6_41 σ hz g_41 i6_41 hn; exact absurd hn (Nat.not_lt_zero _)
          | succ n ih_41 =>
            intro y5_41 y6_41 σ hz g_41 i6_41 hn_41
            refine zv_iload (j := 5) G dX10_gaps_41 rfl ?_
            refine zv_iload (j := 3) G dX10_gaps_43 rfl ?_
            refine zv_icmp_ge (tgt := 140) G dX10_gaps_45 (by decide) (fun c_45 => ?_) (fun c_45 => ?_)
            · have k_45 := z_cle c_45 (a := td.toInt) (b := y6_41.toInt) rfl rfl
              refine zv_iload (j := 4) G dX10_gaps_140 rfl ?_
              exact zv_iret G hr dX10_gaps_142 (zq_m hz (by first | decide | omega | (have hL := z_lits; omega)))
            · have k_45 := z_cnle c_45 (a := td.toInt) (b := y6_41.toInt) rfl rfl
              refine zv_aload_n (j := 0) G dX10_gaps_48 rfl rfl ?_
              refine zg_X10_118 G dX10_gaps_49 ?_
              refine zv_iload_n (j := 1) G dX10_gaps_52 rfl rfl ?_
              refine zv_iload_n (j := 2) G dX10_gaps_53 rfl rfl ?_
              refine zv_iload (j := 5) G dX10_gaps_54 rfl ?_
              refine zv_callSi (as := [za_O 22 99, za_I t, za_I k, za_I y6_41]) G (zc_X10_isThere l E 99 t k y6_41 σ (by first | assumption | decide | omega | exact hz.2.1.1 | exact hz.2.1.2) (by first | assumption | decide | omega | exact hz.2.1.1 | exact hz.2.1.2)) zk_X10_isThere zm_1320 rfl ⟨(Nat.le_of_ble_eq_true rfl), (Nat.le_of_ble_eq_true rfl)⟩ ⟨Nat.zero_le _, Nat.zero_le _⟩ (Nat.le_of_ble_eq_true rfl) dX10_gaps_56 (fun r_56 σ h_56 => ?_)
              obtain ⟨h_56, rfl⟩ := h_56
              have J_67 : ∀ (s0_67 : Int32) (σ : za_S) (hz : zq (if y5_41.toInt = 0 then 0 else 2) σ0 σ) (bs0_67 : s0_67 = 0 ∨ s0_67 = 1), zV p l e (zRm 4 89) s m args below meth c E (za_A E) 9 0 0 (MQ below (va_Qi (fun r σ' => zq 12 σ0 σ') (zB E) (za_A E)) args s 0 0 (za_A E)) 67 [(0, za_O 19 93), (1, za_I t), (2, za_I k), (4, za_I td), (5, za_I y5_41), (6, za_I y6_41)] [za_I s0_67] σ := by
                intro s0_67 σ hz bs0_67
                refine zv_istore (lv' := [(7, za_I s0_67), (0, za_O 19 93), (1, za_I t), (2, za_I k), (4, za_I td), (5, za_I y5_41), (6, za_I y6_41)]) G dX10_gaps_67 (by decide) rfl ?_
                refine zv_iload (j := 0) G dX10_gaps_69 rfl ?_
                refine zv_if_eq (tgt := 124) G dX10_gaps_71 (by decide) (fun c_71 => ?_) (fun c_71 => ?_)
                · have k_71 := z_ceq c_71 (a := s0_67.toInt) (b := 0) rfl rfl
                  refine zv_iload (j := 5) G dX10_gaps_124 rfl ?_
                  refine zv_iload (j := 0) G dX10_gaps_126 rfl ?_
                  refine zv_callSi (as := [za_I s0_67]) G (zc_X10_flag l E s0_67 σ ) zk_X10_flag zm_1351 rfl ⟨(Nat.le_of_ble_eq_true rfl), (Nat.le_of_ble_eq_true rfl)⟩ ⟨Nat.zero_le _, Nat.zero_le _⟩ (Nat.le_of_ble_eq_true rfl) dX10_gaps_128 (fun r_128 σ h_128 => ?_)
                  obtain ⟨h_128, rfl⟩ := h_128
                  have g_128 := z_flagT h_128.2 (a := s0_67.toInt) rfl
                  refine zv_iadd G dX10_gaps_131 ?_
                  refine zv_top (fun x_132 e_132 => ?_)
                  first | have q_132 := z_addf e_132 (a := y5_41.toInt) (b := r_128.toInt) rfl rfl (by omega) (by omega) | skip
                  refine zv_istore (lv' := [(5, za_I x_132), (7, za_I s0_67), (0, za_O 19 93), (1, za_I t), (2, za_I k), (4, za_I td), (6, za_I y6_41)]) G dX10_gaps_132 (by decide) rfl ?_
                  obtain ⟨x_134, e_134⟩ : ∃ y : Int32, y = y6_41 + 1 := ⟨_, rfl⟩
                  refine zv_iinc (j := 6) (v := x_134) (lv' := [(6, za_I x_134), (5, za_I x_132), (7, za_I s0_67), (0, za_O 19 93), (1, za_I t), (2, za_I k), (4, za_I td)]) G dX10_gaps_134 rfl (by rw [e_134]; rfl) (by decide) rfl ?_
                  first | have q_134 := z_inc9 (by omega) e_134 | skip
                  refine zv_goto (tgt := 41) G dX10_gaps_137 (by decide) ?_
                  refine zv_sub [3, 4, 5, 6, 1, 0] (lv' := [(0, za_O 19 93), (1, za_I t), (2, za_I k), (4, za_I td), (5, za_I x_132), (6, za_I x_134)]) rfl ?_
                  exact ih_41 x_132 x_134 σ (zq_m hz (by first | decide | omega | (have hL := z_lits; omega))) (by have hL := z_lits; omega) (by have := z_inc c_45 e_134; omega) (z_meas c_45 e_134 hn_41)
                · have k_71 := z_cne c_71 (a := s0_67.toInt) (b := 0) rfl rfl
                  refine zv_iload (j := 5) G dX10_gaps_74 rfl ?_
                  refine zv_if_ne (tgt := 124) G dX10_gaps_76 (by decide) (fun c_76 => ?_) (fun c_76 => ?_)
                  · have k_76 := z_cne c_76 (a := y5_41.toInt) (b := 0) rfl rfl
                    refine zv_iload (j := 5) G dX10_gaps_124 rfl ?_
                    refine zv_iload (j := 0) G dX10_gaps_126 rfl ?_
                    refine zv_callSi (as := [za_I s0_67]) G (zc_X10_flag l E s0_67 σ ) zk_X10_flag zm_1351 rfl ⟨(Nat.le_of_ble_eq_true rfl), (Nat.le_of_ble_eq_true rfl)⟩ ⟨Nat.zero_le _, Nat.zero_le _⟩ (Nat.le_of_ble_eq_true rfl) dX10_gaps_128 (fun r_128 σ h_128 => ?_)
                    obtain ⟨h_128, rfl⟩ := h_128
                    have g_128 := z_flagT h_128.2 (a := s0_67.toInt) rfl
                    refine zv_iadd G dX10_gaps_131 ?_
                    refine zv_top (fun x_132 e_132 => ?_)
                    first | have q_132 := z_addf e_132 (a := y5_41.toInt) (b := r_128.toInt) rfl rfl (by omega) (by omega) | skip
                    refine zv_istore (lv' := [(5, za_I x_132), (7, za_I s0_67), (0, za_O 19 93), (1, za_I t), (2, za_I k), (4, za_I td), (6, za_I y6_41)]) G dX10_gaps_132 (by decide) rfl ?_
                    obtain ⟨x_134, e_134⟩ : ∃ y : Int32, y = y6_41 + 1 := ⟨_, rfl⟩
                    refine zv_iinc (j := 6) (v := x_134) (lv' := [(6, za_I x_134), (5, za_I x_132), (7, za_I s0_67), (0, za_O 19 93), (1, za_I t), (2, za_I k), (4, za_I td)]) G dX10_gaps_134 rfl (by rw [e_134]; rfl) (by decide) rfl ?_
                    first | have q_134 := z_inc9 (by omega) e_134 | skip
                    refine zv_goto (tgt := 41) G dX10_gaps_137 (by decide) ?_
                    refine zv_sub [3, 4, 5, 6, 1, 0] (lv' := [(0, za_O 19 93), (1, za_I t), (2, za_I k), (4, za_I td), (5, za_I x_132), (6, za_I x_134)]) rfl ?_
                    exact ih_41 x_132 x_134 σ (zq_m hz (by first | decide | omega | (have hL := z_lits; omega))) (by have hL := z_lits; omega) (by have := z_inc c_45 e_134; omega) (z_meas c_45 e_134 hn_41)
                  · have k_76 := z_ceq c_76 (a := y5_41.toInt) (b := 0) rfl rfl
                    refine zv_iload (j := 6) G dX10_gaps_79 rfl ?_
                    have J_83 : ∀ (n : Nat) (y8_83 : Int32) (σ : za_S) (hz : zq 0 σ0 σ) (i8_83 : 0 ≤ y8_83.toInt) (hn_83 : (2147483648 - y8_83.toInt).toNat < n), zV p l e (zRm 4 89) s m args below meth c E (za_A E) 9 0 0 (MQ below (va_Qi (fun r σ' => zq 12 σ0 σ') (zB E) (za_A E)) args s 0 0 (za_A E)) 83 [(0, za_O 19 93), (1, za_I t), (2, za_I k), (4, za_I td), (5, za_I y5_41), (6, za_I y6_41), (7, za_I s0_67), (8, za_I y8_83)] [] σ := by
                      intro n
                      induction n with
                      | zero => intro y8_83 σ hz i8_83 hn; exact absurd hn (Nat.not_lt_zero _)
                      | succ n ih_83 =>
                        intro y8_83 σ hz i8_83 hn_83
                        refine zv_iload (j := 7) G dX10_gaps_83 rfl ?_
                        refine zv_iload (j := 3) G dX10_gaps_85 rfl ?_
                        have J_110 : ∀  (σ : za_S) (hz : zq 0 σ0 σ), zV p l e (zRm 4 89) s m args below meth c E (za_A E) 9 0 0 (MQ below (va_Qi (fun r σ' => zq 12 σ0 σ') (zB E) (za_A E)) args s 0 0 (za_A E)) 110 [(0, za_O 19 93), (1, za_I t), (2, za_I k), (4, za_I td), (5, za_I y5_41), (6, za_I y6_41), (7, za_I s0_67), (8, za_I y8_83)] [] σ := by
                          intro σ hz
                          refine zv_aload_n (j := 0) G dX10_gaps_110 rfl rfl ?_
                          refine zv_iload (j := 5) G dX10_gaps_111 rfl ?_
                          refine zv_i2l G dX10_gaps_113 ?_
                          refine zv_callVv (as := [za_L y6_41.toInt64]) G (by decide) rfl rfl (zc_X10_enters l E y6_41.toInt64 σ (zq_p hz (by first | decide | omega))) zk_X10_enters zm_1418 rfl ⟨(Nat.le_of_ble_eq_true rfl), (Nat.le_of_ble_eq_true rfl)⟩ ⟨Nat.zero_le _, Nat.zero_le _⟩ (Nat.le_of_ble_eq_true rfl) dX10_gaps_114 (fun σ h_114 => ?_)
                          have hz : zq 1 σ0 σ := zq_e hz h_114
                          refine zv_aload_n (j := 0) G dX10_gaps_117 rfl rfl ?_
                          refine zv_iload (j := 7) G dX10_gaps_118 rfl ?_
                          refine zv_i2l G dX10_gaps_120 ?_
                          refine zv_callVv (as := [za_L y8_83.toInt64]) G (by decide) rfl rfl (zc_X10_enters l E y8_83.toInt64 σ (zq_p hz (by first | decide | omega))) zk_X10_enters zm_1418 rfl ⟨(Nat.le_of_ble_eq_true rfl), (Nat.le_of_ble_eq_true rfl)⟩ ⟨Nat.zero_le _, Nat.zero_le _⟩ (Nat.le_of_ble_eq_true rfl) dX10_gaps_121 (fun σ h_121 => ?_)
                          have hz : zq 2 σ0 σ := zq_e hz h_121
                          refine zv_iload (j := 4) G dX10_gaps_124 rfl ?_
                          refine zv_iload (j := 6) G dX10_gaps_126 rfl ?_
                          refine zv_callSi (as := [za_I s0_67]) G (zc_X10_flag l E s0_67 σ ) zk_X10_flag zm_1351 rfl ⟨(Nat.le_of_ble_eq_true rfl), (Nat.le_of_ble_eq_true rfl)⟩ ⟨Nat.zero_le _, Nat.zero_le _⟩ (Nat.le_of_ble_eq_true rfl) dX10_gaps_128 (fun r_128 σ h_128 => ?_)
                          obtain ⟨h_128, rfl⟩ := h_128
                          have g_128 := z_flagT h_128.2 (a := s0_67.toInt) rfl
                          refine zv_iadd G dX10_gaps_131 ?_
                          refine zv_top (fun x_132 e_132 => ?_)
                          first | have q_132 := z_addf e_132 (a := y5_41.toInt) (b := r_128.toInt) rfl rfl (by omega) (by omega) | skip
                          refine zv_istore (lv' := [(5, za_I x_132), (0, za_O 19 93), (1, za_I t), (2, za_I k), (4, za_I td), (6, za_I y6_41), (7, za_I s0_67), (8, za_I y8_83)]) G dX10_gaps_132 (by decide) rfl ?_
                          obtain ⟨x_134, e_134⟩ : ∃ y : Int32, y = y6_41 + 1 := ⟨_, rfl⟩
                          refine zv_iinc (j := 5) (v := x_134) (lv' := [(6, za_I x_134), (5, za_I x_132), (0, za_O 19 93), (1, za_I t), (2, za_I k), (4, za_I td), (7, za_I s0_67), (8, za_I y8_83)]) G dX10_gaps_134 rfl (by rw [e_134]; rfl) (by decide) rfl ?_
                          first | have q_134 := z_inc9 (by omega) e_134 | skip
                          refine zv_goto (tgt := 41) G dX10_gaps_137 (by decide) ?_
                          refine zv_sub [2, 3, 4, 5, 1, 0] (lv' := [(0, za_O 19 93), (1, za_I t), (2, za_I k), (4, za_I td), (5, za_I x_132), (6, za_I x_134)]) rfl ?_
                          exact ih_41 x_132 x_134 σ (zq_m hz (by first | decide | omega | (have hL := z_lits; omega))) (by have hL := z_lits; omega) (by have := z_inc c_45 e_134; omega) (z_meas c_45 e_134 hn_41)
                        refine zv_icmp_ge (tgt := 110) G dX10_gaps_87 (by decide) (fun c_87 => ?_) (fun c_87 => ?_)
                        · have k_87 := z_cle c_87 (a := td.toInt) (b := y8_83.toInt) rfl rfl
                          refine zv_sub [0, 1, 2, 3, 4, 5, 6, 7] (lv' := [(0, za_O 19 93), (1, za_I t), (2, za_I k), (4, za_I td), (5, za_I y5_41), (6, za_I y6_41), (7, za_I s0_67), (8, za_I y8_83)]) rfl ?_
                          exact J_110 σ (zq_m hz (by first | decide | omega | (have hL := z_lits; omega)))
                        · have k_87 := z_cnle c_87 (a := td.toInt) (b := y8_83.toInt) rfl rfl
                          refine zv_aload_n (j := 0) G dX10_gaps_90 rfl rfl ?_
                          refine zg_X10_118 G dX10_gaps_91 ?_
                          refine zv_iload_n (j := 1) G dX10_gaps_94 rfl rfl ?_
                          refine zv_iload_n (j := 2) G dX10_gaps_95 rfl rfl ?_
                          refine zv_iload (j := 7) G dX10_gaps_96 rfl ?_
                          refine zv_callSi (as := [za_O 22 99, za_I t, za_I k, za_I y8_83]) G (zc_X10_isThere l E 99 t k y8_83 σ (by first | assumption | decide | omega | exact hz.2.1.1 | exact hz.2.1.2) (by first | assumption | decide | omega | exact hz.2.1.1 | exact hz.2.1.2)) zk_X10_isThere zm_1320 rfl ⟨(Nat.le_of_ble_eq_true rfl), (Nat.le_of_ble_eq_true rfl)⟩ ⟨Nat.zero_le _, Nat.zero_le _⟩ (Nat.le_of_ble_eq_true rfl) dX10_gaps_98 (fun r_98 σ h_98 => ?_)
                          obtain ⟨h_98, rfl⟩ := h_98
                          refine zv_if_ne (tgt := 110) G dX10_gaps_101 (by decide) (fun c_101 => ?_) (fun c_101 => ?_)
                          · have t_98 := h_98.2.mp c_101
                            refine zv_sub [0, 1, 2, 3, 4, 5, 6, 7] (lv' := [(0, za_O 19 93), (1, za_I t), (2, za_I k), (4, za_I td), (5, za_I y5_41), (6, za_I y6_41), (7, za_I s0_67), (8, za_I y8_83)]) rfl ?_
                            exact J_110 σ (zq_m hz (by first | decide | omega | (have hL := z_lits; omega)))
                          · have f_98 := fun q9 => (h_98.2.mpr q9) c_101
                            obtain ⟨x_104, e_104⟩ : ∃ y : Int32, y = y8_83 + 1 := ⟨_, rfl⟩
                            refine zv_iinc (j := 7) (v := x_104) (lv' := [(8, za_I x_104), (0, za_O 19 93), (1, za_I t), (2, za_I k), (4, za_I td), (5, za_I y5_41), (6, za_I y6_41), (7, za_I s0_67)]) G dX10_gaps_104 rfl (by rw [e_104]; rfl) (by decide) rfl ?_
                            first | have q_104 := z_inc9 (by omega) e_104 | skip
                            refine zv_goto (tgt := 83) G dX10_gaps_107 (by decide) ?_
                            refine zv_sub [1, 2, 3, 4, 5, 6, 7, 0] (lv' := [(0, za_O 19 93), (1, za_I t), (2, za_I k), (4, za_I td), (5, za_I y5_41), (6, za_I y6_41), (7, za_I s0_67), (8, za_I x_104)]) rfl ?_
                            exact ih_83 x_104 σ (zq_m hz (by first | decide | omega | (have hL := z_lits; omega))) (by have := z_inc c_87 e_104; omega) (z_meas c_87 e_104 hn_83)
                    refine zv_istore (lv' := [(8, za_I y6_41), (7, za_I s0_67), (0, za_O 19 93), (1, za_I t), (2, za_I k), (4, za_I td), (5, za_I y5_41), (6, za_I y6_41)]) G dX10_gaps_81 (by decide) rfl ?_
                    refine zv_sub [2, 3, 4, 5, 6, 7, 1, 0] (lv' := [(0, za_O 19 93), (1, za_I t), (2, za_I k), (4, za_I td), (5, za_I y5_41), (6, za_I y6_41), (7, za_I s0_67), (8, za_I y6_41)]) rfl ?_
                    exact J_83 _ y6_41 σ (zq_m hz (by first | decide | omega | (have hL := z_lits; omega))) i6_41 (Nat.lt_succ_self _)
              refine zv_if_ne (tgt := 66) G dX10_gaps_59 (by decide) (fun c_59 => ?_) (fun c_59 => ?_)
              · have t_56 := h_56.2.mp c_59
                refine zv_iconst (v := 0) G dX10_gaps_66 (by decide) ?_
                refine zv_sub [0, 1, 2, 3, 4, 5] (lv' := [(0, za_O 19 93), (1, za_I t), (2, za_I k), (4, za_I td), (5, za_I y5_41), (6, za_I y6_41)]) rfl ?_
                exact J_67 (0 : Int32) σ (zq_m hz (by first | decide | omega | (have hL := z_lits; omega))) (Or.inl rfl)
              · have f_56 := fun q9 => (h_56.2.mpr q9) c_59
                refine zv_iconst (v := 1) G dX10_gaps_62 (by decide) ?_
                refine zv_goto (tgt := 67) G dX10_gaps_63 (by decide) ?_
                refine zv_sub [0, 1, 2, 3, 4, 5] (lv' := [(0, za_O 19 93), (1, za_I t), (2, za_I k), (4, za_I td), (5, za_I y5_41), (6, za_I y6_41)]) rfl ?_
                exact J_67 (1 : Int32) σ (zq_m hz (by first | decide | omega | (have hL := z_lits; omega))) (Or.inr rfl)
        refine zv_istore (lv' := [(6, za_I fd), (5, za_I 0), (0, za_O 19 93), (1, za_I t), (2, za_I k), (3, za_I fd), (4, za_I td)]) G dX10_gaps_39 (by decide) rfl ?_
        refine zv_sub [2, 3, 4, 6, 1, 0] (lv' := [(0, za_O 19 93), (1, za_I t), (2, za_I k), (4, za_I td), (5, za_I 0), (6, za_I fd)]) rfl ?_
        exact J_41 _ (0 : Int32) fd σ (zq_m hz (by first | decide | omega | (have hL := z_lits; omega))) (by have hL := z_lits; omega) (by first | assumption | omega) (Nat.lt_succ_self _)
      · have f_22 := fun q9 => (h_22.2.mpr q9) c_25
        refine zv_iconst (v := (-1)) G dX10_gaps_28 (by decide) ?_
        exact zv_iret G hr dX10_gaps_29 (zq_m hz (by first | decide | omega | (have hL := z_lits; omega)))
set_option maxHeartbeats 4000000 in
set_option maxRecDepth 100000 in
theorem zc_X10_changes (l : Launch) (E : za_E) (t : Int32) (k : Int32) (σ0 : za_S) (hJ : zJ σ0) : zMi l E yX10_changes cX10_changes 6 (Option.some Jvm.ClassFile.FieldType.int) 4 89 [za_O 19 93, za_I t, za_I k] σ0 (fun r σ' => zq 12 σ0 σ') := by
  refine zMi_of [(0, za_O 19 93), (1, za_I t), (2, za_I k)] (by decide) rfl rfl (Nat.le_of_ble_eq_true rfl) ?_
  intro ho p e s m args below meth c G hr
  refine zv_gen (R9 := zq 12 σ0) (zq_0 hJ) (fun σ hz => ?_)
  refine zv_aload_n (j := 0) G dX10_changes_0 rfl rfl ?_
  refine zv_iconst (v := 0) G dX10_changes_1 (by decide) ?_
  refine zp_X10_3 G dX10_changes_2 ?_
  refine zv_gen (R9 := zq 12 σ0) (zq_93 hz (by decide)) (fun σ hz => ?_)
  refine zv_iload_n (j := 1) G dX10_changes_5 rfl rfl ?_
  refine zv_callSi (as := [za_I t]) G (zc_X10_isTable l E t σ ) zk_X10_isTable zm_1309 rfl ⟨(Nat.le_of_ble_eq_true rfl), (Nat.le_of_ble_eq_true rfl)⟩ ⟨Nat.zero_le _, Nat.zero_le _⟩ (Nat.le_of_ble_eq_true rfl) dX10_changes_6 (fun r_6 σ h_6 => ?_)
  obtain ⟨h_6, rfl⟩ := h_6
  refine zv_if_eq (tgt := 19) G dX10_changes_9 (by decide) (fun c_9 => ?_) (fun c_9 => ?_)
  · have f_6 := fun q9 => (h_6.2.mpr q9) c_9
    refine zv_iconst (v := (-1)) G dX10_changes_19 (by decide) ?_
    exact zv_iret G hr dX10_changes_20 (zq_m hz (by first | decide | omega | (have hL := z_lits; omega)))
  · have t_6 := h_6.2.mp c_9
    refine zv_iload_n (j := 2) G dX10_changes_12 rfl rfl ?_
    refine zv_callSi (as := [za_I k]) G (zc_X10_isKey l E k σ ) zk_X10_isKey zm_1371 rfl ⟨(Nat.le_of_ble_eq_true rfl), (Nat.le_of_ble_eq_true rfl)⟩ ⟨Nat.zero_le _, Nat.zero_le _⟩ (Nat.le_of_ble_eq_true rfl) dX10_changes_13 (fun r_13 σ h_13 => ?_)
    obtain ⟨h_13, rfl⟩ := h_13
    refine zv_if_ne (tgt := 21) G dX10_changes_16 (by decide) (fun c_16 => ?_) (fun c_16 => ?_)
    · have t_13 := h_13.2.mp c_16
      refine zv_iconst (v := 0) G dX10_changes_21 (by decide) ?_
      refine zv_istore_n (lv' := [(3, za_I 0), (0, za_O 19 93), (1, za_I t), (2, za_I k)]) G dX10_changes_22 rfl (by decide) rfl ?_
      refine zv_aload_n (j := 1) G dX10_changes_23 rfl rfl ?_
      refine zv_iconst (v := 0) G dX10_changes_24 (by decide) ?_
      refine zp_X10_15 G dX10_changes_25 ?_
      refine zv_gen (R9 := zq 0 σ0) (zq_t0 hz) (fun σ hz => ?_)
      refine zv_iconst (v := 1) G dX10_changes_28 (by decide) ?_
      have J_31 : ∀ (n : Nat) (y3_31 : Int32) (y4_31 : Int32) (σ : za_S) (hz : zq (min y3_31.toInt 12) σ0 σ) (g_31 : 0 ≤ y3_31.toInt ∧ y3_31.toInt ≤ y4_31.toInt) (i4_31 : 0 ≤ y4_31.toInt) (u4_31 : y4_31.toInt ≤ 100) (hn_31 : (2147483648 - y4_31.toInt).toNat < n), zV p l e (zRm 4 89) s m args below meth c E (za_A E) 6 0 0 (MQ below (va_Qi (fun r σ' => zq 12 σ0 σ') (zB E) (za_A E)) args s 0 0 (za_A E)) 31 [(0, za_O 19 93), (1, za_I t), (2, za_I k), (3, za_I y3_31), (4, za_I y4_31)] [] σ := by
        intro n
        induction n with
        | zero => intro y3_31 y4_31 σ hz g_31 i4_31 u4_31 hn; exact absurd hn (Nat.not_lt_zero _)
        | succ n ih_31 =>
          intro y3_31 y4_31 σ hz g_31 i4_31 u4_31 hn_31
          refine zv_iload (j := 4) G dX10_changes_31 rfl ?_
          refine zv_bipush (v := 100) G dX10_changes_33 (by decide) ?_
          refine zv_icmp_ge (tgt := 134) G dX10_changes_35 (by decide) (fun c_35 => ?_) (fun c_35 => ?_)
          · have k_35 := z_cle c_35 (a := 100) (b := y4_31.toInt) rfl rfl
            refine zv_iload_n (j := 3) G dX10_changes_134 rfl rfl ?_
            exact zv_iret G hr dX10_changes_135 (zq_m hz (by first | decide | omega | (have hL := z_lits; omega)))
          · have b_35 : 0 ≤ y4_31.toInt ∧ y4_31.toInt < 100 := ⟨i4_31, z_ltk c_35 rfl⟩
            have k_35 := z_cnle c_35 (a := 100) (b := y4_31.toInt) rfl rfl
            refine zv_aload_n (j := 0) G dX10_changes_38 rfl rfl ?_
            refine zg_X10_118 G dX10_changes_39 ?_
            refine zv_iload_n (j := 1) G dX10_changes_42 rfl rfl ?_
            refine zv_iload_n (j := 2) G dX10_changes_43 rfl rfl ?_
            refine zv_iload (j := 4) G dX10_changes_44 rfl ?_
            refine zv_callSi (as := [za_O 22 99, za_I t, za_I k, za_I y4_31]) G (zc_X10_isThere l E 99 t k y4_31 σ (by first | assumption | decide | omega | exact hz.2.1.1 | exact hz.2.1.2) (by first | assumption | decide | omega | exact hz.2.1.1 | exact hz.2.1.2)) zk_X10_isThere zm_1320 rfl ⟨(Nat.le_of_ble_eq_true rfl), (Nat.le_of_ble_eq_true rfl)⟩ ⟨Nat.zero_le _, Nat.zero_le _⟩ (Nat.le_of_ble_eq_true rfl) dX10_changes_46 (fun r_46 σ h_46 => ?_)
            obtain ⟨h_46, rfl⟩ := h_46
            have J_100 : ∀ (s0_100 : Int32) (σ : za_S) (hz : zq (min y3_31.toInt 12) σ0 σ) (bs0_100 : s0_100 = 0 ∨ s0_100 = 1), zV p l e (zRm 4 89) s m args below meth c E (za_A E) 6 0 0 (MQ below (va_Qi (fun r σ' => zq 12 σ0 σ') (zB E) (za_A E)) args s 0 0 (za_A E)) 100 [(0, za_O 19 93), (1, za_I t), (2, za_I k), (3, za_I y3_31), (4, za_I y4_31)] [za_I s0_100] σ := by
              intro s0_100 σ hz bs0_100
              refine zv_istore (lv' := [(5, za_I s0_100), (0, za_O 19 93), (1, za_I t), (2, za_I k), (3, za_I y3_31), (4, za_I y4_31)]) G dX10_changes_100 (by decide) rfl ?_
              refine zv_iload (j := 0) G dX10_changes_102 rfl ?_
              refine zv_if_eq (tgt := 120) G dX10_changes_104 (by decide) (fun c_104 => ?_) (fun c_104 => ?_)
              · have k_104 := z_ceq c_104 (a := s0_100.toInt) (b := 0) rfl rfl
                refine zv_iload_n (j := 4) G dX10_changes_120 rfl rfl ?_
                refine zv_iload (j := 0) G dX10_changes_121 rfl ?_
                refine zv_callSi (as := [za_I s0_100]) G (zc_X10_flag l E s0_100 σ ) zk_X10_flag zm_1351 rfl ⟨(Nat.le_of_ble_eq_true rfl), (Nat.le_of_ble_eq_true rfl)⟩ ⟨Nat.zero_le _, Nat.zero_le _⟩ (Nat.le_of_ble_eq_true rfl) dX10_changes_123 (fun r_123 σ h_123 => ?_)
                obtain ⟨h_123, rfl⟩ := h_123
                have g_123 := z_flagT h_123.2 (a := s0_100.toInt) rfl
                refine zv_iadd G dX10_changes_126 ?_
                refine zv_top (fun x_127 e_127 => ?_)
                first | have q_127 := z_addf e_127 (a := y3_31.toInt) (b := r_123.toInt) rfl rfl (by omega) (by omega) | skip
                refine zv_istore_n (lv' := [(3, za_I x_127), (5, za_I s0_100), (0, za_O 19 93), (1, za_I t), (2, za_I k), (4, za_I y4_31)]) G dX10_changes_127 rfl (by decide) rfl ?_
                obtain ⟨x_128, e_128⟩ : ∃ y : Int32, y = y4_31 + 1 := ⟨_, rfl⟩
                refine zv_iinc (j := 5) (v := x_128) (lv' := [(4, za_I x_128), (3, za_I x_127), (5, za_I s0_100), (0, za_O 19 93), (1, za_I t), (2, za_I k)]) G dX10_changes_128 rfl (by rw [e_128]; rfl) (by decide) rfl ?_
                first | have q_128 := z_inc9 (by omega) e_128 | skip
                refine zv_goto (tgt := 31) G dX10_changes_131 (by decide) ?_
                refine zv_sub [3, 4, 5, 1, 0] (lv' := [(0, za_O 19 93), (1, za_I t), (2, za_I k), (3, za_I x_127), (4, za_I x_128)]) rfl ?_
                exact ih_31 x_127 x_128 σ (zq_m hz (by first | decide | omega | (have hL := z_lits; omega))) (by have hL := z_lits; omega) (by have := z_inc c_35 e_128; omega) (by have := z_inc9 (by omega) e_128; omega) (z_meas c_35 e_128 hn_31)
              · have k_104 := z_cne c_104 (a := s0_100.toInt) (b := 0) rfl rfl
                refine zv_iload_n (j := 4) G dX10_changes_107 rfl rfl ?_
                refine zv_bipush (v := 12) G dX10_changes_108 (by decide) ?_
                refine zv_icmp_ge (tgt := 120) G dX10_changes_110 (by decide) (fun c_110 => ?_) (fun c_110 => ?_)
                · have k_110 := z_cle c_110 (a := 12) (b := y3_31.toInt) rfl rfl
                  refine zv_iload_n (j := 4) G dX10_changes_120 rfl rfl ?_
                  refine zv_iload (j := 0) G dX10_changes_121 rfl ?_
                  refine zv_callSi (as := [za_I s0_100]) G (zc_X10_flag l E s0_100 σ ) zk_X10_flag zm_1351 rfl ⟨(Nat.le_of_ble_eq_true rfl), (Nat.le_of_ble_eq_true rfl)⟩ ⟨Nat.zero_le _, Nat.zero_le _⟩ (Nat.le_of_ble_eq_true rfl) dX10_changes_123 (fun r_123 σ h_123 => ?_)
                  obtain ⟨h_123, rfl⟩ := h_123
                  have g_123 := z_flagT h_123.2 (a := s0_100.toInt) rfl
                  refine zv_iadd G dX10_changes_126 ?_
                  refine zv_top (fun x_127 e_127 => ?_)
                  first | have q_127 := z_addf e_127 (a := y3_31.toInt) (b := r_123.toInt) rfl rfl (by omega) (by omega) | skip
                  refine zv_istore_n (lv' := [(3, za_I x_127), (5, za_I s0_100), (0, za_O 19 93), (1, za_I t), (2, za_I k), (4, za_I y4_31)]) G dX10_changes_127 rfl (by decide) rfl ?_
                  obtain ⟨x_128, e_128⟩ : ∃ y : Int32, y = y4_31 + 1 := ⟨_, rfl⟩
                  refine zv_iinc (j := 5) (v := x_128) (lv' := [(4, za_I x_128), (3, za_I x_127), (5, za_I s0_100), (0, za_O 19 93), (1, za_I t), (2, za_I k)]) G dX10_changes_128 rfl (by rw [e_128]; rfl) (by decide) rfl ?_
                  first | have q_128 := z_inc9 (by omega) e_128 | skip
                  refine zv_goto (tgt := 31) G dX10_changes_131 (by decide) ?_
                  refine zv_sub [3, 4, 5, 1, 0] (lv' := [(0, za_O 19 93), (1, za_I t), (2, za_I k), (3, za_I x_127), (4, za_I x_128)]) rfl ?_
                  exact ih_31 x_127 x_128 σ (zq_m hz (by first | decide | omega | (have hL := z_lits; omega))) (by have hL := z_lits; omega) (by have := z_inc c_35 e_128; omega) (by have := z_inc9 (by omega) e_128; omega) (z_meas c_35 e_128 hn_31)
                · have k_110 := z_cnle c_110 (a := 12) (b := y3_31.toInt) rfl rfl
                  refine zv_aload_n (j := 1) G dX10_changes_113 rfl rfl ?_
                  refine zv_iload (j := 5) G dX10_changes_114 rfl ?_
                  refine zv_i2l G dX10_changes_116 ?_
                  refine zv_callVv (as := [za_L y4_31.toInt64]) G (by decide) rfl rfl (zc_X10_enters l E y4_31.toInt64 σ (zq_p hz (by first | decide | omega))) zk_X10_enters zm_1418 rfl ⟨(Nat.le_of_ble_eq_true rfl), (Nat.le_of_ble_eq_true rfl)⟩ ⟨Nat.zero_le _, Nat.zero_le _⟩ (Nat.le_of_ble_eq_true rfl) dX10_changes_117 (fun σ h_117 => ?_)
                  have hz : zq ((min y3_31.toInt 12) + 1) σ0 σ := zq_e hz h_117
                  refine zv_iload_n (j := 4) G dX10_changes_120 rfl rfl ?_
                  refine zv_iload (j := 0) G dX10_changes_121 rfl ?_
                  refine zv_callSi (as := [za_I s0_100]) G (zc_X10_flag l E s0_100 σ ) zk_X10_flag zm_1351 rfl ⟨(Nat.le_of_ble_eq_true rfl), (Nat.le_of_ble_eq_true rfl)⟩ ⟨Nat.zero_le _, Nat.zero_le _⟩ (Nat.le_of_ble_eq_true rfl) dX10_changes_123 (fun r_123 σ h_123 => ?_)
                  obtain ⟨h_123, rfl⟩ := h_123
                  have g_123 := z_flagT h_123.2 (a := s0_100.toInt) rfl
                  refine zv_iadd G dX10_changes_126 ?_
                  refine zv_top (fun x_127 e_127 => ?_)
                  first | have q_127 := z_addf e_127 (a := y3_31.toInt) (b := r_123.toInt) rfl rfl (by omega) (by omega) | skip
                  refine zv_istore_n (lv' := [(3, za_I x_127), (5, za_I s0_100), (0, za_O 19 93), (1, za_I t), (2, za_I k), (4, za_I y4_31)]) G dX10_changes_127 rfl (by decide) rfl ?_
                  obtain ⟨x_128, e_128⟩ : ∃ y : Int32, y = y4_31 + 1 := ⟨_, rfl⟩
                  refine zv_iinc (j := 5) (v := x_128) (lv' := [(4, za_I x_128), (3, za_I x_127), (5, za_I s0_100), (0, za_O 19 93), (1, za_I t), (2, za_I k)]) G dX10_changes_128 rfl (by rw [e_128]; rfl) (by decide) rfl ?_
                  first | have q_128 := z_inc9 (by omega) e_128 | skip
                  refine zv_goto (tgt := 31) G dX10_changes_131 (by decide) ?_
                  refine zv_sub [3, 4, 5, 1, 0] (lv' := [(0, za_O 19 93), (1, za_I t), (2, za_I k), (3, za_I x_127), (4, za_I x_128)]) rfl ?_
                  exact ih_31 x_127 x_128 σ (zq_m hz (by first | decide | omega | (have hL := z_lits; omega))) (by have hL := z_lits; omega) (by have := z_inc c_35 e_128; omega) (by have := z_inc9 (by omega) e_128; omega) (z_meas c_35 e_128 hn_31)
            have J_99 : ∀  (σ : za_S) (hz : zq (min y3_31.toInt 12) σ0 σ), zV p l e (zRm 4 89) s m args below meth c E (za_A E) 6 0 0 (MQ below (va_Qi (fun r σ' => zq 12 σ0 σ') (zB E) (za_A E)) args s 0 0 (za_A E)) 99 [(0, za_O 19 93), (1, za_I t), (2, za_I k), (3, za_I y3_31), (4, za_I y4_31)] [] σ := by
              intro σ hz
              refine zv_iconst (v := 0) G dX10_changes_99 (by decide) ?_
              refine zv_sub [0, 1, 2, 3, 4] (lv' := [(0, za_O 19 93), (1, za_I t), (2, za_I k), (3, za_I y3_31), (4, za_I y4_31)]) rfl ?_
              exact J_100 (0 : Int32) σ (zq_m hz (by first | decide | omega | (have hL := z_lits; omega))) (Or.inl rfl)
            refine zv_if_eq (tgt := 99) G dX10_changes_49 (by decide) (fun c_49 => ?_) (fun c_49 => ?_)
            · have f_46 := fun q9 => (h_46.2.mpr q9) c_49
              refine zv_sub [0, 1, 2, 3, 4] (lv' := [(0, za_O 19 93), (1, za_I t), (2, za_I k), (3, za_I y3_31), (4, za_I y4_31)]) rfl ?_
              exact J_99 σ (zq_m hz (by first | decide | omega | (have hL := z_lits; omega)))
            · have t_46 := h_46.2.mp c_49
              refine zv_aload_n (j := 0) G dX10_changes_52 rfl rfl ?_
              refine zg_X10_118 G dX10_changes_53 ?_
              refine zv_iload_n (j := 1) G dX10_changes_56 rfl rfl ?_
              refine zv_iload_n (j := 2) G dX10_changes_57 rfl rfl ?_
              refine zv_iload (j := 4) G dX10_changes_58 rfl ?_
              refine zv_iconst (v := 1) G dX10_changes_60 (by decide) ?_
              refine zv_isub G dX10_changes_61 ?_
              refine zv_callSi (as := [za_O 22 99, za_I t, za_I k, za_I (y4_31 - 1)]) G (zc_X10_isThere l E 99 t k (y4_31 - 1) σ (by first | assumption | decide | omega | exact hz.2.1.1 | exact hz.2.1.2) (by first | assumption | decide | omega | exact hz.2.1.1 | exact hz.2.1.2)) zk_X10_isThere zm_1320 rfl ⟨(Nat.le_of_ble_eq_true rfl), (Nat.le_of_ble_eq_true rfl)⟩ ⟨Nat.zero_le _, Nat.zero_le _⟩ (Nat.le_of_ble_eq_true rfl) dX10_changes_62 (fun r_62 σ h_62 => ?_)
              obtain ⟨h_62, rfl⟩ := h_62
              refine zv_if_eq (tgt := 99) G dX10_changes_65 (by decide) (fun c_65 => ?_) (fun c_65 => ?_)
              · have f_62 := fun q9 => (h_62.2.mpr q9) c_65
                refine zv_sub [0, 1, 2, 3, 4] (lv' := [(0, za_O 19 93), (1, za_I t), (2, za_I k), (3, za_I y3_31), (4, za_I y4_31)]) rfl ?_
                exact J_99 σ (zq_m hz (by first | decide | omega | (have hL := z_lits; omega)))
              · have t_62 := h_62.2.mp c_65
                refine zv_aload_n (j := 0) G dX10_changes_68 rfl rfl ?_
                refine zg_X10_118 G dX10_changes_69 ?_
                refine zv_iload_n (j := 1) G dX10_changes_72 rfl rfl ?_
                refine zv_iload_n (j := 2) G dX10_changes_73 rfl rfl ?_
                refine zv_iload (j := 4) G dX10_changes_74 rfl ?_
                refine zv_callSi (as := [za_O 22 99, za_I t, za_I k, za_I y4_31]) G (zc_X10_valueOn l E 99 t k y4_31 σ (by first | assumption | decide | omega | exact hz.2.1.1 | exact hz.2.1.2) (by first | assumption | decide | omega | exact hz.2.1.1 | exact hz.2.1.2) (by first | assumption | decide | omega | exact hz.2.1.1 | exact hz.2.1.2)) zk_X10_valueOn zm_1334 rfl ⟨(Nat.le_of_ble_eq_true rfl), (Nat.le_of_ble_eq_true rfl)⟩ ⟨Nat.zero_le _, Nat.zero_le _⟩ (Nat.le_of_ble_eq_true rfl) dX10_changes_76 (fun r_76 σ h_76 => ?_)
                obtain ⟨h_76, rfl⟩ := h_76
                refine zv_aload_n (j := 0) G dX10_changes_79 rfl rfl ?_
                refine zg_X10_118 G dX10_changes_80 ?_
                refine zv_iload_n (j := 1) G dX10_changes_83 rfl rfl ?_
                refine zv_iload_n (j := 2) G dX10_changes_84 rfl rfl ?_
                refine zv_iload (j := 4) G dX10_changes_85 rfl ?_
                refine zv_iconst (v := 1) G dX10_changes_87 (by decide) ?_
                refine zv_isub G dX10_changes_88 ?_
                refine zv_callSi (as := [za_O 22 99, za_I t, za_I k, za_I (y4_31 - 1)]) G (zc_X10_valueOn l E 99 t k (y4_31 - 1) σ (by omega) (by omega) t_62.1) zk_X10_valueOn zm_1334 rfl ⟨(Nat.le_of_ble_eq_true rfl), (Nat.le_of_ble_eq_true rfl)⟩ ⟨Nat.zero_le _, Nat.zero_le _⟩ (Nat.le_of_ble_eq_true rfl) dX10_changes_89 (fun r_89 σ h_89 => ?_)
                obtain ⟨h_89, rfl⟩ := h_89
                refine zv_icmp_eq (tgt := 99) G dX10_changes_92 (by decide) (fun c_92 => ?_) (fun c_92 => ?_)
                · have k_92 := z_ceq c_92 (a := r_76.toInt) (b := r_89.toInt) rfl rfl
                  refine zv_sub [0, 1, 2, 3, 4] (lv' := [(0, za_O 19 93), (1, za_I t), (2, za_I k), (3, za_I y3_31), (4, za_I y4_31)]) rfl ?_
                  exact J_99 σ (zq_m hz (by first | decide | omega | (have hL := z_lits; omega)))
                · have k_92 := z_cne c_92 (a := r_76.toInt) (b := r_89.toInt) rfl rfl
                  refine zv_iconst (v := 1) G dX10_changes_95 (by decide) ?_
                  refine zv_goto (tgt := 100) G dX10_changes_96 (by decide) ?_
                  refine zv_sub [0, 1, 2, 3, 4] (lv' := [(0, za_O 19 93), (1, za_I t), (2, za_I k), (3, za_I y3_31), (4, za_I y4_31)]) rfl ?_
                  exact J_100 (1 : Int32) σ (zq_m hz (by first | decide | omega | (have hL := z_lits; omega))) (Or.inr rfl)
      refine zv_istore (lv' := [(4, za_I 1), (3, za_I 0), (0, za_O 19 93), (1, za_I t), (2, za_I k)]) G dX10_changes_29 (by decide) rfl ?_
      refine zv_sub [2, 3, 4, 1, 0] (lv' := [(0, za_O 19 93), (1, za_I t), (2, za_I k), (3, za_I 0), (4, za_I 1)]) rfl ?_
      exact J_31 _ (0 : Int32) (1 : Int32) σ (zq_m hz (by first | decide | omega | (have hL := z_lits; omega))) (by have hL := z_lits; omega) (by decide) (by decide) (Nat.lt_succ_self _)
    · have f_13 := fun q9 => (h_13.2.mpr q9) c_16
      refine zv_iconst (v := (-1)) G dX10_changes_19 (by decide) ?_
      exact zv_iret G hr dX10_changes_20 (zq_m hz (by first | decide | omega | (have hL := z_lits; omega)))
set_option maxHeartbeats 4000000 in
set_option maxRecDepth 100000 in
theorem zc_X10_free (l : Launch) (E : za_E) (t : Int32) (k : Int32) (d : Int32) (n9 : Int32) (σ0 : za_S) (hJ : zJ σ0) : zMi l E yX10_free cX10_free 6 (Option.some Jvm.ClassFile.FieldType.int) 6 138 [za_O 19 93, za_I t, za_I k, za_I d, za_I n9] σ0 (fun r σ' => zq 12 σ0 σ') := by
  refine zMi_of [(0, za_O 19 93), (1, za_I t), (2, za_I k), (3, za_I d), (4, za_I n9)] (by decide) rfl rfl (Nat.le_of_ble_eq_true rfl) ?_
  intro ho p e s m args below meth c G hr
  refine zv_gen (R9 := zq 12 σ0) (zq_0 hJ) (fun σ hz => ?_)
  refine zv_aload_n (j := 0) G dX10_free_0 rfl rfl ?_
  refine zv_iconst (v := 0) G dX10_free_1 (by decide) ?_
  refine zp_X10_3 G dX10_free_2 ?_
  refine zv_gen (R9 := zq 12 σ0) (zq_93 hz (by decide)) (fun σ hz => ?_)
  refine zv_iload_n (j := 1) G dX10_free_5 rfl rfl ?_
  refine zv_callSi (as := [za_I t]) G (zc_X10_isTable l E t σ ) zk_X10_isTable zm_1309 rfl ⟨(Nat.le_of_ble_eq_true rfl), (Nat.le_of_ble_eq_true rfl)⟩ ⟨Nat.zero_le _, Nat.zero_le _⟩ (Nat.le_of_ble_eq_true rfl) dX10_free_6 (fun r_6 σ h_6 => ?_)
  obtain ⟨h_6, rfl⟩ := h_6
  refine zv_if_eq (tgt := 39) G dX10_free_9 (by decide) (fun c_9 => ?_) (fun c_9 => ?_)
  · have f_6 := fun q9 => (h_6.2.mpr q9) c_9
    refine zv_iconst (v := (-1)) G dX10_free_39 (by decide) ?_
    exact zv_iret G hr dX10_free_40 (zq_m hz (by first | decide | omega | (have hL := z_lits; omega)))
  · have t_6 := h_6.2.mp c_9
    refine zv_iload_n (j := 2) G dX10_free_12 rfl rfl ?_
    refine zv_callSi (as := [za_I k]) G (zc_X10_isKey l E k σ ) zk_X10_isKey zm_1371 rfl ⟨(Nat.le_of_ble_eq_true rfl), (Nat.le_of_ble_eq_true rfl)⟩ ⟨Nat.zero_le _, Nat.zero_le _⟩ (Nat.le_of_ble_eq_true rfl) dX10_free_13 (fun r_13 σ h_13 => ?_)
    obtain ⟨h_13, rfl⟩ := h_13
    refine zv_if_eq (tgt := 39) G dX10_free_16 (by decide) (fun c_16 => ?_) (fun c_16 => ?_)
    · have f_13 := fun q9 => (h_13.2.mpr q9) c_16
      refine zv_iconst (v := (-1)) G dX10_free_39 (by decide) ?_
      exact zv_iret G hr dX10_free_40 (zq_m hz (by first | decide | omega | (have hL := z_lits; omega)))
    · have t_13 := h_13.2.mp c_16
      refine zv_iload_n (j := 3) G dX10_free_19 rfl rfl ?_
      refine zv_callSi (as := [za_I d]) G (zc_X10_isDay l E d σ ) zk_X10_isDay zm_1323 rfl ⟨(Nat.le_of_ble_eq_true rfl), (Nat.le_of_ble_eq_true rfl)⟩ ⟨Nat.zero_le _, Nat.zero_le _⟩ (Nat.le_of_ble_eq_true rfl) dX10_free_20 (fun r_20 σ h_20 => ?_)
      obtain ⟨h_20, rfl⟩ := h_20
      refine zv_if_eq (tgt := 39) G dX10_free_23 (by decide) (fun c_23 => ?_) (fun c_23 => ?_)
      · have f_20 := fun q9 => (h_20.2.mpr q9) c_23
        refine zv_iconst (v := (-1)) G dX10_free_39 (by decide) ?_
        exact zv_iret G hr dX10_free_40 (zq_m hz (by first | decide | omega | (have hL := z_lits; omega)))
      · have t_20 := h_20.2.mp c_23
        refine zv_iload (j := 4) G dX10_free_26 rfl ?_
        refine zv_i2l G dX10_free_28 ?_
        refine zv_lconst (v := 1) G dX10_free_29 (by decide) ?_
        refine zv_ldc2 (v := 100) G dX10_free_30 zm_1571 ?_
        refine zv_callSi (as := [za_L n9.toInt64, za_L 1, za_L 100]) G (zc_X10_in l E n9.toInt64 1 100 σ ) zk_X10_in zm_1180 rfl ⟨(Nat.le_of_ble_eq_true rfl), (Nat.le_of_ble_eq_true rfl)⟩ ⟨Nat.zero_le _, Nat.zero_le _⟩ (Nat.le_of_ble_eq_true rfl) dX10_free_33 (fun r_33 σ h_33 => ?_)
        obtain ⟨h_33, rfl⟩ := h_33
        refine zv_if_ne (tgt := 41) G dX10_free_36 (by decide) (fun c_36 => ?_) (fun c_36 => ?_)
        · have t_33 := h_33.2.mp c_36
          refine zv_iload_n (j := 3) G dX10_free_41 rfl rfl ?_
          have J_44 : ∀ (n : Nat) (y5_44 : Int32) (σ : za_S) (hz : zq 12 σ0 σ) (g_44 : y5_44.toInt ≤ 100) (i5_44 : 0 ≤ y5_44.toInt) (hn_44 : (100 - y5_44.toInt).toNat < n), zV p l e (zRm 6 138) s m args below meth c E (za_A E) 6 0 0 (MQ below (va_Qi (fun r σ' => zq 12 σ0 σ') (zB E) (za_A E)) args s 0 0 (za_A E)) 44 [(0, za_O 19 93), (1, za_I t), (2, za_I k), (4, za_I n9), (5, za_I y5_44)] [] σ := by
            intro n
            induction n with
            | zero => intro y5_44 σ hz g_44 i5_44 hn; exact absurd hn (Nat.not_lt_zero _)
            | succ n ih_44 =>
              intro y5_44 σ hz g_44 i5_44 hn_44
              refine zv_iload (j := 4) G dX10_free_44 rfl ?_
              refine zv_iload (j := 3) G dX10_free_46 rfl ?_
              refine zv_iadd G dX10_free_48 ?_
              refine zv_bipush (v := 100) G dX10_free_49 (by decide) ?_
              refine zv_icmp_gt (tgt := 82) G dX10_free_51 (by decide) (fun c_51 => ?_) (fun c_51 => ?_)
              · have k_51 := z_clt c_51 (a := 100) (b := (y5_44 + n9).toInt) rfl rfl
                refine zv_bipush (v := (-2)) G dX10_free_82 (by decide) ?_
                exact zv_iret G hr dX10_free_84 (zq_m hz (by first | decide | omega | (have hL := z_lits; omega)))
              · have k_51 := z_cnlt c_51 (a := 100) (b := (y5_44 + n9).toInt) rfl rfl
                have w_51 := z_addw c_51 i5_44 g_44 t_33
                refine zv_aload_n (j := 0) G dX10_free_54 rfl rfl ?_
                refine zg_X10_118 G dX10_free_55 ?_
                refine zv_iload_n (j := 1) G dX10_free_58 rfl rfl ?_
                refine zv_iload_n (j := 2) G dX10_free_59 rfl rfl ?_
                refine zv_iload (j := 4) G dX10_free_60 rfl ?_
                refine zv_iload (j := 4) G dX10_free_62 rfl ?_
                refine zv_iload (j := 3) G dX10_free_64 rfl ?_
                refine zv_iadd G dX10_free_66 ?_
                refine zv_callSi (as := [za_O 22 99, za_I t, za_I k, za_I y5_44, za_I (y5_44 + n9)]) G (zc_X10_rowsIn l E 99 t k y5_44 (y5_44 + n9) σ (by first | assumption | decide | omega | exact hz.2.1.1 | exact hz.2.1.2) (by first | assumption | decide | omega | exact hz.2.1.1 | exact hz.2.1.2)) zk_X10_rowsIn zm_1378 rfl ⟨(Nat.le_of_ble_eq_true rfl), (Nat.le_of_ble_eq_true rfl)⟩ ⟨Nat.zero_le _, Nat.zero_le _⟩ (Nat.le_of_ble_eq_true rfl) dX10_free_67 (fun r_67 σ h_67 => ?_)
                subst h_67
                refine zv_if_ne (tgt := 76) G dX10_free_70 (by decide) (fun c_70 => ?_) (fun c_70 => ?_)
                · obtain ⟨x_76, e_76⟩ : ∃ y : Int32, y = y5_44 + 1 := ⟨_, rfl⟩
                  refine zv_iinc (j := 4) (v := x_76) (lv' := [(5, za_I x_76), (0, za_O 19 93), (1, za_I t), (2, za_I k), (4, za_I n9)]) G dX10_free_76 rfl (by rw [e_76]; rfl) (by decide) rfl ?_
                  first | have q_76 := z_inc9 (by omega) e_76 | skip
                  refine zv_goto (tgt := 44) G dX10_free_79 (by decide) ?_
                  refine zv_sub [1, 2, 3, 4, 0] (lv' := [(0, za_O 19 93), (1, za_I t), (2, za_I k), (4, za_I n9), (5, za_I x_76)]) rfl ?_
                  exact ih_44 x_76 σ (zq_m hz (by first | decide | omega | (have hL := z_lits; omega))) (by omega) (by have := z_inc9 (by omega) e_76; omega) (by omega)
                · refine zv_iload (j := 4) G dX10_free_73 rfl ?_
                  exact zv_iret G hr dX10_free_75 (zq_m hz (by first | decide | omega | (have hL := z_lits; omega)))
          refine zv_istore (lv' := [(5, za_I d), (0, za_O 19 93), (1, za_I t), (2, za_I k), (3, za_I d), (4, za_I n9)]) G dX10_free_42 (by decide) rfl ?_
          refine zv_sub [1, 2, 3, 5, 0] (lv' := [(0, za_O 19 93), (1, za_I t), (2, za_I k), (4, za_I n9), (5, za_I d)]) rfl ?_
          exact J_44 _ d σ (zq_m hz (by first | decide | omega | (have hL := z_lits; omega))) (by omega) (by first | assumption | omega) (Nat.lt_succ_self _)
        · have f_33 := fun q9 => (h_33.2.mpr q9) c_36
          refine zv_iconst (v := (-1)) G dX10_free_39 (by decide) ?_
          exact zv_iret G hr dX10_free_40 (zq_m hz (by first | decide | omega | (have hL := z_lits; omega)))
set_option maxHeartbeats 4000000 in
set_option maxRecDepth 100000 in
theorem zc_X10_tellsStretches (l : Launch) (E : za_E)  (σ0 : za_S) (hJ : zJ σ0) : zMi l E yX10_tellsStretches cX10_tellsStretches 1 (Option.some Jvm.ClassFile.FieldType.int) 1 21 [za_O 19 93] σ0 (fun r σ' => zq 12 σ0 σ') := by
  refine zMi_of [(0, za_O 19 93)] (by decide) rfl rfl (Nat.le_of_ble_eq_true rfl) ?_
  intro ho p e s m args below meth c G hr
  refine zv_gen (R9 := zq 12 σ0) (zq_0 hJ) (fun σ hz => ?_)
  refine zv_aload_n (j := 0) G dX10_tellsStretches_0 rfl rfl ?_
  refine zg_X10_11 G dX10_tellsStretches_1 ?_
  refine zv_iconst (v := 0) G dX10_tellsStretches_4 (by decide) ?_
  refine zv_aload_n (j := 0) G dX10_tellsStretches_5 rfl rfl ?_
  refine zg_X10_365 G dX10_tellsStretches_6 ?_
  refine zv_i2l G dX10_tellsStretches_9 ?_
  refine zv_last G (by decide) rfl (fun _ => rfl) (z_in (by decide) (by decide)) dX10_tellsStretches_10 ?_
  refine zv_gen (R9 := zq 12 σ0) (zq_l hz) (fun σ hz => ?_)
  refine zv_aload_n (j := 0) G dX10_tellsStretches_11 rfl rfl ?_
  refine zv_aload_n (j := 0) G dX10_tellsStretches_12 rfl rfl ?_
  refine zg_X10_368 G dX10_tellsStretches_13 ?_
  refine zv_if_le (tgt := 23) G dX10_tellsStretches_16 (by decide) (fun c_16 => ?_) (fun c_16 => ?_)
  · have k_16 := z_cle c_16 (a := (σ.1 93 25).toInt) (b := 0) rfl rfl
    refine zv_iconst (v := 1) G dX10_tellsStretches_23 (by decide) ?_
    refine zp_X10_15 G dX10_tellsStretches_24 ?_
    refine zv_gen (R9 := zq 12 σ0) (zq_tl hz (by decide)) (fun σ hz => ?_)
    refine zv_aload_n (j := 0) G dX10_tellsStretches_27 rfl rfl ?_
    refine zg_X10_368 G dX10_tellsStretches_28 ?_
    exact zv_iret G hr dX10_tellsStretches_31 (zq_m hz (by first | decide | omega | (have hL := z_lits; omega)))
  · have k_16 := z_cnle c_16 (a := (σ.1 93 25).toInt) (b := 0) rfl rfl
    refine zv_iconst (v := 4) G dX10_tellsStretches_19 (by decide) ?_
    refine zv_goto (tgt := 24) G dX10_tellsStretches_20 (by decide) ?_
    refine zp_X10_15 G dX10_tellsStretches_24 ?_
    refine zv_gen (R9 := zq 12 σ0) (zq_tl hz (by decide)) (fun σ hz => ?_)
    refine zv_aload_n (j := 0) G dX10_tellsStretches_27 rfl rfl ?_
    refine zg_X10_368 G dX10_tellsStretches_28 ?_
    exact zv_iret G hr dX10_tellsStretches_31 (zq_m hz (by first | decide | omega | (have hL := z_lits; omega)))
set_option maxHeartbeats 4000000 in
set_option maxRecDepth 100000 in
theorem zc_X10_countsMarks (l : Launch) (E : za_E) (k : Int32) (σ0 : za_S) (hJ : zJ σ0) : zMv l E yX10_countsMarks cX10_countsMarks 4 (Option.none : Option Jvm.ClassFile.FieldType) 1 21 [za_O 19 93, za_I k] σ0 (fun σ' => zq 12 σ0 σ') := by
  refine zMv_of [(0, za_O 19 93), (1, za_I k)] (by decide) rfl rfl (Nat.le_of_ble_eq_true rfl) ?_
  intro ho p e s m args below meth c G hr
  refine zv_gen (R9 := zq 12 σ0) (zq_0 hJ) (fun σ hz => ?_)
  refine zv_iconst (v := 0) G dX10_countsMarks_0 (by decide) ?_
  have J_2 : ∀ (n : Nat) (y2_2 : Int32) (σ : za_S) (hz : zq 12 σ0 σ) (i2_2 : 0 ≤ y2_2.toInt) (u2_2 : y2_2.toInt ≤ 100) (hn_2 : (2147483648 - y2_2.toInt).toNat < n), zV p l e (zRm 1 21) s m args below meth c E (za_A E) 4 0 0 (MQ below (va_Qv (fun σ' => zq 12 σ0 σ') (zB E) (za_A E)) args s 0 0 (za_A E)) 2 [(0, za_O 19 93), (1, za_I k), (2, za_I y2_2)] [] σ := by
    intro n
    induction n with
    | zero => intro y2_2 σ hz i2_2 u2_2 hn; exact absurd hn (Nat.not_lt_zero _)
    | succ n ih_2 =>
      intro y2_2 σ hz i2_2 u2_2 hn_2
      refine zv_iload_n (j := 2) G dX10_countsMarks_2 rfl rfl ?_
      refine zv_bipush (v := 100) G dX10_countsMarks_3 (by decide) ?_
      refine zv_icmp_ge (tgt := 124) G dX10_countsMarks_5 (by decide) (fun c_5 => ?_) (fun c_5 => ?_)
      · have k_5 := z_cle c_5 (a := 100) (b := y2_2.toInt) rfl rfl
        exact zv_vret G hr dX10_countsMarks_124 (zq_m hz (by first | decide | omega | (have hL := z_lits; omega)))
      · have b_5 : 0 ≤ y2_2.toInt ∧ y2_2.toInt < 100 := ⟨i2_2, z_ltk c_5 rfl⟩
        have k_5 := z_cnle c_5 (a := 100) (b := y2_2.toInt) rfl rfl
        refine zv_aload_n (j := 0) G dX10_countsMarks_8 rfl rfl ?_
        refine zg_X10_138 G dX10_countsMarks_9 ?_
        refine zv_iload_n (j := 2) G dX10_countsMarks_12 rfl rfl ?_
        refine zv_iald G (by decide) rfl (z_in i2_2 (by omega)) dX10_countsMarks_13 ?_
        refine zv_if_le (tgt := 118) G dX10_countsMarks_14 (by decide) (fun c_14 => ?_) (fun c_14 => ?_)
        · have k_14 := z_cle c_14 (a := (σ.1 185 y2_2.toNatClampNeg).toInt) (b := 0) rfl rfl
          obtain ⟨x_118, e_118⟩ : ∃ y : Int32, y = y2_2 + 1 := ⟨_, rfl⟩
          refine zv_iinc (j := 2) (v := x_118) (lv' := [(2, za_I x_118), (0, za_O 19 93), (1, za_I k)]) G dX10_countsMarks_118 rfl (by rw [e_118]; rfl) (by decide) rfl ?_
          first | have q_118 := z_inc9 (by omega) e_118 | skip
          refine zv_goto (tgt := 2) G dX10_countsMarks_121 (by decide) ?_
          refine zv_sub [1, 2, 0] (lv' := [(0, za_O 19 93), (1, za_I k), (2, za_I x_118)]) rfl ?_
          exact ih_2 x_118 σ (zq_m hz (by first | decide | omega | (have hL := z_lits; omega))) (by have := z_inc c_5 e_118; omega) (by have := z_inc9 (by omega) e_118; omega) (z_meas c_5 e_118 hn_2)
        · have k_14 := z_cnle c_14 (a := (σ.1 185 y2_2.toNatClampNeg).toInt) (b := 0) rfl rfl
          refine zv_aload_n (j := 0) G dX10_countsMarks_17 rfl rfl ?_
          refine zv_dupO G dX10_countsMarks_18 ?_
          refine zg_X10_365 G dX10_countsMarks_19 ?_
          refine zv_iconst (v := 1) G dX10_countsMarks_22 (by decide) ?_
          refine zv_iadd G dX10_countsMarks_23 ?_
          refine zp_X10_365 G dX10_countsMarks_24 ?_
          refine zv_gen (R9 := zq 12 σ0) (zq_93 hz (by decide)) (fun σ hz => ?_)
          refine zv_iload_n (j := 2) G dX10_countsMarks_27 rfl rfl ?_
          refine zv_if_eq (tgt := 48) G dX10_countsMarks_28 (by decide) (fun c_28 => ?_) (fun c_28 => ?_)
          · have k_28 := z_ceq c_28 (a := y2_2.toInt) (b := 0) rfl rfl
            refine zv_iload_n (j := 2) G dX10_countsMarks_48 rfl rfl ?_
            have J_50 : ∀ (n : Nat) (y3_50 : Int32) (σ : za_S) (hz : zq 12 σ0 σ) (i3_50 : 0 ≤ y3_50.toInt) (u3_50 : y3_50.toInt ≤ 100) (hn_50 : (2147483648 - y3_50.toInt).toNat < n), zV p l e (zRm 1 21) s m args below meth c E (za_A E) 4 0 0 (MQ below (va_Qv (fun σ' => zq 12 σ0 σ') (zB E) (za_A E)) args s 0 0 (za_A E)) 50 [(0, za_O 19 93), (1, za_I k), (2, za_I y2_2), (3, za_I y3_50)] [] σ := by
              intro n
              induction n with
              | zero => intro y3_50 σ hz i3_50 u3_50 hn; exact absurd hn (Nat.not_lt_zero _)
              | succ n ih_50 =>
                intro y3_50 σ hz i3_50 u3_50 hn_50
                refine zv_iload_n (j := 3) G dX10_countsMarks_50 rfl rfl ?_
                refine zv_bipush (v := 100) G dX10_countsMarks_51 (by decide) ?_
                have J_77 : ∀  (σ : za_S) (hz : zq 12 σ0 σ), zV p l e (zRm 1 21) s m args below meth c E (za_A E) 4 0 0 (MQ below (va_Qv (fun σ' => zq 12 σ0 σ') (zB E) (za_A E)) args s 0 0 (za_A E)) 77 [(0, za_O 19 93), (1, za_I k), (2, za_I y2_2), (3, za_I y3_50)] [] σ := by
                  intro σ hz
                  refine zv_aload_n (j := 0) G dX10_countsMarks_77 rfl rfl ?_
                  refine zg_X10_368 G dX10_countsMarks_78 ?_
                  have J_108 : ∀  (σ : za_S) (hz : zq 12 σ0 σ), zV p l e (zRm 1 21) s m args below meth c E (za_A E) 4 0 0 (MQ below (va_Qv (fun σ' => zq 12 σ0 σ') (zB E) (za_A E)) args s 0 0 (za_A E)) 108 [(0, za_O 19 93), (1, za_I k), (2, za_I y2_2)] [] σ := by
                    intro σ hz
                    refine zv_aload_n (j := 0) G dX10_countsMarks_108 rfl rfl ?_
                    refine zv_dupO G dX10_countsMarks_109 ?_
                    refine zg_X10_368 G dX10_countsMarks_110 ?_
                    refine zv_iconst (v := 1) G dX10_countsMarks_113 (by decide) ?_
                    refine zv_iadd G dX10_countsMarks_114 ?_
                    refine zp_X10_368 G dX10_countsMarks_115 ?_
                    refine zv_gen (R9 := zq 12 σ0) (zq_93 hz (by decide)) (fun σ hz => ?_)
                    obtain ⟨x_118, e_118⟩ : ∃ y : Int32, y = y2_2 + 1 := ⟨_, rfl⟩
                    refine zv_iinc (j := 2) (v := x_118) (lv' := [(2, za_I x_118), (0, za_O 19 93), (1, za_I k)]) G dX10_countsMarks_118 rfl (by rw [e_118]; rfl) (by decide) rfl ?_
                    first | have q_118 := z_inc9 (by omega) e_118 | skip
                    refine zv_goto (tgt := 2) G dX10_countsMarks_121 (by decide) ?_
                    refine zv_sub [1, 2, 0] (lv' := [(0, za_O 19 93), (1, za_I k), (2, za_I x_118)]) rfl ?_
                    exact ih_2 x_118 σ (zq_m hz (by first | decide | omega | (have hL := z_lits; omega))) (by have := z_inc c_5 e_118; omega) (by have := z_inc9 (by omega) e_118; omega) (z_meas c_5 e_118 hn_2)
                  refine zv_if_ne (tgt := 108) G dX10_countsMarks_81 (by decide) (fun c_81 => ?_) (fun c_81 => ?_)
                  · have k_81 := z_cne c_81 (a := (σ.1 93 25).toInt) (b := 0) rfl rfl
                    refine zv_sub [0, 1, 2] (lv' := [(0, za_O 19 93), (1, za_I k), (2, za_I y2_2)]) rfl ?_
                    exact J_108 σ (zq_m hz (by first | decide | omega | (have hL := z_lits; omega)))
                  · have k_81 := z_ceq c_81 (a := (σ.1 93 25).toInt) (b := 0) rfl rfl
                    refine zv_aload_n (j := 0) G dX10_countsMarks_84 rfl rfl ?_
                    refine zg_X10_11 G dX10_countsMarks_85 ?_
                    refine zv_iconst (v := 1) G dX10_countsMarks_88 (by decide) ?_
                    refine zv_iload_n (j := 1) G dX10_countsMarks_89 rfl rfl ?_
                    refine zv_i2l G dX10_countsMarks_90 ?_
                    refine zv_last G (by decide) rfl (fun _ => rfl) (z_in (by decide) (by decide)) dX10_countsMarks_91 ?_
                    refine zv_gen (R9 := zq 12 σ0) (zq_l hz) (fun σ hz => ?_)
                    refine zv_aload_n (j := 0) G dX10_countsMarks_92 rfl rfl ?_
                    refine zg_X10_11 G dX10_countsMarks_93 ?_
                    refine zv_iconst (v := 2) G dX10_countsMarks_96 (by decide) ?_
                    refine zv_iload_n (j := 2) G dX10_countsMarks_97 rfl rfl ?_
                    refine zv_i2l G dX10_countsMarks_98 ?_
                    refine zv_last G (by decide) rfl (fun _ => rfl) (z_in (by decide) (by decide)) dX10_countsMarks_99 ?_
                    refine zv_gen (R9 := zq 12 σ0) (zq_l hz) (fun σ hz => ?_)
                    refine zv_aload_n (j := 0) G dX10_countsMarks_100 rfl rfl ?_
                    refine zg_X10_11 G dX10_countsMarks_101 ?_
                    refine zv_iconst (v := 3) G dX10_countsMarks_104 (by decide) ?_
                    refine zv_iload_n (j := 3) G dX10_countsMarks_105 rfl rfl ?_
                    refine zv_i2l G dX10_countsMarks_106 ?_
                    refine zv_last G (by decide) rfl (fun _ => rfl) (z_in (by decide) (by decide)) dX10_countsMarks_107 ?_
                    refine zv_gen (R9 := zq 12 σ0) (zq_l hz) (fun σ hz => ?_)
                    refine zv_sub [0, 1, 2] (lv' := [(0, za_O 19 93), (1, za_I k), (2, za_I y2_2)]) rfl ?_
                    exact J_108 σ (zq_m hz (by first | decide | omega | (have hL := z_lits; omega)))
                refine zv_icmp_ge (tgt := 77) G dX10_countsMarks_53 (by decide) (fun c_53 => ?_) (fun c_53 => ?_)
                · have k_53 := z_cle c_53 (a := 100) (b := y3_50.toInt) rfl rfl
                  refine zv_sub [0, 1, 2, 3] (lv' := [(0, za_O 19 93), (1, za_I k), (2, za_I y2_2), (3, za_I y3_50)]) rfl ?_
                  exact J_77 σ (zq_m hz (by first | decide | omega | (have hL := z_lits; omega)))
                · have b_53 : 0 ≤ y3_50.toInt ∧ y3_50.toInt < 100 := ⟨i3_50, z_ltk c_53 rfl⟩
                  have k_53 := z_cnle c_53 (a := 100) (b := y3_50.toInt) rfl rfl
                  refine zv_aload_n (j := 0) G dX10_countsMarks_56 rfl rfl ?_
                  refine zg_X10_138 G dX10_countsMarks_57 ?_
                  refine zv_iload_n (j := 3) G dX10_countsMarks_60 rfl rfl ?_
                  refine zv_iald G (by decide) rfl (z_in (by omega) (by omega)) dX10_countsMarks_61 ?_
                  refine zv_aload_n (j := 0) G dX10_countsMarks_62 rfl rfl ?_
                  refine zg_X10_138 G dX10_countsMarks_63 ?_
                  refine zv_iload_n (j := 2) G dX10_countsMarks_66 rfl rfl ?_
                  refine zv_iald G (by decide) rfl (z_in i2_2 (by omega)) dX10_countsMarks_67 ?_
                  refine zv_icmp_ne (tgt := 77) G dX10_countsMarks_68 (by decide) (fun c_68 => ?_) (fun c_68 => ?_)
                  · have k_68 := z_cne c_68 (a := (σ.1 185 y3_50.toNatClampNeg).toInt) (b := (σ.1 185 y2_2.toNatClampNeg).toInt) rfl rfl
                    refine zv_sub [0, 1, 2, 3] (lv' := [(0, za_O 19 93), (1, za_I k), (2, za_I y2_2), (3, za_I y3_50)]) rfl ?_
                    exact J_77 σ (zq_m hz (by first | decide | omega | (have hL := z_lits; omega)))
                  · have k_68 := z_ceq c_68 (a := (σ.1 185 y3_50.toNatClampNeg).toInt) (b := (σ.1 185 y2_2.toNatClampNeg).toInt) rfl rfl
                    obtain ⟨x_71, e_71⟩ : ∃ y : Int32, y = y3_50 + 1 := ⟨_, rfl⟩
                    refine zv_iinc (j := 3) (v := x_71) (lv' := [(3, za_I x_71), (0, za_O 19 93), (1, za_I k), (2, za_I y2_2)]) G dX10_countsMarks_71 rfl (by rw [e_71]; rfl) (by decide) rfl ?_
                    first | have q_71 := z_inc9 (by omega) e_71 | skip
                    refine zv_goto (tgt := 50) G dX10_countsMarks_74 (by decide) ?_
                    refine zv_sub [1, 2, 3, 0] (lv' := [(0, za_O 19 93), (1, za_I k), (2, za_I y2_2), (3, za_I x_71)]) rfl ?_
                    exact ih_50 x_71 σ (zq_m hz (by first | decide | omega | (have hL := z_lits; omega))) (by have := z_inc c_53 e_71; omega) (by have := z_inc9 (by omega) e_71; omega) (z_meas c_53 e_71 hn_50)
            refine zv_istore_n (lv' := [(3, za_I y2_2), (0, za_O 19 93), (1, za_I k), (2, za_I y2_2)]) G dX10_countsMarks_49 rfl (by decide) rfl ?_
            refine zv_sub [1, 2, 3, 0] (lv' := [(0, za_O 19 93), (1, za_I k), (2, za_I y2_2), (3, za_I y2_2)]) rfl ?_
            exact J_50 _ y2_2 σ (zq_m hz (by first | decide | omega | (have hL := z_lits; omega))) i2_2 (by omega) (Nat.lt_succ_self _)
          · have k_28 := z_cne c_28 (a := y2_2.toInt) (b := 0) rfl rfl
            refine zv_aload_n (j := 0) G dX10_countsMarks_31 rfl rfl ?_
            refine zg_X10_138 G dX10_countsMarks_32 ?_
            refine zv_iload_n (j := 2) G dX10_countsMarks_35 rfl rfl ?_
            refine zv_iald G (by decide) rfl (z_in i2_2 (by omega)) dX10_countsMarks_36 ?_
            refine zv_aload_n (j := 0) G dX10_countsMarks_37 rfl rfl ?_
            refine zg_X10_138 G dX10_countsMarks_38 ?_
            refine zv_iload_n (j := 2) G dX10_countsMarks_41 rfl rfl ?_
            refine zv_iconst (v := 1) G dX10_countsMarks_42 (by decide) ?_
            refine zv_isub G dX10_countsMarks_43 ?_
            refine zv_iald G (by decide) rfl (z_dm i2_2 k_28 b_5) dX10_countsMarks_44 ?_
            refine zv_icmp_eq (tgt := 118) G dX10_countsMarks_45 (by decide) (fun c_45 => ?_) (fun c_45 => ?_)
            · have k_45 := z_ceq c_45 (a := (σ.1 185 y2_2.toNatClampNeg).toInt) (b := (σ.1 185 (y2_2 - 1).toNatClampNeg).toInt) rfl rfl
              obtain ⟨x_118, e_118⟩ : ∃ y : Int32, y = y2_2 + 1 := ⟨_, rfl⟩
              refine zv_iinc (j := 2) (v := x_118) (lv' := [(2, za_I x_118), (0, za_O 19 93), (1, za_I k)]) G dX10_countsMarks_118 rfl (by rw [e_118]; rfl) (by decide) rfl ?_
              first | have q_118 := z_inc9 (by omega) e_118 | skip
              refine zv_goto (tgt := 2) G dX10_countsMarks_121 (by decide) ?_
              refine zv_sub [1, 2, 0] (lv' := [(0, za_O 19 93), (1, za_I k), (2, za_I x_118)]) rfl ?_
              exact ih_2 x_118 σ (zq_m hz (by first | decide | omega | (have hL := z_lits; omega))) (by have := z_inc c_5 e_118; omega) (by have := z_inc9 (by omega) e_118; omega) (z_meas c_5 e_118 hn_2)
            · have k_45 := z_cne c_45 (a := (σ.1 185 y2_2.toNatClampNeg).toInt) (b := (σ.1 185 (y2_2 - 1).toNatClampNeg).toInt) rfl rfl
              refine zv_iload_n (j := 2) G dX10_countsMarks_48 rfl rfl ?_
              have J_50 : ∀ (n : Nat) (y3_50 : Int32) (σ : za_S) (hz : zq 12 σ0 σ) (i3_50 : 0 ≤ y3_50.toInt) (u3_50 : y3_50.toInt ≤ 100) (hn_50 : (2147483648 - y3_50.toInt).toNat < n), zV p l e (zRm 1 21) s m args below meth c E (za_A E) 4 0 0 (MQ below (va_Qv (fun σ' => zq 12 σ0 σ') (zB E) (za_A E)) args s 0 0 (za_A E)) 50 [(0, za_O 19 93), (1, za_I k), (2, za_I y2_2), (3, za_I y3_50)] [] σ := by
                intro n
                induction n with
                | zero => intro y3_50 σ hz i3_50 u3_50 hn; exact absurd hn (Nat.not_lt_zero _)
                | succ n ih_50 =>
                  intro y3_50 σ hz i3_50 u3_50 hn_50
                  refine zv_iload_n (j := 3) G dX10_countsMarks_50 rfl rfl ?_
                  refine zv_bipush (v := 100) G dX10_countsMarks_51 (by decide) ?_
                  have J_77 : ∀  (σ : za_S) (hz : zq 12 σ0 σ), zV p l e (zRm 1 21) s m args below meth c E (za_A E) 4 0 0 (MQ below (va_Qv (fun σ' => zq 12 σ0 σ') (zB E) (za_A E)) args s 0 0 (za_A E)) 77 [(0, za_O 19 93), (1, za_I k), (2, za_I y2_2), (3, za_I y3_50)] [] σ := by
                    intro σ hz
                    refine zv_aload_n (j := 0) G dX10_countsMarks_77 rfl rfl ?_
                    refine zg_X10_368 G dX10_countsMarks_78 ?_
                    have J_108 : ∀  (σ : za_S) (hz : zq 12 σ0 σ), zV p l e (zRm 1 21) s m args below meth c E (za_A E) 4 0 0 (MQ below (va_Qv (fun σ' => zq 12 σ0 σ') (zB E) (za_A E)) args s 0 0 (za_A E)) 108 [(0, za_O 19 93), (1, za_I k), (2, za_I y2_2)] [] σ := by
                      intro σ hz
                      refine zv_aload_n (j := 0) G dX10_countsMarks_108 rfl rfl ?_
                      refine zv_dupO G dX10_countsMarks_109 ?_
                      refine zg_X10_368 G dX10_countsMarks_110 ?_
                      refine zv_iconst (v := 1) G dX10_countsMarks_113 (by decide) ?_
                      refine zv_iadd G dX10_countsMarks_114 ?_
                      refine zp_X10_368 G dX10_countsMarks_115 ?_
                      refine zv_gen (R9 := zq 12 σ0) (zq_93 hz (by decide)) (fun σ hz => ?_)
                      obtain ⟨x_118, e_118⟩ : ∃ y : Int32, y = y2_2 + 1 := ⟨_, rfl⟩
                      refine zv_iinc (j := 2) (v := x_118) (lv' := [(2, za_I x_118), (0, za_O 19 93), (1, za_I k)]) G dX10_countsMarks_118 rfl (by rw [e_118]; rfl) (by decide) rfl ?_
                      first | have q_118 := z_inc9 (by omega) e_118 | skip
                      refine zv_goto (tgt := 2) G dX10_countsMarks_121 (by decide) ?_
                      refine zv_sub [1, 2, 0] (lv' := [(0, za_O 19 93), (1, za_I k), (2, za_I x_118)]) rfl ?_
                      exact ih_2 x_118 σ (zq_m hz (by first | decide | omega | (have hL := z_lits; omega))) (by have := z_inc c_5 e_118; omega) (by have := z_inc9 (by omega) e_118; omega) (z_meas c_5 e_118 hn_2)
                    refine zv_if_ne (tgt := 108) G dX10_countsMarks_81 (by decide) (fun c_81 => ?_) (fun c_81 => ?_)
                    · have k_81 := z_cne c_81 (a := (σ.1 93 25).toInt) (b := 0) rfl rfl
                      refine zv_sub [0, 1, 2] (lv' := [(0, za_O 19 93), (1, za_I k), (2, za_I y2_2)]) rfl ?_
                      exact J_108 σ (zq_m hz (by first | decide | omega | (have hL := z_lits; omega)))
                    · have k_81 := z_ceq c_81 (a := (σ.1 93 25).toInt) (b := 0) rfl rfl
                      refine zv_aload_n (j := 0) G dX10_countsMarks_84 rfl rfl ?_
                      refine zg_X10_11 G dX10_countsMarks_85 ?_
                      refine zv_iconst (v := 1) G dX10_countsMarks_88 (by decide) ?_
                      refine zv_iload_n (j := 1) G dX10_countsMarks_89 rfl rfl ?_
                      refine zv_i2l G dX10_countsMarks_90 ?_
                      refine zv_last G (by decide) rfl (fun _ => rfl) (z_in (by decide) (by decide)) dX10_countsMarks_91 ?_
                      refine zv_gen (R9 := zq 12 σ0) (zq_l hz) (fun σ hz => ?_)
                      refine zv_aload_n (j := 0) G dX10_countsMarks_92 rfl rfl ?_
                      refine zg_X10_11 G dX10_countsMarks_93 ?_
                      refine zv_iconst (v := 2) G dX10_countsMarks_96 (by decide) ?_
                      refine zv_iload_n (j := 2) G dX10_countsMarks_97 rfl rfl ?_
                      refine zv_i2l G dX10_countsMarks_98 ?_
                      refine zv_last G (by decide) rfl (fun _ => rfl) (z_in (by decide) (by decide)) dX10_countsMarks_99 ?_
                      refine zv_gen (R9 := zq 12 σ0) (zq_l hz) (fun σ hz => ?_)
                      refine zv_aload_n (j := 0) G dX10_countsMarks_100 rfl rfl ?_
                      refine zg_X10_11 G dX10_countsMarks_101 ?_
                      refine zv_iconst (v := 3) G dX10_countsMarks_104 (by decide) ?_
                      refine zv_iload_n (j := 3) G dX10_countsMarks_105 rfl rfl ?_
                      refine zv_i2l G dX10_countsMarks_106 ?_
                      refine zv_last G (by decide) rfl (fun _ => rfl) (z_in (by decide) (by decide)) dX10_countsMarks_107 ?_
                      refine zv_gen (R9 := zq 12 σ0) (zq_l hz) (fun σ hz => ?_)
                      refine zv_sub [0, 1, 2] (lv' := [(0, za_O 19 93), (1, za_I k), (2, za_I y2_2)]) rfl ?_
                      exact J_108 σ (zq_m hz (by first | decide | omega | (have hL := z_lits; omega)))
                  refine zv_icmp_ge (tgt := 77) G dX10_countsMarks_53 (by decide) (fun c_53 => ?_) (fun c_53 => ?_)
                  · have k_53 := z_cle c_53 (a := 100) (b := y3_50.toInt) rfl rfl
                    refine zv_sub [0, 1, 2, 3] (lv' := [(0, za_O 19 93), (1, za_I k), (2, za_I y2_2), (3, za_I y3_50)]) rfl ?_
                    exact J_77 σ (zq_m hz (by first | decide | omega | (have hL := z_lits; omega)))
                  · have b_53 : 0 ≤ y3_50.toInt ∧ y3_50.toInt < 100 := ⟨i3_50, z_ltk c_53 rfl⟩
                    have k_53 := z_cnle c_53 (a := 100) (b := y3_50.toInt) rfl rfl
                    refine zv_aload_n (j := 0) G dX10_countsMarks_56 rfl rfl ?_
                    refine zg_X10_138 G dX10_countsMarks_57 ?_
                    refine zv_iload_n (j := 3) G dX10_countsMarks_60 rfl rfl ?_
                    refine zv_iald G (by decide) rfl (z_in (by omega) (by omega)) dX10_countsMarks_61 ?_
                    refine zv_aload_n (j := 0) G dX10_countsMarks_62 rfl rfl ?_
                    refine zg_X10_138 G dX10_countsMarks_63 ?_
                    refine zv_iload_n (j := 2) G dX10_countsMarks_66 rfl rfl ?_
                    refine zv_iald G (by decide) rfl (z_in i2_2 (by omega)) dX10_countsMarks_67 ?_
                    refine zv_icmp_ne (tgt := 77) G dX10_countsMarks_68 (by decide) (fun c_68 => ?_) (fun c_68 => ?_)
                    · have k_68 := z_cne c_68 (a := (σ.1 185 y3_50.toNatClampNeg).toInt) (b := (σ.1 185 y2_2.toNatClampNeg).toInt) rfl rfl
                      refine zv_sub [0, 1, 2, 3] (lv' := [(0, za_O 19 93), (1, za_I k), (2, za_I y2_2), (3, za_I y3_50)]) rfl ?_
                      exact J_77 σ (zq_m hz (by first | decide | omega | (have hL := z_lits; omega)))
                    · have k_68 := z_ceq c_68 (a := (σ.1 185 y3_50.toNatClampNeg).toInt) (b := (σ.1 185 y2_2.toNatClampNeg).toInt) rfl rfl
                      obtain ⟨x_71, e_71⟩ : ∃ y : Int32, y = y3_50 + 1 := ⟨_, rfl⟩
                      refine zv_iinc (j := 3) (v := x_71) (lv' := [(3, za_I x_71), (0, za_O 19 93), (1, za_I k), (2, za_I y2_2)]) G dX10_countsMarks_71 rfl (by rw [e_71]; rfl) (by decide) rfl ?_
                      first | have q_71 := z_inc9 (by omega) e_71 | skip
                      refine zv_goto (tgt := 50) G dX10_countsMarks_74 (by decide) ?_
                      refine zv_sub [1, 2, 3, 0] (lv' := [(0, za_O 19 93), (1, za_I k), (2, za_I y2_2), (3, za_I x_71)]) rfl ?_
                      exact ih_50 x_71 σ (zq_m hz (by first | decide | omega | (have hL := z_lits; omega))) (by have := z_inc c_53 e_71; omega) (by have := z_inc9 (by omega) e_71; omega) (z_meas c_53 e_71 hn_50)
              refine zv_istore_n (lv' := [(3, za_I y2_2), (0, za_O 19 93), (1, za_I k), (2, za_I y2_2)]) G dX10_countsMarks_49 rfl (by decide) rfl ?_
              refine zv_sub [1, 2, 3, 0] (lv' := [(0, za_O 19 93), (1, za_I k), (2, za_I y2_2), (3, za_I y2_2)]) rfl ?_
              exact J_50 _ y2_2 σ (zq_m hz (by first | decide | omega | (have hL := z_lits; omega))) i2_2 (by omega) (Nat.lt_succ_self _)
  refine zv_istore_n (lv' := [(2, za_I 0), (0, za_O 19 93), (1, za_I k)]) G dX10_countsMarks_1 rfl (by decide) rfl ?_
  refine zv_sub [1, 2, 0] (lv' := [(0, za_O 19 93), (1, za_I k), (2, za_I 0)]) rfl ?_
  exact J_2 _ (0 : Int32) σ (zq_m hz (by first | decide | omega | (have hL := z_lits; omega))) (by decide) (by decide) (Nat.lt_succ_self _)
set_option maxHeartbeats 4000000 in
set_option maxRecDepth 100000 in
theorem zc_X10_meets (l : Launch) (E : za_E) (fd : Int32) (td : Int32) (σ0 : za_S) (hJ : zJ σ0) : zMi l E yX10_meets cX10_meets 7 (Option.some Jvm.ClassFile.FieldType.int) 4 89 [za_O 19 93, za_I fd, za_I td] σ0 (fun r σ' => zq 12 σ0 σ') := by
  refine zMi_of [(0, za_O 19 93), (1, za_I fd), (2, za_I td)] (by decide) rfl rfl (Nat.le_of_ble_eq_true rfl) ?_
  intro ho p e s m args below meth c G hr
  refine zv_gen (R9 := zq 12 σ0) (zq_0 hJ) (fun σ hz => ?_)
  refine zv_aload_n (j := 0) G dX10_meets_0 rfl rfl ?_
  refine zv_iconst (v := 0) G dX10_meets_1 (by decide) ?_
  refine zp_X10_3 G dX10_meets_2 ?_
  refine zv_gen (R9 := zq 12 σ0) (zq_93 hz (by decide)) (fun σ hz => ?_)
  refine zv_iload_n (j := 1) G dX10_meets_5 rfl rfl ?_
  refine zv_iload_n (j := 2) G dX10_meets_6 rfl rfl ?_
  refine zv_callSi (as := [za_I fd, za_I td]) G (zc_X10_isPeriod l E fd td σ ) zk_X10_isPeriod zm_1375 rfl ⟨(Nat.le_of_ble_eq_true rfl), (Nat.le_of_ble_eq_true rfl)⟩ ⟨Nat.zero_le _, Nat.zero_le _⟩ (Nat.le_of_ble_eq_true rfl) dX10_meets_7 (fun r_7 σ h_7 => ?_)
  obtain ⟨h_7, rfl⟩ := h_7
  refine zv_if_ne (tgt := 15) G dX10_meets_10 (by decide) (fun c_10 => ?_) (fun c_10 => ?_)
  · have t_7 := h_7.2.mp c_10
    refine zv_aload_n (j := 0) G dX10_meets_15 rfl rfl ?_
    refine zv_iconst (v := 0) G dX10_meets_16 (by decide) ?_
    refine zp_X10_368 G dX10_meets_17 ?_
    refine zv_gen (R9 := zq 12 σ0) (zq_93 hz (by decide)) (fun σ hz => ?_)
    refine zv_aload_n (j := 0) G dX10_meets_20 rfl rfl ?_
    refine zv_iconst (v := 0) G dX10_meets_21 (by decide) ?_
    refine zp_X10_365 G dX10_meets_22 ?_
    refine zv_gen (R9 := zq 12 σ0) (zq_93 hz (by decide)) (fun σ hz => ?_)
    refine zv_iconst (v := 0) G dX10_meets_25 (by decide) ?_
    have J_27 : ∀ (n : Nat) (y3_27 : Int32) (σ : za_S) (hz : zq 12 σ0 σ) (i3_27 : 0 ≤ y3_27.toInt) (u3_27 : y3_27.toInt ≤ 10) (hn_27 : (2147483648 - y3_27.toInt).toNat < n), zV p l e (zRm 4 89) s m args below meth c E (za_A E) 7 0 0 (MQ below (va_Qi (fun r σ' => zq 12 σ0 σ') (zB E) (za_A E)) args s 0 0 (za_A E)) 27 [(0, za_O 19 93), (1, za_I fd), (2, za_I td), (3, za_I y3_27)] [] σ := by
      intro n
      induction n with
      | zero => intro y3_27 σ hz i3_27 u3_27 hn; exact absurd hn (Nat.not_lt_zero _)
      | succ n ih_27 =>
        intro y3_27 σ hz i3_27 u3_27 hn_27
        refine zv_iload_n (j := 3) G dX10_meets_27 rfl rfl ?_
        refine zv_bipush (v := 10) G dX10_meets_28 (by decide) ?_
        refine zv_icmp_ge (tgt := 187) G dX10_meets_30 (by decide) (fun c_30 => ?_) (fun c_30 => ?_)
        · have k_30 := z_cle c_30 (a := 10) (b := y3_27.toInt) rfl rfl
          refine zv_aload_n (j := 0) G dX10_meets_187 rfl rfl ?_
          refine zv_callVi (as := []) G (by decide) rfl rfl (zc_X10_tellsStretches l E  σ (zq_J hJ (zq_m hz (by first | decide | omega)))) zk_X10_tellsStretches zm_1580 rfl ⟨(Nat.le_of_ble_eq_true rfl), (Nat.le_of_ble_eq_true rfl)⟩ ⟨Nat.zero_le _, Nat.zero_le _⟩ (Nat.le_of_ble_eq_true rfl) dX10_meets_188 (fun r_188 σ h_188 => ?_)
          have hz9 := h_188
          have hz : zq 12 σ0 σ := zq_tr hz hz9
          exact zv_iret G hr dX10_meets_191 (zq_m hz (by first | decide | omega | (have hL := z_lits; omega)))
        · have b_30 : 0 ≤ y3_27.toInt ∧ y3_27.toInt < 10 := ⟨i3_27, z_ltk c_30 rfl⟩
          have k_30 := z_cnle c_30 (a := 10) (b := y3_27.toInt) rfl rfl
          refine zv_iconst (v := 0) G dX10_meets_33 (by decide) ?_
          have J_36 : ∀ (n : Nat) (y4_36 : Int32) (σ : za_S) (hz : zq 12 σ0 σ) (i4_36 : 0 ≤ y4_36.toInt) (u4_36 : y4_36.toInt ≤ 100) (hn_36 : (2147483648 - y4_36.toInt).toNat < n), zV p l e (zRm 4 89) s m args below meth c E (za_A E) 7 0 0 (MQ below (va_Qi (fun r σ' => zq 12 σ0 σ') (zB E) (za_A E)) args s 0 0 (za_A E)) 36 [(0, za_O 19 93), (1, za_I fd), (2, za_I td), (3, za_I y3_27), (4, za_I y4_36)] [] σ := by
            intro n
            induction n with
            | zero => intro y4_36 σ hz i4_36 u4_36 hn; exact absurd hn (Nat.not_lt_zero _)
            | succ n ih_36 =>
              intro y4_36 σ hz i4_36 u4_36 hn_36
              refine zv_iload (j := 4) G dX10_meets_36 rfl ?_
              refine zv_bipush (v := 100) G dX10_meets_38 (by decide) ?_
              refine zv_icmp_ge (tgt := 176) G dX10_meets_40 (by decide) (fun c_40 => ?_) (fun c_40 => ?_)
              · have k_40 := z_cle c_40 (a := 100) (b := y4_36.toInt) rfl rfl
                refine zv_aload_n (j := 0) G dX10_meets_176 rfl rfl ?_
                refine zv_iload_n (j := 3) G dX10_meets_177 rfl rfl ?_
                refine zv_callVv (as := [za_I y3_27]) G (by decide) rfl rfl (zc_X10_countsMarks l E y3_27 σ (zq_J hJ (zq_m hz (by first | decide | omega)))) zk_X10_countsMarks zm_1576 rfl ⟨(Nat.le_of_ble_eq_true rfl), (Nat.le_of_ble_eq_true rfl)⟩ ⟨Nat.zero_le _, Nat.zero_le _⟩ (Nat.le_of_ble_eq_true rfl) dX10_meets_178 (fun σ h_178 => ?_)
                have hz9 := h_178
                have hz : zq 12 σ0 σ := zq_tr hz hz9
                obtain ⟨x_181, e_181⟩ : ∃ y : Int32, y = y3_27 + 1 := ⟨_, rfl⟩
                refine zv_iinc (j := 3) (v := x_181) (lv' := [(3, za_I x_181), (0, za_O 19 93), (1, za_I fd), (2, za_I td), (4, za_I y4_36)]) G dX10_meets_181 rfl (by rw [e_181]; rfl) (by decide) rfl ?_
                first | have q_181 := z_inc9 (by omega) e_181 | skip
                refine zv_goto (tgt := 27) G dX10_meets_184 (by decide) ?_
                refine zv_sub [1, 2, 3, 0] (lv' := [(0, za_O 19 93), (1, za_I fd), (2, za_I td), (3, za_I x_181)]) rfl ?_
                exact ih_27 x_181 σ (zq_m hz (by first | decide | omega | (have hL := z_lits; omega))) (by have := z_inc c_30 e_181; omega) (by have := z_inc9 (by omega) e_181; omega) (z_meas c_30 e_181 hn_27)
              · have b_40 : 0 ≤ y4_36.toInt ∧ y4_36.toInt < 100 := ⟨i4_36, z_ltk c_40 rfl⟩
                have k_40 := z_cnle c_40 (a := 100) (b := y4_36.toInt) rfl rfl
                refine zv_aload_n (j := 0) G dX10_meets_43 rfl rfl ?_
                refine zg_X10_118 G dX10_meets_44 ?_
                refine zv_iconst (v := 0) G dX10_meets_47 (by decide) ?_
                refine zv_iload_n (j := 3) G dX10_meets_48 rfl rfl ?_
                refine zv_iload (j := 4) G dX10_meets_49 rfl ?_
                refine zv_callSi (as := [za_O 22 99, za_I 0, za_I y3_27, za_I y4_36]) G (zc_X10_isThere l E 99 (0 : Int32) y3_27 y4_36 σ (by first | assumption | decide | omega | exact hz.2.1.1 | exact hz.2.1.2) (by first | assumption | decide | omega | exact hz.2.1.1 | exact hz.2.1.2)) zk_X10_isThere zm_1320 rfl ⟨(Nat.le_of_ble_eq_true rfl), (Nat.le_of_ble_eq_true rfl)⟩ ⟨Nat.zero_le _, Nat.zero_le _⟩ (Nat.le_of_ble_eq_true rfl) dX10_meets_51 (fun r_51 σ h_51 => ?_)
                obtain ⟨h_51, rfl⟩ := h_51
                have J_73 : ∀ (s0_73 : Int32) (σ : za_S) (hz : zq 12 σ0 σ) (f_73 : 0 ≤ s0_73.toInt), zV p l e (zRm 4 89) s m args below meth c E (za_A E) 7 0 0 (MQ below (va_Qi (fun r σ' => zq 12 σ0 σ') (zB E) (za_A E)) args s 0 0 (za_A E)) 73 [(0, za_O 19 93), (1, za_I fd), (2, za_I td), (3, za_I y3_27), (4, za_I y4_36)] [za_I s0_73] σ := by
                  intro s0_73 σ hz f_73
                  refine zv_istore (lv' := [(5, za_I s0_73), (0, za_O 19 93), (1, za_I fd), (2, za_I td), (3, za_I y3_27), (4, za_I y4_36)]) G dX10_meets_73 (by decide) rfl ?_
                  refine zv_iload (j := 5) G dX10_meets_75 rfl ?_
                  refine zv_i2l G dX10_meets_77 ?_
                  refine zv_iload_n (j := 2) G dX10_meets_78 rfl rfl ?_
                  refine zv_i2l G dX10_meets_79 ?_
                  refine zv_iload_n (j := 3) G dX10_meets_80 rfl rfl ?_
                  refine zv_iconst (v := 1) G dX10_meets_81 (by decide) ?_
                  refine zv_isub G dX10_meets_82 ?_
                  refine zv_i2l G dX10_meets_83 ?_
                  refine zv_callSi (as := [za_L y4_36.toInt64, za_L fd.toInt64, za_L ((td - 1).toInt64)]) G (zc_X10_in l E y4_36.toInt64 fd.toInt64 ((td - 1).toInt64) σ ) zk_X10_in zm_1180 rfl ⟨(Nat.le_of_ble_eq_true rfl), (Nat.le_of_ble_eq_true rfl)⟩ ⟨Nat.zero_le _, Nat.zero_le _⟩ (Nat.le_of_ble_eq_true rfl) dX10_meets_84 (fun r_84 σ h_84 => ?_)
                  obtain ⟨h_84, rfl⟩ := h_84
                  have J_117 : ∀ (s0_117 : Int32) (σ : za_S) (hz : zq 12 σ0 σ) (w_117 : s0_117 = 0 ∨ (0 ≤ s0_73.toInt ∧ s0_73.toInt ≤ 9)), zV p l e (zRm 4 89) s m args below meth c E (za_A E) 7 0 0 (MQ below (va_Qi (fun r σ' => zq 12 σ0 σ') (zB E) (za_A E)) args s 0 0 (za_A E)) 117 [(0, za_O 19 93), (1, za_I fd), (2, za_I td), (3, za_I y3_27), (4, za_I y4_36), (5, za_I s0_73)] [za_I s0_117] σ := by
                    intro s0_117 σ hz w_117
                    refine zv_istore (lv' := [(6, za_I s0_117), (0, za_O 19 93), (1, za_I fd), (2, za_I td), (3, za_I y3_27), (4, za_I y4_36), (5, za_I s0_73)]) G dX10_meets_117 (by decide) rfl ?_
                    refine zv_aload_n (j := 1) G dX10_meets_119 rfl rfl ?_
                    refine zg_X10_138 G dX10_meets_120 ?_
                    refine zv_iload (j := 5) G dX10_meets_123 rfl ?_
                    refine zv_iload (j := 0) G dX10_meets_125 rfl ?_
                    refine zv_if_eq (tgt := 168) G dX10_meets_127 (by decide) (fun c_127 => ?_) (fun c_127 => ?_)
                    · have k_127 := z_ceq c_127 (a := s0_117.toInt) (b := 0) rfl rfl
                      refine zv_iconst (v := 0) G dX10_meets_168 (by decide) ?_
                      refine zv_iast G (by decide) rfl (fun _ => rfl) (z_in (by omega) (by omega)) dX10_meets_169 ?_
                      refine zv_gen (R9 := zq 12 σ0) (zq_w hz (by first | decide | omega)) (fun σ hz => ?_)
                      obtain ⟨x_170, e_170⟩ : ∃ y : Int32, y = y4_36 + 1 := ⟨_, rfl⟩
                      refine zv_iinc (j := 5) (v := x_170) (lv' := [(4, za_I x_170), (6, za_I s0_117), (0, za_O 19 93), (1, za_I fd), (2, za_I td), (3, za_I y3_27), (5, za_I s0_73)]) G dX10_meets_170 rfl (by rw [e_170]; rfl) (by decide) rfl ?_
                      first | have q_170 := z_inc9 (by omega) e_170 | skip
                      refine zv_goto (tgt := 36) G dX10_meets_173 (by decide) ?_
                      refine zv_sub [2, 3, 4, 5, 0] (lv' := [(0, za_O 19 93), (1, za_I fd), (2, za_I td), (3, za_I y3_27), (4, za_I x_170)]) rfl ?_
                      exact ih_36 x_170 σ (zq_m hz (by first | decide | omega | (have hL := z_lits; omega))) (by have := z_inc c_40 e_170; omega) (by have := z_inc9 (by omega) e_170; omega) (z_meas c_40 e_170 hn_36)
                    · have k_127 := z_cne c_127 (a := s0_117.toInt) (b := 0) rfl rfl
                      have v_127 := w_117.resolve_left c_127
                      refine zv_iconst (v := 1) G dX10_meets_130 (by decide) ?_
                      refine zv_bipush (v := 100) G dX10_meets_131 (by decide) ?_
                      refine zv_bipush (v := 11) G dX10_meets_133 (by decide) ?_
                      refine zv_aload_n (j := 1) G dX10_meets_135 rfl rfl ?_
                      refine zg_X10_118 G dX10_meets_136 ?_
                      refine zv_iconst (v := 0) G dX10_meets_139 (by decide) ?_
                      refine zv_iload_n (j := 4) G dX10_meets_140 rfl rfl ?_
                      refine zv_iload (j := 5) G dX10_meets_141 rfl ?_
                      refine zv_callSi (as := [za_O 22 99, za_I 0, za_I y3_27, za_I y4_36]) G (zc_X10_valueOn l E 99 (0 : Int32) y3_27 y4_36 σ (by first | assumption | decide | omega | exact hz.2.1.1 | exact hz.2.1.2) (by first | assumption | decide | omega | exact hz.2.1.1 | exact hz.2.1.2) (by first | assumption | decide | omega | exact hz.2.1.1 | exact hz.2.1.2)) zk_X10_valueOn zm_1334 rfl ⟨(Nat.le_of_ble_eq_true rfl), (Nat.le_of_ble_eq_true rfl)⟩ ⟨Nat.zero_le _, Nat.zero_le _⟩ (Nat.le_of_ble_eq_true rfl) dX10_meets_143 (fun r_143 σ h_143 => ?_)
                      obtain ⟨h_143, rfl⟩ := h_143
                      refine zv_imul G dX10_meets_146 ?_
                      refine zv_iload (j := 6) G dX10_meets_147 rfl ?_
                      refine zv_iadd G dX10_meets_149 ?_
                      refine zv_imul G dX10_meets_150 ?_
                      refine zv_iadd G dX10_meets_151 ?_
                      refine zv_aload_n (j := 1) G dX10_meets_152 rfl rfl ?_
                      refine zg_X10_118 G dX10_meets_153 ?_
                      refine zv_iconst (v := 1) G dX10_meets_156 (by decide) ?_
                      refine zv_iload (j := 6) G dX10_meets_157 rfl ?_
                      refine zv_iload (j := 5) G dX10_meets_159 rfl ?_
                      refine zv_callSi (as := [za_O 22 99, za_I 1, za_I s0_73, za_I y4_36]) G (zc_X10_valueOn l E 99 (1 : Int32) s0_73 y4_36 σ (by first | assumption | decide | omega | exact hz.2.1.1 | exact hz.2.1.2) (by first | assumption | decide | omega | exact hz.2.1.1 | exact hz.2.1.2) (by first | assumption | decide | omega | exact hz.2.1.1 | exact hz.2.1.2)) zk_X10_valueOn zm_1334 rfl ⟨(Nat.le_of_ble_eq_true rfl), (Nat.le_of_ble_eq_true rfl)⟩ ⟨Nat.zero_le _, Nat.zero_le _⟩ (Nat.le_of_ble_eq_true rfl) dX10_meets_161 (fun r_161 σ h_161 => ?_)
                      obtain ⟨h_161, rfl⟩ := h_161
                      refine zv_iadd G dX10_meets_164 ?_
                      refine zv_goto (tgt := 169) G dX10_meets_165 (by decide) ?_
                      refine zv_iast G (by decide) rfl (fun _ => rfl) (z_in (by omega) (by omega)) dX10_meets_169 ?_
                      refine zv_gen (R9 := zq 12 σ0) (zq_w hz (by first | decide | omega)) (fun σ hz => ?_)
                      obtain ⟨x_170, e_170⟩ : ∃ y : Int32, y = y4_36 + 1 := ⟨_, rfl⟩
                      refine zv_iinc (j := 5) (v := x_170) (lv' := [(4, za_I x_170), (6, za_I s0_117), (0, za_O 19 93), (1, za_I fd), (2, za_I td), (3, za_I y3_27), (5, za_I s0_73)]) G dX10_meets_170 rfl (by rw [e_170]; rfl) (by decide) rfl ?_
                      first | have q_170 := z_inc9 (by omega) e_170 | skip
                      refine zv_goto (tgt := 36) G dX10_meets_173 (by decide) ?_
                      refine zv_sub [2, 3, 4, 5, 0] (lv' := [(0, za_O 19 93), (1, za_I fd), (2, za_I td), (3, za_I y3_27), (4, za_I x_170)]) rfl ?_
                      exact ih_36 x_170 σ (zq_m hz (by first | decide | omega | (have hL := z_lits; omega))) (by have := z_inc c_40 e_170; omega) (by have := z_inc9 (by omega) e_170; omega) (z_meas c_40 e_170 hn_36)
                  have J_116 : ∀  (σ : za_S) (hz : zq 12 σ0 σ), zV p l e (zRm 4 89) s m args below meth c E (za_A E) 7 0 0 (MQ below (va_Qi (fun r σ' => zq 12 σ0 σ') (zB E) (za_A E)) args s 0 0 (za_A E)) 116 [(0, za_O 19 93), (1, za_I fd), (2, za_I td), (3, za_I y3_27), (4, za_I y4_36), (5, za_I s0_73)] [] σ := by
                    intro σ hz
                    refine zv_iconst (v := 0) G dX10_meets_116 (by decide) ?_
                    refine zv_sub [0, 1, 2, 3, 4, 5] (lv' := [(0, za_O 19 93), (1, za_I fd), (2, za_I td), (3, za_I y3_27), (4, za_I y4_36), (5, za_I s0_73)]) rfl ?_
                    exact J_117 (0 : Int32) σ (zq_m hz (by first | decide | omega | (have hL := z_lits; omega))) (by first | exact Or.inl rfl | exact Or.inr (by omega))
                  refine zv_if_eq (tgt := 116) G dX10_meets_87 (by decide) (fun c_87 => ?_) (fun c_87 => ?_)
                  · have f_84 := fun q9 => (h_84.2.mpr q9) c_87
                    refine zv_sub [1, 2, 3, 4, 5, 0] (lv' := [(0, za_O 19 93), (1, za_I fd), (2, za_I td), (3, za_I y3_27), (4, za_I y4_36), (5, za_I s0_73)]) rfl ?_
                    exact J_116 σ (zq_m hz (by first | decide | omega | (have hL := z_lits; omega)))
                  · have t_84 := h_84.2.mp c_87
                    refine zv_iload (j := 0) G dX10_meets_90 rfl ?_
                    refine zv_bipush (v := 10) G dX10_meets_92 (by decide) ?_
                    refine zv_icmp_ge (tgt := 116) G dX10_meets_94 (by decide) (fun c_94 => ?_) (fun c_94 => ?_)
                    · have k_94 := z_cle c_94 (a := 10) (b := s0_73.toInt) rfl rfl
                      refine zv_sub [1, 2, 3, 4, 5, 0] (lv' := [(0, za_O 19 93), (1, za_I fd), (2, za_I td), (3, za_I y3_27), (4, za_I y4_36), (5, za_I s0_73)]) rfl ?_
                      exact J_116 σ (zq_m hz (by first | decide | omega | (have hL := z_lits; omega)))
                    · have k_94 := z_cnle c_94 (a := 10) (b := s0_73.toInt) rfl rfl
                      refine zv_aload_n (j := 1) G dX10_meets_97 rfl rfl ?_
                      refine zg_X10_118 G dX10_meets_98 ?_
                      refine zv_iconst (v := 1) G dX10_meets_101 (by decide) ?_
                      refine zv_iload (j := 0) G dX10_meets_102 rfl ?_
                      refine zv_iload (j := 5) G dX10_meets_104 rfl ?_
                      refine zv_callSi (as := [za_O 22 99, za_I 1, za_I s0_73, za_I y4_36]) G (zc_X10_isThere l E 99 (1 : Int32) s0_73 y4_36 σ (by first | assumption | decide | omega | exact hz.2.1.1 | exact hz.2.1.2) (by first | assumption | decide | omega | exact hz.2.1.1 | exact hz.2.1.2)) zk_X10_isThere zm_1320 rfl ⟨(Nat.le_of_ble_eq_true rfl), (Nat.le_of_ble_eq_true rfl)⟩ ⟨Nat.zero_le _, Nat.zero_le _⟩ (Nat.le_of_ble_eq_true rfl) dX10_meets_106 (fun r_106 σ h_106 => ?_)
                      obtain ⟨h_106, rfl⟩ := h_106
                      refine zv_if_eq (tgt := 116) G dX10_meets_109 (by decide) (fun c_109 => ?_) (fun c_109 => ?_)
                      · have f_106 := fun q9 => (h_106.2.mpr q9) c_109
                        refine zv_sub [1, 2, 3, 4, 5, 0] (lv' := [(0, za_O 19 93), (1, za_I fd), (2, za_I td), (3, za_I y3_27), (4, za_I y4_36), (5, za_I s0_73)]) rfl ?_
                        exact J_116 σ (zq_m hz (by first | decide | omega | (have hL := z_lits; omega)))
                      · have t_106 := h_106.2.mp c_109
                        refine zv_iconst (v := 1) G dX10_meets_112 (by decide) ?_
                        refine zv_goto (tgt := 117) G dX10_meets_113 (by decide) ?_
                        refine zv_sub [1, 2, 3, 4, 5, 0] (lv' := [(0, za_O 19 93), (1, za_I fd), (2, za_I td), (3, za_I y3_27), (4, za_I y4_36), (5, za_I s0_73)]) rfl ?_
                        exact J_117 (1 : Int32) σ (zq_m hz (by first | decide | omega | (have hL := z_lits; omega))) (by first | exact Or.inl rfl | exact Or.inr (by omega))
                refine zv_if_eq (tgt := 71) G dX10_meets_54 (by decide) (fun c_54 => ?_) (fun c_54 => ?_)
                · have f_51 := fun q9 => (h_51.2.mpr q9) c_54
                  refine zv_bipush (v := 10) G dX10_meets_71 (by decide) ?_
                  refine zv_sub [0, 1, 2, 3, 4] (lv' := [(0, za_O 19 93), (1, za_I fd), (2, za_I td), (3, za_I y3_27), (4, za_I y4_36)]) rfl ?_
                  exact J_73 (10 : Int32) σ (zq_m hz (by first | decide | omega | (have hL := z_lits; omega))) (by first | decide | (rw [h_65]; exact (z_rf t_51.2).1))
                · have t_51 := h_51.2.mp c_54
                  refine zv_aload_n (j := 0) G dX10_meets_57 rfl rfl ?_
                  refine zg_X10_118 G dX10_meets_58 ?_
                  refine zv_iconst (v := 0) G dX10_meets_61 (by decide) ?_
                  refine zv_iload_n (j := 3) G dX10_meets_62 rfl rfl ?_
                  refine zv_iload (j := 4) G dX10_meets_63 rfl ?_
                  refine zv_callSi (as := [za_O 22 99, za_I 0, za_I y3_27, za_I y4_36]) G (zc_X10_refOn l E 99 (0 : Int32) y3_27 y4_36 σ (by first | assumption | decide | omega | exact hz.2.1.1 | exact hz.2.1.2) (by first | assumption | decide | omega | exact hz.2.1.1 | exact hz.2.1.2) (by first | assumption | decide | omega | exact hz.2.1.1 | exact hz.2.1.2)) zk_X10_refOn zm_1340 rfl ⟨(Nat.le_of_ble_eq_true rfl), (Nat.le_of_ble_eq_true rfl)⟩ ⟨Nat.zero_le _, Nat.zero_le _⟩ (Nat.le_of_ble_eq_true rfl) dX10_meets_65 (fun r_65 σ h_65 => ?_)
                  obtain ⟨h_65, rfl⟩ := h_65
                  refine zv_goto (tgt := 73) G dX10_meets_68 (by decide) ?_
                  refine zv_sub [0, 1, 2, 3, 4] (lv' := [(0, za_O 19 93), (1, za_I fd), (2, za_I td), (3, za_I y3_27), (4, za_I y4_36)]) rfl ?_
                  exact J_73 r_65 σ (zq_m hz (by first | decide | omega | (have hL := z_lits; omega))) (by first | decide | (rw [h_65]; exact (z_rf t_51.2).1))
          refine zv_istore (lv' := [(4, za_I 0), (0, za_O 19 93), (1, za_I fd), (2, za_I td), (3, za_I y3_27)]) G dX10_meets_34 (by decide) rfl ?_
          refine zv_sub [1, 2, 3, 4, 0] (lv' := [(0, za_O 19 93), (1, za_I fd), (2, za_I td), (3, za_I y3_27), (4, za_I 0)]) rfl ?_
          exact J_36 _ (0 : Int32) σ (zq_m hz (by first | decide | omega | (have hL := z_lits; omega))) (by decide) (by decide) (Nat.lt_succ_self _)
    refine zv_istore_n (lv' := [(3, za_I 0), (0, za_O 19 93), (1, za_I fd), (2, za_I td)]) G dX10_meets_26 rfl (by decide) rfl ?_
    refine zv_sub [1, 2, 3, 0] (lv' := [(0, za_O 19 93), (1, za_I fd), (2, za_I td), (3, za_I 0)]) rfl ?_
    exact J_27 _ (0 : Int32) σ (zq_m hz (by first | decide | omega | (have hL := z_lits; omega))) (by decide) (by decide) (Nat.lt_succ_self _)
  · have f_7 := fun q9 => (h_7.2.mpr q9) c_10
    refine zv_iconst (v := (-1)) G dX10_meets_13 (by decide) ?_
    exact zv_iret G hr dX10_meets_14 (zq_m hz (by first | decide | omega | (have hL := z_lits; omega)))
set_option maxHeartbeats 4000000 in
set_option maxRecDepth 100000 in
theorem zc_X10_lacks (l : Launch) (E : za_E) (t : Int32) (σ0 : za_S) (hJ : zJ σ0) : zMi l E yX10_lacks cX10_lacks 4 (Option.some Jvm.ClassFile.FieldType.int) 4 89 [za_O 19 93, za_I t] σ0 (fun r σ' => zq 12 σ0 σ') := by
  refine zMi_of [(0, za_O 19 93), (1, za_I t)] (by decide) rfl rfl (Nat.le_of_ble_eq_true rfl) ?_
  intro ho p e s m args below meth c G hr
  refine zv_gen (R9 := zq 12 σ0) (zq_0 hJ) (fun σ hz => ?_)
  refine zv_aload_n (j := 0) G dX10_lacks_0 rfl rfl ?_
  refine zv_iconst (v := 0) G dX10_lacks_1 (by decide) ?_
  refine zp_X10_3 G dX10_lacks_2 ?_
  refine zv_gen (R9 := zq 12 σ0) (zq_93 hz (by decide)) (fun σ hz => ?_)
  refine zv_iload_n (j := 1) G dX10_lacks_5 rfl rfl ?_
  refine zv_callSi (as := [za_I t]) G (zc_X10_isTable l E t σ ) zk_X10_isTable zm_1309 rfl ⟨(Nat.le_of_ble_eq_true rfl), (Nat.le_of_ble_eq_true rfl)⟩ ⟨Nat.zero_le _, Nat.zero_le _⟩ (Nat.le_of_ble_eq_true rfl) dX10_lacks_6 (fun r_6 σ h_6 => ?_)
  obtain ⟨h_6, rfl⟩ := h_6
  refine zv_if_ne (tgt := 14) G dX10_lacks_9 (by decide) (fun c_9 => ?_) (fun c_9 => ?_)
  · have t_6 := h_6.2.mp c_9
    refine zv_aload_n (j := 0) G dX10_lacks_14 rfl rfl ?_
    refine zv_iconst (v := 0) G dX10_lacks_15 (by decide) ?_
    refine zp_X10_368 G dX10_lacks_16 ?_
    refine zv_gen (R9 := zq 12 σ0) (zq_93 hz (by decide)) (fun σ hz => ?_)
    refine zv_aload_n (j := 0) G dX10_lacks_19 rfl rfl ?_
    refine zv_iconst (v := 0) G dX10_lacks_20 (by decide) ?_
    refine zp_X10_365 G dX10_lacks_21 ?_
    refine zv_gen (R9 := zq 12 σ0) (zq_93 hz (by decide)) (fun σ hz => ?_)
    refine zv_iconst (v := 0) G dX10_lacks_24 (by decide) ?_
    have J_26 : ∀ (n : Nat) (y2_26 : Int32) (σ : za_S) (hz : zq 12 σ0 σ) (i2_26 : 0 ≤ y2_26.toInt) (u2_26 : y2_26.toInt ≤ 10) (hn_26 : (2147483648 - y2_26.toInt).toNat < n), zV p l e (zRm 4 89) s m args below meth c E (za_A E) 4 0 0 (MQ below (va_Qi (fun r σ' => zq 12 σ0 σ') (zB E) (za_A E)) args s 0 0 (za_A E)) 26 [(0, za_O 19 93), (1, za_I t), (2, za_I y2_26)] [] σ := by
      intro n
      induction n with
      | zero => intro y2_26 σ hz i2_26 u2_26 hn; exact absurd hn (Nat.not_lt_zero _)
      | succ n ih_26 =>
        intro y2_26 σ hz i2_26 u2_26 hn_26
        refine zv_iload_n (j := 2) G dX10_lacks_26 rfl rfl ?_
        refine zv_bipush (v := 10) G dX10_lacks_27 (by decide) ?_
        refine zv_icmp_ge (tgt := 99) G dX10_lacks_29 (by decide) (fun c_29 => ?_) (fun c_29 => ?_)
        · have k_29 := z_cle c_29 (a := 10) (b := y2_26.toInt) rfl rfl
          refine zv_aload_n (j := 0) G dX10_lacks_99 rfl rfl ?_
          refine zv_callVi (as := []) G (by decide) rfl rfl (zc_X10_tellsStretches l E  σ (zq_J hJ (zq_m hz (by first | decide | omega)))) zk_X10_tellsStretches zm_1580 rfl ⟨(Nat.le_of_ble_eq_true rfl), (Nat.le_of_ble_eq_true rfl)⟩ ⟨Nat.zero_le _, Nat.zero_le _⟩ (Nat.le_of_ble_eq_true rfl) dX10_lacks_100 (fun r_100 σ h_100 => ?_)
          have hz9 := h_100
          have hz : zq 12 σ0 σ := zq_tr hz hz9
          exact zv_iret G hr dX10_lacks_103 (zq_m hz (by first | decide | omega | (have hL := z_lits; omega)))
        · have b_29 : 0 ≤ y2_26.toInt ∧ y2_26.toInt < 10 := ⟨i2_26, z_ltk c_29 rfl⟩
          have k_29 := z_cnle c_29 (a := 10) (b := y2_26.toInt) rfl rfl
          refine zv_iconst (v := 0) G dX10_lacks_32 (by decide) ?_
          have J_34 : ∀ (n : Nat) (y3_34 : Int32) (σ : za_S) (hz : zq 12 σ0 σ) (i3_34 : 0 ≤ y3_34.toInt) (u3_34 : y3_34.toInt ≤ 100) (hn_34 : (2147483648 - y3_34.toInt).toNat < n), zV p l e (zRm 4 89) s m args below meth c E (za_A E) 4 0 0 (MQ below (va_Qi (fun r σ' => zq 12 σ0 σ') (zB E) (za_A E)) args s 0 0 (za_A E)) 34 [(0, za_O 19 93), (1, za_I t), (2, za_I y2_26), (3, za_I y3_34)] [] σ := by
            intro n
            induction n with
            | zero => intro y3_34 σ hz i3_34 u3_34 hn; exact absurd hn (Nat.not_lt_zero _)
            | succ n ih_34 =>
              intro y3_34 σ hz i3_34 u3_34 hn_34
              refine zv_iload_n (j := 3) G dX10_lacks_34 rfl rfl ?_
              refine zv_bipush (v := 100) G dX10_lacks_35 (by decide) ?_
              refine zv_icmp_ge (tgt := 88) G dX10_lacks_37 (by decide) (fun c_37 => ?_) (fun c_37 => ?_)
              · have k_37 := z_cle c_37 (a := 100) (b := y3_34.toInt) rfl rfl
                refine zv_aload_n (j := 0) G dX10_lacks_88 rfl rfl ?_
                refine zv_iload_n (j := 2) G dX10_lacks_89 rfl rfl ?_
                refine zv_callVv (as := [za_I y2_26]) G (by decide) rfl rfl (zc_X10_countsMarks l E y2_26 σ (zq_J hJ (zq_m hz (by first | decide | omega)))) zk_X10_countsMarks zm_1576 rfl ⟨(Nat.le_of_ble_eq_true rfl), (Nat.le_of_ble_eq_true rfl)⟩ ⟨Nat.zero_le _, Nat.zero_le _⟩ (Nat.le_of_ble_eq_true rfl) dX10_lacks_90 (fun σ h_90 => ?_)
                have hz9 := h_90
                have hz : zq 12 σ0 σ := zq_tr hz hz9
                obtain ⟨x_93, e_93⟩ : ∃ y : Int32, y = y2_26 + 1 := ⟨_, rfl⟩
                refine zv_iinc (j := 2) (v := x_93) (lv' := [(2, za_I x_93), (0, za_O 19 93), (1, za_I t), (3, za_I y3_34)]) G dX10_lacks_93 rfl (by rw [e_93]; rfl) (by decide) rfl ?_
                first | have q_93 := z_inc9 (by omega) e_93 | skip
                refine zv_goto (tgt := 26) G dX10_lacks_96 (by decide) ?_
                refine zv_sub [1, 2, 0] (lv' := [(0, za_O 19 93), (1, za_I t), (2, za_I x_93)]) rfl ?_
                exact ih_26 x_93 σ (zq_m hz (by first | decide | omega | (have hL := z_lits; omega))) (by have := z_inc c_29 e_93; omega) (by have := z_inc9 (by omega) e_93; omega) (z_meas c_29 e_93 hn_26)
              · have b_37 : 0 ≤ y3_34.toInt ∧ y3_34.toInt < 100 := ⟨i3_34, z_ltk c_37 rfl⟩
                have k_37 := z_cnle c_37 (a := 100) (b := y3_34.toInt) rfl rfl
                refine zv_aload_n (j := 0) G dX10_lacks_40 rfl rfl ?_
                refine zg_X10_138 G dX10_lacks_41 ?_
                refine zv_iload_n (j := 3) G dX10_lacks_44 rfl rfl ?_
                refine zv_aload_n (j := 0) G dX10_lacks_45 rfl rfl ?_
                refine zg_X10_118 G dX10_lacks_46 ?_
                refine zv_iload_n (j := 1) G dX10_lacks_49 rfl rfl ?_
                refine zv_iload_n (j := 2) G dX10_lacks_50 rfl rfl ?_
                refine zv_iload_n (j := 3) G dX10_lacks_51 rfl rfl ?_
                refine zv_callSi (as := [za_O 22 99, za_I t, za_I y2_26, za_I y3_34]) G (zc_X10_isThere l E 99 t y2_26 y3_34 σ (by first | assumption | decide | omega | exact hz.2.1.1 | exact hz.2.1.2) (by first | assumption | decide | omega | exact hz.2.1.1 | exact hz.2.1.2)) zk_X10_isThere zm_1320 rfl ⟨(Nat.le_of_ble_eq_true rfl), (Nat.le_of_ble_eq_true rfl)⟩ ⟨Nat.zero_le _, Nat.zero_le _⟩ (Nat.le_of_ble_eq_true rfl) dX10_lacks_52 (fun r_52 σ h_52 => ?_)
                obtain ⟨h_52, rfl⟩ := h_52
                refine zv_if_eq (tgt := 77) G dX10_lacks_55 (by decide) (fun c_55 => ?_) (fun c_55 => ?_)
                · have f_52 := fun q9 => (h_52.2.mpr q9) c_55
                  refine zv_iconst (v := 0) G dX10_lacks_77 (by decide) ?_
                  refine zv_callSi (as := [za_I 0]) G (zc_X10_flag l E (0 : Int32) σ ) zk_X10_flag zm_1351 rfl ⟨(Nat.le_of_ble_eq_true rfl), (Nat.le_of_ble_eq_true rfl)⟩ ⟨Nat.zero_le _, Nat.zero_le _⟩ (Nat.le_of_ble_eq_true rfl) dX10_lacks_78 (fun r_78 σ h_78 => ?_)
                  obtain ⟨h_78, rfl⟩ := h_78
                  have g_78 := z_flagT h_78.2 (a := 0) rfl
                  refine zv_iast G (by decide) rfl (fun _ => rfl) (z_in (by omega) (by omega)) dX10_lacks_81 ?_
                  refine zv_gen (R9 := zq 12 σ0) (zq_w hz (by first | decide | omega)) (fun σ hz => ?_)
                  obtain ⟨x_82, e_82⟩ : ∃ y : Int32, y = y3_34 + 1 := ⟨_, rfl⟩
                  refine zv_iinc (j := 3) (v := x_82) (lv' := [(3, za_I x_82), (0, za_O 19 93), (1, za_I t), (2, za_I y2_26)]) G dX10_lacks_82 rfl (by rw [e_82]; rfl) (by decide) rfl ?_
                  first | have q_82 := z_inc9 (by omega) e_82 | skip
                  refine zv_goto (tgt := 34) G dX10_lacks_85 (by decide) ?_
                  refine zv_sub [1, 2, 3, 0] (lv' := [(0, za_O 19 93), (1, za_I t), (2, za_I y2_26), (3, za_I x_82)]) rfl ?_
                  exact ih_34 x_82 σ (zq_m hz (by first | decide | omega | (have hL := z_lits; omega))) (by have := z_inc c_37 e_82; omega) (by have := z_inc9 (by omega) e_82; omega) (z_meas c_37 e_82 hn_34)
                · have t_52 := h_52.2.mp c_55
                  refine zv_aload_n (j := 0) G dX10_lacks_58 rfl rfl ?_
                  refine zg_X10_118 G dX10_lacks_59 ?_
                  refine zv_iconst (v := 1) G dX10_lacks_62 (by decide) ?_
                  refine zv_iload_n (j := 1) G dX10_lacks_63 rfl rfl ?_
                  refine zv_isub G dX10_lacks_64 ?_
                  refine zv_iload_n (j := 2) G dX10_lacks_65 rfl rfl ?_
                  refine zv_iload_n (j := 3) G dX10_lacks_66 rfl rfl ?_
                  refine zv_callSi (as := [za_O 22 99, za_I (1 - t), za_I y2_26, za_I y3_34]) G (zc_X10_isThere l E 99 (1 - t) y2_26 y3_34 σ (z_1t t_6) (by omega)) zk_X10_isThere zm_1320 rfl ⟨(Nat.le_of_ble_eq_true rfl), (Nat.le_of_ble_eq_true rfl)⟩ ⟨Nat.zero_le _, Nat.zero_le _⟩ (Nat.le_of_ble_eq_true rfl) dX10_lacks_67 (fun r_67 σ h_67 => ?_)
                  obtain ⟨h_67, rfl⟩ := h_67
                  refine zv_if_ne (tgt := 77) G dX10_lacks_70 (by decide) (fun c_70 => ?_) (fun c_70 => ?_)
                  · have t_67 := h_67.2.mp c_70
                    refine zv_iconst (v := 0) G dX10_lacks_77 (by decide) ?_
                    refine zv_callSi (as := [za_I 0]) G (zc_X10_flag l E (0 : Int32) σ ) zk_X10_flag zm_1351 rfl ⟨(Nat.le_of_ble_eq_true rfl), (Nat.le_of_ble_eq_true rfl)⟩ ⟨Nat.zero_le _, Nat.zero_le _⟩ (Nat.le_of_ble_eq_true rfl) dX10_lacks_78 (fun r_78 σ h_78 => ?_)
                    obtain ⟨h_78, rfl⟩ := h_78
                    have g_78 := z_flagT h_78.2 (a := 0) rfl
                    refine zv_iast G (by decide) rfl (fun _ => rfl) (z_in (by omega) (by omega)) dX10_lacks_81 ?_
                    refine zv_gen (R9 := zq 12 σ0) (zq_w hz (by first | decide | omega)) (fun σ hz => ?_)
                    obtain ⟨x_82, e_82⟩ : ∃ y : Int32, y = y3_34 + 1 := ⟨_, rfl⟩
                    refine zv_iinc (j := 3) (v := x_82) (lv' := [(3, za_I x_82), (0, za_O 19 93), (1, za_I t), (2, za_I y2_26)]) G dX10_lacks_82 rfl (by rw [e_82]; rfl) (by decide) rfl ?_
                    first | have q_82 := z_inc9 (by omega) e_82 | skip
                    refine zv_goto (tgt := 34) G dX10_lacks_85 (by decide) ?_
                    refine zv_sub [1, 2, 3, 0] (lv' := [(0, za_O 19 93), (1, za_I t), (2, za_I y2_26), (3, za_I x_82)]) rfl ?_
                    exact ih_34 x_82 σ (zq_m hz (by first | decide | omega | (have hL := z_lits; omega))) (by have := z_inc c_37 e_82; omega) (by have := z_inc9 (by omega) e_82; omega) (z_meas c_37 e_82 hn_34)
                  · have f_67 := fun q9 => (h_67.2.mpr q9) c_70
                    refine zv_iconst (v := 1) G dX10_lacks_73 (by decide) ?_
                    refine zv_goto (tgt := 78) G dX10_lacks_74 (by decide) ?_
                    refine zv_callSi (as := [za_I 1]) G (zc_X10_flag l E (1 : Int32) σ ) zk_X10_flag zm_1351 rfl ⟨(Nat.le_of_ble_eq_true rfl), (Nat.le_of_ble_eq_true rfl)⟩ ⟨Nat.zero_le _, Nat.zero_le _⟩ (Nat.le_of_ble_eq_true rfl) dX10_lacks_78 (fun r_78 σ h_78 => ?_)
                    obtain ⟨h_78, rfl⟩ := h_78
                    have g_78 := z_flagT h_78.2 (a := 1) rfl
                    refine zv_iast G (by decide) rfl (fun _ => rfl) (z_in (by omega) (by omega)) dX10_lacks_81 ?_
                    refine zv_gen (R9 := zq 12 σ0) (zq_w hz (by first | decide | omega)) (fun σ hz => ?_)
                    obtain ⟨x_82, e_82⟩ : ∃ y : Int32, y = y3_34 + 1 := ⟨_, rfl⟩
                    refine zv_iinc (j := 3) (v := x_82) (lv' := [(3, za_I x_82), (0, za_O 19 93), (1, za_I t), (2, za_I y2_26)]) G dX10_lacks_82 rfl (by rw [e_82]; rfl) (by decide) rfl ?_
                    first | have q_82 := z_inc9 (by omega) e_82 | skip
                    refine zv_goto (tgt := 34) G dX10_lacks_85 (by decide) ?_
                    refine zv_sub [1, 2, 3, 0] (lv' := [(0, za_O 19 93), (1, za_I t), (2, za_I y2_26), (3, za_I x_82)]) rfl ?_
                    exact ih_34 x_82 σ (zq_m hz (by first | decide | omega | (have hL := z_lits; omega))) (by have := z_inc c_37 e_82; omega) (by have := z_inc9 (by omega) e_82; omega) (z_meas c_37 e_82 hn_34)
          refine zv_istore_n (lv' := [(3, za_I 0), (0, za_O 19 93), (1, za_I t), (2, za_I y2_26)]) G dX10_lacks_33 rfl (by decide) rfl ?_
          refine zv_sub [1, 2, 3, 0] (lv' := [(0, za_O 19 93), (1, za_I t), (2, za_I y2_26), (3, za_I 0)]) rfl ?_
          exact J_34 _ (0 : Int32) σ (zq_m hz (by first | decide | omega | (have hL := z_lits; omega))) (by decide) (by decide) (Nat.lt_succ_self _)
    refine zv_istore_n (lv' := [(2, za_I 0), (0, za_O 19 93), (1, za_I t)]) G dX10_lacks_25 rfl (by decide) rfl ?_
    refine zv_sub [1, 2, 0] (lv' := [(0, za_O 19 93), (1, za_I t), (2, za_I 0)]) rfl ?_
    exact J_26 _ (0 : Int32) σ (zq_m hz (by first | decide | omega | (have hL := z_lits; omega))) (by decide) (by decide) (Nat.lt_succ_self _)
  · have f_6 := fun q9 => (h_6.2.mpr q9) c_9
    refine zv_iconst (v := (-1)) G dX10_lacks_12 (by decide) ?_
    exact zv_iret G hr dX10_lacks_13 (zq_m hz (by first | decide | omega | (have hL := z_lits; omega)))
set_option maxHeartbeats 4000000 in
set_option maxRecDepth 100000 in
theorem zc_X10_either (l : Launch) (E : za_E)  (σ0 : za_S) (hJ : zJ σ0) : zMi l E yX10_either cX10_either 4 (Option.some Jvm.ClassFile.FieldType.int) 4 89 [za_O 19 93] σ0 (fun r σ' => zq 12 σ0 σ') := by
  refine zMi_of [(0, za_O 19 93)] (by decide) rfl rfl (Nat.le_of_ble_eq_true rfl) ?_
  intro ho p e s m args below meth c G hr
  refine zv_gen (R9 := zq 12 σ0) (zq_0 hJ) (fun σ hz => ?_)
  refine zv_aload_n (j := 0) G dX10_either_0 rfl rfl ?_
  refine zv_iconst (v := 0) G dX10_either_1 (by decide) ?_
  refine zp_X10_3 G dX10_either_2 ?_
  refine zv_gen (R9 := zq 12 σ0) (zq_93 hz (by decide)) (fun σ hz => ?_)
  refine zv_aload_n (j := 0) G dX10_either_5 rfl rfl ?_
  refine zv_iconst (v := 0) G dX10_either_6 (by decide) ?_
  refine zp_X10_368 G dX10_either_7 ?_
  refine zv_gen (R9 := zq 12 σ0) (zq_93 hz (by decide)) (fun σ hz => ?_)
  refine zv_aload_n (j := 0) G dX10_either_10 rfl rfl ?_
  refine zv_iconst (v := 0) G dX10_either_11 (by decide) ?_
  refine zp_X10_365 G dX10_either_12 ?_
  refine zv_gen (R9 := zq 12 σ0) (zq_93 hz (by decide)) (fun σ hz => ?_)
  refine zv_iconst (v := 0) G dX10_either_15 (by decide) ?_
  refine zv_istore_n (lv' := [(1, za_I 0), (0, za_O 19 93)]) G dX10_either_16 rfl (by decide) rfl ?_
  refine zv_iconst (v := 0) G dX10_either_17 (by decide) ?_
  have J_19 : ∀ (n : Nat) (y1_19 : Int32) (y2_19 : Int32) (σ : za_S) (hz : zq 12 σ0 σ) (i2_19 : 0 ≤ y2_19.toInt) (u2_19 : y2_19.toInt ≤ 10) (hn_19 : (2147483648 - y2_19.toInt).toNat < n), zV p l e (zRm 4 89) s m args below meth c E (za_A E) 4 0 0 (MQ below (va_Qi (fun r σ' => zq 12 σ0 σ') (zB E) (za_A E)) args s 0 0 (za_A E)) 19 [(0, za_O 19 93), (1, za_I y1_19), (2, za_I y2_19)] [] σ := by
    intro n
    induction n with
    | zero => intro y1_19 y2_19 σ hz i2_19 u2_19 hn; exact absurd hn (Nat.not_lt_zero _)
    | succ n ih_19 =>
      intro y1_19 y2_19 σ hz i2_19 u2_19 hn_19
      refine zv_iload_n (j := 2) G dX10_either_19 rfl rfl ?_
      refine zv_bipush (v := 10) G dX10_either_20 (by decide) ?_
      refine zv_icmp_ge (tgt := 127) G dX10_either_22 (by decide) (fun c_22 => ?_) (fun c_22 => ?_)
      · have k_22 := z_cle c_22 (a := 10) (b := y2_19.toInt) rfl rfl
        refine zv_aload_n (j := 0) G dX10_either_127 rfl rfl ?_
        refine zv_iconst (v := 0) G dX10_either_128 (by decide) ?_
        refine zp_X10_15 G dX10_either_129 ?_
        refine zv_gen (R9 := zq 0 σ0) (zq_t0 hz) (fun σ hz => ?_)
        refine zv_aload_n (j := 0) G dX10_either_132 rfl rfl ?_
        refine zv_aload_n (j := 0) G dX10_either_133 rfl rfl ?_
        refine zg_X10_365 G dX10_either_134 ?_
        refine zv_i2l G dX10_either_137 ?_
        refine zv_callVv (as := [za_L ((σ.1 93 26).toInt64)]) G (by decide) rfl rfl (zc_X10_enters l E ((σ.1 93 26).toInt64) σ (zq_p hz (by first | decide | omega))) zk_X10_enters zm_1418 rfl ⟨(Nat.le_of_ble_eq_true rfl), (Nat.le_of_ble_eq_true rfl)⟩ ⟨Nat.zero_le _, Nat.zero_le _⟩ (Nat.le_of_ble_eq_true rfl) dX10_either_138 (fun σ h_138 => ?_)
        have hz : zq 1 σ0 σ := zq_e hz h_138
        refine zv_aload_n (j := 0) G dX10_either_141 rfl rfl ?_
        refine zv_iload_n (j := 1) G dX10_either_142 rfl rfl ?_
        refine zv_i2l G dX10_either_143 ?_
        refine zv_callVv (as := [za_L y1_19.toInt64]) G (by decide) rfl rfl (zc_X10_enters l E y1_19.toInt64 σ (zq_p hz (by first | decide | omega))) zk_X10_enters zm_1418 rfl ⟨(Nat.le_of_ble_eq_true rfl), (Nat.le_of_ble_eq_true rfl)⟩ ⟨Nat.zero_le _, Nat.zero_le _⟩ (Nat.le_of_ble_eq_true rfl) dX10_either_144 (fun σ h_144 => ?_)
        have hz : zq 2 σ0 σ := zq_e hz h_144
        refine zv_aload_n (j := 0) G dX10_either_147 rfl rfl ?_
        refine zg_X10_368 G dX10_either_148 ?_
        exact zv_iret G hr dX10_either_151 (zq_m hz (by first | decide | omega | (have hL := z_lits; omega)))
      · have b_22 : 0 ≤ y2_19.toInt ∧ y2_19.toInt < 10 := ⟨i2_19, z_ltk c_22 rfl⟩
        have k_22 := z_cnle c_22 (a := 10) (b := y2_19.toInt) rfl rfl
        refine zv_iconst (v := 0) G dX10_either_25 (by decide) ?_
        have J_27 : ∀ (n : Nat) (y1_27 : Int32) (y3_27 : Int32) (σ : za_S) (hz : zq 12 σ0 σ) (i3_27 : 0 ≤ y3_27.toInt) (u3_27 : y3_27.toInt ≤ 100) (hn_27 : (2147483648 - y3_27.toInt).toNat < n), zV p l e (zRm 4 89) s m args below meth c E (za_A E) 4 0 0 (MQ below (va_Qi (fun r σ' => zq 12 σ0 σ') (zB E) (za_A E)) args s 0 0 (za_A E)) 27 [(0, za_O 19 93), (1, za_I y1_27), (2, za_I y2_19), (3, za_I y3_27)] [] σ := by
          intro n
          induction n with
          | zero => intro y1_27 y3_27 σ hz i3_27 u3_27 hn; exact absurd hn (Nat.not_lt_zero _)
          | succ n ih_27 =>
            intro y1_27 y3_27 σ hz i3_27 u3_27 hn_27
            refine zv_iload_n (j := 3) G dX10_either_27 rfl rfl ?_
            refine zv_bipush (v := 100) G dX10_either_28 (by decide) ?_
            refine zv_icmp_ge (tgt := 116) G dX10_either_30 (by decide) (fun c_30 => ?_) (fun c_30 => ?_)
            · have k_30 := z_cle c_30 (a := 100) (b := y3_27.toInt) rfl rfl
              refine zv_aload_n (j := 0) G dX10_either_116 rfl rfl ?_
              refine zv_iload_n (j := 2) G dX10_either_117 rfl rfl ?_
              refine zv_callVv (as := [za_I y2_19]) G (by decide) rfl rfl (zc_X10_countsMarks l E y2_19 σ (zq_J hJ (zq_m hz (by first | decide | omega)))) zk_X10_countsMarks zm_1576 rfl ⟨(Nat.le_of_ble_eq_true rfl), (Nat.le_of_ble_eq_true rfl)⟩ ⟨Nat.zero_le _, Nat.zero_le _⟩ (Nat.le_of_ble_eq_true rfl) dX10_either_118 (fun σ h_118 => ?_)
              have hz9 := h_118
              have hz : zq 12 σ0 σ := zq_tr hz hz9
              obtain ⟨x_121, e_121⟩ : ∃ y : Int32, y = y2_19 + 1 := ⟨_, rfl⟩
              refine zv_iinc (j := 2) (v := x_121) (lv' := [(2, za_I x_121), (0, za_O 19 93), (1, za_I y1_27), (3, za_I y3_27)]) G dX10_either_121 rfl (by rw [e_121]; rfl) (by decide) rfl ?_
              first | have q_121 := z_inc9 (by omega) e_121 | skip
              refine zv_goto (tgt := 19) G dX10_either_124 (by decide) ?_
              refine zv_sub [1, 2, 0] (lv' := [(0, za_O 19 93), (1, za_I y1_27), (2, za_I x_121)]) rfl ?_
              exact ih_19 y1_27 x_121 σ (zq_m hz (by first | decide | omega | (have hL := z_lits; omega))) (by have := z_inc c_22 e_121; omega) (by have := z_inc9 (by omega) e_121; omega) (z_meas c_22 e_121 hn_19)
            · have b_30 : 0 ≤ y3_27.toInt ∧ y3_27.toInt < 100 := ⟨i3_27, z_ltk c_30 rfl⟩
              have k_30 := z_cnle c_30 (a := 100) (b := y3_27.toInt) rfl rfl
              refine zv_aload_n (j := 0) G dX10_either_33 rfl rfl ?_
              refine zg_X10_138 G dX10_either_34 ?_
              refine zv_iload_n (j := 3) G dX10_either_37 rfl rfl ?_
              refine zv_aload_n (j := 0) G dX10_either_38 rfl rfl ?_
              refine zg_X10_118 G dX10_either_39 ?_
              refine zv_iconst (v := 0) G dX10_either_42 (by decide) ?_
              refine zv_iload_n (j := 2) G dX10_either_43 rfl rfl ?_
              refine zv_iload_n (j := 3) G dX10_either_44 rfl rfl ?_
              refine zv_callSi (as := [za_O 22 99, za_I 0, za_I y2_19, za_I y3_27]) G (zc_X10_isThere l E 99 (0 : Int32) y2_19 y3_27 σ (by first | assumption | decide | omega | exact hz.2.1.1 | exact hz.2.1.2) (by first | assumption | decide | omega | exact hz.2.1.1 | exact hz.2.1.2)) zk_X10_isThere zm_1320 rfl ⟨(Nat.le_of_ble_eq_true rfl), (Nat.le_of_ble_eq_true rfl)⟩ ⟨Nat.zero_le _, Nat.zero_le _⟩ (Nat.le_of_ble_eq_true rfl) dX10_either_45 (fun r_45 σ h_45 => ?_)
              obtain ⟨h_45, rfl⟩ := h_45
              have J_69 : ∀ (s0_69 : Int32) (σ : za_S) (hz : zq 12 σ0 σ), zV p l e (zRm 4 89) s m args below meth c E (za_A E) 4 0 0 (MQ below (va_Qi (fun r σ' => zq 12 σ0 σ') (zB E) (za_A E)) args s 0 0 (za_A E)) 69 [(0, za_O 19 93), (1, za_I y1_27), (2, za_I y2_19), (3, za_I y3_27)] [za_I s0_69, za_I y3_27, za_O 31 185] σ := by
                intro s0_69 σ hz
                refine zv_callSi (as := [za_I s0_69]) G (zc_X10_flag l E s0_69 σ ) zk_X10_flag zm_1351 rfl ⟨(Nat.le_of_ble_eq_true rfl), (Nat.le_of_ble_eq_true rfl)⟩ ⟨Nat.zero_le _, Nat.zero_le _⟩ (Nat.le_of_ble_eq_true rfl) dX10_either_69 (fun r_69 σ h_69 => ?_)
                obtain ⟨h_69, rfl⟩ := h_69
                have g_69 := z_flagT h_69.2 (a := s0_69.toInt) rfl
                refine zv_iast G (by decide) rfl (fun _ => rfl) (z_in (by omega) (by omega)) dX10_either_72 ?_
                refine zv_gen (R9 := zq 12 σ0) (zq_w hz (by first | decide | omega)) (fun σ hz => ?_)
                refine zv_iload_n (j := 1) G dX10_either_73 rfl rfl ?_
                refine zv_aload_n (j := 0) G dX10_either_74 rfl rfl ?_
                refine zg_X10_118 G dX10_either_75 ?_
                refine zv_iconst (v := 0) G dX10_either_78 (by decide) ?_
                refine zv_iload_n (j := 2) G dX10_either_79 rfl rfl ?_
                refine zv_iload_n (j := 3) G dX10_either_80 rfl rfl ?_
                refine zv_callSi (as := [za_O 22 99, za_I 0, za_I y2_19, za_I y3_27]) G (zc_X10_isThere l E 99 (0 : Int32) y2_19 y3_27 σ (by first | assumption | decide | omega | exact hz.2.1.1 | exact hz.2.1.2) (by first | assumption | decide | omega | exact hz.2.1.1 | exact hz.2.1.2)) zk_X10_isThere zm_1320 rfl ⟨(Nat.le_of_ble_eq_true rfl), (Nat.le_of_ble_eq_true rfl)⟩ ⟨Nat.zero_le _, Nat.zero_le _⟩ (Nat.le_of_ble_eq_true rfl) dX10_either_81 (fun r_81 σ h_81 => ?_)
                obtain ⟨h_81, rfl⟩ := h_81
                refine zv_if_eq (tgt := 104) G dX10_either_84 (by decide) (fun c_84 => ?_) (fun c_84 => ?_)
                · have f_81 := fun q9 => (h_81.2.mpr q9) c_84
                  refine zv_iconst (v := 0) G dX10_either_104 (by decide) ?_
                  refine zv_callSi (as := [za_I 0]) G (zc_X10_flag l E (0 : Int32) σ ) zk_X10_flag zm_1351 rfl ⟨(Nat.le_of_ble_eq_true rfl), (Nat.le_of_ble_eq_true rfl)⟩ ⟨Nat.zero_le _, Nat.zero_le _⟩ (Nat.le_of_ble_eq_true rfl) dX10_either_105 (fun r_105 σ h_105 => ?_)
                  obtain ⟨h_105, rfl⟩ := h_105
                  have g_105 := z_flagT h_105.2 (a := 0) rfl
                  refine zv_iadd G dX10_either_108 ?_
                  refine zv_top (fun x_109 e_109 => ?_)
                  first | have q_109 := z_addf e_109 (a := y1_27.toInt) (b := r_105.toInt) rfl rfl (by omega) (by omega) | skip
                  refine zv_istore_n (lv' := [(1, za_I x_109), (0, za_O 19 93), (2, za_I y2_19), (3, za_I y3_27)]) G dX10_either_109 rfl (by decide) rfl ?_
                  obtain ⟨x_110, e_110⟩ : ∃ y : Int32, y = y3_27 + 1 := ⟨_, rfl⟩
                  refine zv_iinc (j := 3) (v := x_110) (lv' := [(3, za_I x_110), (1, za_I x_109), (0, za_O 19 93), (2, za_I y2_19)]) G dX10_either_110 rfl (by rw [e_110]; rfl) (by decide) rfl ?_
                  first | have q_110 := z_inc9 (by omega) e_110 | skip
                  refine zv_goto (tgt := 27) G dX10_either_113 (by decide) ?_
                  refine zv_sub [2, 1, 3, 0] (lv' := [(0, za_O 19 93), (1, za_I x_109), (2, za_I y2_19), (3, za_I x_110)]) rfl ?_
                  exact ih_27 x_109 x_110 σ (zq_m hz (by first | decide | omega | (have hL := z_lits; omega))) (by have := z_inc c_30 e_110; omega) (by have := z_inc9 (by omega) e_110; omega) (z_meas c_30 e_110 hn_27)
                · have t_81 := h_81.2.mp c_84
                  refine zv_aload_n (j := 0) G dX10_either_87 rfl rfl ?_
                  refine zg_X10_118 G dX10_either_88 ?_
                  refine zv_iconst (v := 1) G dX10_either_91 (by decide) ?_
                  refine zv_iload_n (j := 2) G dX10_either_92 rfl rfl ?_
                  refine zv_iload_n (j := 3) G dX10_either_93 rfl rfl ?_
                  refine zv_callSi (as := [za_O 22 99, za_I 1, za_I y2_19, za_I y3_27]) G (zc_X10_isThere l E 99 (1 : Int32) y2_19 y3_27 σ (by first | assumption | decide | omega | exact hz.2.1.1 | exact hz.2.1.2) (by first | assumption | decide | omega | exact hz.2.1.1 | exact hz.2.1.2)) zk_X10_isThere zm_1320 rfl ⟨(Nat.le_of_ble_eq_true rfl), (Nat.le_of_ble_eq_true rfl)⟩ ⟨Nat.zero_le _, Nat.zero_le _⟩ (Nat.le_of_ble_eq_true rfl) dX10_either_94 (fun r_94 σ h_94 => ?_)
                  obtain ⟨h_94, rfl⟩ := h_94
                  refine zv_if_eq (tgt := 104) G dX10_either_97 (by decide) (fun c_97 => ?_) (fun c_97 => ?_)
                  · have f_94 := fun q9 => (h_94.2.mpr q9) c_97
                    refine zv_iconst (v := 0) G dX10_either_104 (by decide) ?_
                    refine zv_callSi (as := [za_I 0]) G (zc_X10_flag l E (0 : Int32) σ ) zk_X10_flag zm_1351 rfl ⟨(Nat.le_of_ble_eq_true rfl), (Nat.le_of_ble_eq_true rfl)⟩ ⟨Nat.zero_le _, Nat.zero_le _⟩ (Nat.le_of_ble_eq_true rfl) dX10_either_105 (fun r_105 σ h_105 => ?_)
                    obtain ⟨h_105, rfl⟩ := h_105
                    have g_105 := z_flagT h_105.2 (a := 0) rfl
                    refine zv_iadd G dX10_either_108 ?_
                    refine zv_top (fun x_109 e_109 => ?_)
                    first | have q_109 := z_addf e_109 (a := y1_27.toInt) (b := r_105.toInt) rfl rfl (by omega) (by omega) | skip
                    refine zv_istore_n (lv' := [(1, za_I x_109), (0, za_O 19 93), (2, za_I y2_19), (3, za_I y3_27)]) G dX10_either_109 rfl (by decide) rfl ?_
                    obtain ⟨x_110, e_110⟩ : ∃ y : Int32, y = y3_27 + 1 := ⟨_, rfl⟩
                    refine zv_iinc (j := 3) (v := x_110) (lv' := [(3, za_I x_110), (1, za_I x_109), (0, za_O 19 93), (2, za_I y2_19)]) G dX10_either_110 rfl (by rw [e_110]; rfl) (by decide) rfl ?_
                    first | have q_110 := z_inc9 (by omega) e_110 | skip
                    refine zv_goto (tgt := 27) G dX10_either_113 (by decide) ?_
                    refine zv_sub [2, 1, 3, 0] (lv' := [(0, za_O 19 93), (1, za_I x_109), (2, za_I y2_19), (3, za_I x_110)]) rfl ?_
                    exact ih_27 x_109 x_110 σ (zq_m hz (by first | decide | omega | (have hL := z_lits; omega))) (by have := z_inc c_30 e_110; omega) (by have := z_inc9 (by omega) e_110; omega) (z_meas c_30 e_110 hn_27)
                  · have t_94 := h_94.2.mp c_97
                    refine zv_iconst (v := 1) G dX10_either_100 (by decide) ?_
                    refine zv_goto (tgt := 105) G dX10_either_101 (by decide) ?_
                    refine zv_callSi (as := [za_I 1]) G (zc_X10_flag l E (1 : Int32) σ ) zk_X10_flag zm_1351 rfl ⟨(Nat.le_of_ble_eq_true rfl), (Nat.le_of_ble_eq_true rfl)⟩ ⟨Nat.zero_le _, Nat.zero_le _⟩ (Nat.le_of_ble_eq_true rfl) dX10_either_105 (fun r_105 σ h_105 => ?_)
                    obtain ⟨h_105, rfl⟩ := h_105
                    have g_105 := z_flagT h_105.2 (a := 1) rfl
                    refine zv_iadd G dX10_either_108 ?_
                    refine zv_top (fun x_109 e_109 => ?_)
                    first | have q_109 := z_addf e_109 (a := y1_27.toInt) (b := r_105.toInt) rfl rfl (by omega) (by omega) | skip
                    refine zv_istore_n (lv' := [(1, za_I x_109), (0, za_O 19 93), (2, za_I y2_19), (3, za_I y3_27)]) G dX10_either_109 rfl (by decide) rfl ?_
                    obtain ⟨x_110, e_110⟩ : ∃ y : Int32, y = y3_27 + 1 := ⟨_, rfl⟩
                    refine zv_iinc (j := 3) (v := x_110) (lv' := [(3, za_I x_110), (1, za_I x_109), (0, za_O 19 93), (2, za_I y2_19)]) G dX10_either_110 rfl (by rw [e_110]; rfl) (by decide) rfl ?_
                    first | have q_110 := z_inc9 (by omega) e_110 | skip
                    refine zv_goto (tgt := 27) G dX10_either_113 (by decide) ?_
                    refine zv_sub [2, 1, 3, 0] (lv' := [(0, za_O 19 93), (1, za_I x_109), (2, za_I y2_19), (3, za_I x_110)]) rfl ?_
                    exact ih_27 x_109 x_110 σ (zq_m hz (by first | decide | omega | (have hL := z_lits; omega))) (by have := z_inc c_30 e_110; omega) (by have := z_inc9 (by omega) e_110; omega) (z_meas c_30 e_110 hn_27)
              have J_64 : ∀  (σ : za_S) (hz : zq 12 σ0 σ), zV p l e (zRm 4 89) s m args below meth c E (za_A E) 4 0 0 (MQ below (va_Qi (fun r σ' => zq 12 σ0 σ') (zB E) (za_A E)) args s 0 0 (za_A E)) 64 [(0, za_O 19 93), (1, za_I y1_27), (2, za_I y2_19), (3, za_I y3_27)] [za_I y3_27, za_O 31 185] σ := by
                intro σ hz
                refine zv_iconst (v := 1) G dX10_either_64 (by decide) ?_
                refine zv_goto (tgt := 69) G dX10_either_65 (by decide) ?_
                refine zv_sub [0, 1, 2, 3] (lv' := [(0, za_O 19 93), (1, za_I y1_27), (2, za_I y2_19), (3, za_I y3_27)]) rfl ?_
                exact J_69 (1 : Int32) σ (zq_m hz (by first | decide | omega | (have hL := z_lits; omega)))
              refine zv_if_ne (tgt := 64) G dX10_either_48 (by decide) (fun c_48 => ?_) (fun c_48 => ?_)
              · have t_45 := h_45.2.mp c_48
                refine zv_sub [0, 1, 2, 3] (lv' := [(0, za_O 19 93), (1, za_I y1_27), (2, za_I y2_19), (3, za_I y3_27)]) rfl ?_
                exact J_64 σ (zq_m hz (by first | decide | omega | (have hL := z_lits; omega)))
              · have f_45 := fun q9 => (h_45.2.mpr q9) c_48
                refine zv_aload_n (j := 0) G dX10_either_51 rfl rfl ?_
                refine zg_X10_118 G dX10_either_52 ?_
                refine zv_iconst (v := 1) G dX10_either_55 (by decide) ?_
                refine zv_iload_n (j := 2) G dX10_either_56 rfl rfl ?_
                refine zv_iload_n (j := 3) G dX10_either_57 rfl rfl ?_
                refine zv_callSi (as := [za_O 22 99, za_I 1, za_I y2_19, za_I y3_27]) G (zc_X10_isThere l E 99 (1 : Int32) y2_19 y3_27 σ (by first | assumption | decide | omega | exact hz.2.1.1 | exact hz.2.1.2) (by first | assumption | decide | omega | exact hz.2.1.1 | exact hz.2.1.2)) zk_X10_isThere zm_1320 rfl ⟨(Nat.le_of_ble_eq_true rfl), (Nat.le_of_ble_eq_true rfl)⟩ ⟨Nat.zero_le _, Nat.zero_le _⟩ (Nat.le_of_ble_eq_true rfl) dX10_either_58 (fun r_58 σ h_58 => ?_)
                obtain ⟨h_58, rfl⟩ := h_58
                refine zv_if_eq (tgt := 68) G dX10_either_61 (by decide) (fun c_61 => ?_) (fun c_61 => ?_)
                · have f_58 := fun q9 => (h_58.2.mpr q9) c_61
                  refine zv_iconst (v := 0) G dX10_either_68 (by decide) ?_
                  refine zv_sub [0, 1, 2, 3] (lv' := [(0, za_O 19 93), (1, za_I y1_27), (2, za_I y2_19), (3, za_I y3_27)]) rfl ?_
                  exact J_69 (0 : Int32) σ (zq_m hz (by first | decide | omega | (have hL := z_lits; omega)))
                · have t_58 := h_58.2.mp c_61
                  refine zv_sub [0, 1, 2, 3] (lv' := [(0, za_O 19 93), (1, za_I y1_27), (2, za_I y2_19), (3, za_I y3_27)]) rfl ?_
                  exact J_64 σ (zq_m hz (by first | decide | omega | (have hL := z_lits; omega)))
        refine zv_istore_n (lv' := [(3, za_I 0), (0, za_O 19 93), (1, za_I y1_19), (2, za_I y2_19)]) G dX10_either_26 rfl (by decide) rfl ?_
        refine zv_sub [1, 2, 3, 0] (lv' := [(0, za_O 19 93), (1, za_I y1_19), (2, za_I y2_19), (3, za_I 0)]) rfl ?_
        exact J_27 _ y1_19 (0 : Int32) σ (zq_m hz (by first | decide | omega | (have hL := z_lits; omega))) (by decide) (by decide) (Nat.lt_succ_self _)
  refine zv_istore_n (lv' := [(2, za_I 0), (1, za_I 0), (0, za_O 19 93)]) G dX10_either_18 rfl (by decide) rfl ?_
  refine zv_sub [2, 1, 0] (lv' := [(0, za_O 19 93), (1, za_I 0), (2, za_I 0)]) rfl ?_
  exact J_19 _ (0 : Int32) (0 : Int32) σ (zq_m hz (by first | decide | omega | (have hL := z_lits; omega))) (by decide) (by decide) (Nat.lt_succ_self _)
set_option maxHeartbeats 4000000 in
set_option maxRecDepth 100000 in
theorem zc_X10_sums (l : Launch) (E : za_E) (t : Int32) (fd : Int32) (td : Int32) (σ0 : za_S) (hJ : zJ σ0) : zMi l E yX10_sums cX10_sums 10 (Option.some Jvm.ClassFile.FieldType.int) 4 89 [za_O 19 93, za_I t, za_I fd, za_I td] σ0 (fun r σ' => zq 12 σ0 σ') := by
  refine zMi_of [(0, za_O 19 93), (1, za_I t), (2, za_I fd), (3, za_I td)] (by decide) rfl rfl (Nat.le_of_ble_eq_true rfl) ?_
  intro ho p e s m args below meth c G hr
  refine zv_gen (R9 := zq 12 σ0) (zq_0 hJ) (fun σ hz => ?_)
  refine zv_aload_n (j := 0) G dX10_sums_0 rfl rfl ?_
  refine zv_iconst (v := 0) G dX10_sums_1 (by decide) ?_
  refine zp_X10_3 G dX10_sums_2 ?_
  refine zv_gen (R9 := zq 12 σ0) (zq_93 hz (by decide)) (fun σ hz => ?_)
  refine zv_iload_n (j := 1) G dX10_sums_5 rfl rfl ?_
  refine zv_callSi (as := [za_I t]) G (zc_X10_isTable l E t σ ) zk_X10_isTable zm_1309 rfl ⟨(Nat.le_of_ble_eq_true rfl), (Nat.le_of_ble_eq_true rfl)⟩ ⟨Nat.zero_le _, Nat.zero_le _⟩ (Nat.le_of_ble_eq_true rfl) dX10_sums_6 (fun r_6 σ h_6 => ?_)
  obtain ⟨h_6, rfl⟩ := h_6
  refine zv_if_eq (tgt := 20) G dX10_sums_9 (by decide) (fun c_9 => ?_) (fun c_9 => ?_)
  · have f_6 := fun q9 => (h_6.2.mpr q9) c_9
    refine zv_iconst (v := (-1)) G dX10_sums_20 (by decide) ?_
    exact zv_iret G hr dX10_sums_21 (zq_m hz (by first | decide | omega | (have hL := z_lits; omega)))
  · have t_6 := h_6.2.mp c_9
    refine zv_iload_n (j := 2) G dX10_sums_12 rfl rfl ?_
    refine zv_iload_n (j := 3) G dX10_sums_13 rfl rfl ?_
    refine zv_callSi (as := [za_I fd, za_I td]) G (zc_X10_isPeriod l E fd td σ ) zk_X10_isPeriod zm_1375 rfl ⟨(Nat.le_of_ble_eq_true rfl), (Nat.le_of_ble_eq_true rfl)⟩ ⟨Nat.zero_le _, Nat.zero_le _⟩ (Nat.le_of_ble_eq_true rfl) dX10_sums_14 (fun r_14 σ h_14 => ?_)
    obtain ⟨h_14, rfl⟩ := h_14
    refine zv_if_ne (tgt := 22) G dX10_sums_17 (by decide) (fun c_17 => ?_) (fun c_17 => ?_)
    · have t_14 := h_14.2.mp c_17
      refine zv_iconst (v := 0) G dX10_sums_22 (by decide) ?_
      refine zv_istore (lv' := [(4, za_I 0), (0, za_O 19 93), (1, za_I t), (2, za_I fd), (3, za_I td)]) G dX10_sums_23 (by decide) rfl ?_
      refine zv_iconst (v := (-1)) G dX10_sums_25 (by decide) ?_
      refine zv_istore (lv' := [(5, za_I (-1)), (4, za_I 0), (0, za_O 19 93), (1, za_I t), (2, za_I fd), (3, za_I td)]) G dX10_sums_26 (by decide) rfl ?_
      refine zv_iload_n (j := 4) G dX10_sums_28 rfl rfl ?_
      refine zv_istore (lv' := [(6, za_I fd), (5, za_I (-1)), (4, za_I 0), (0, za_O 19 93), (1, za_I t), (2, za_I fd), (3, za_I td)]) G dX10_sums_29 (by decide) rfl ?_
      refine zv_iload_n (j := 5) G dX10_sums_31 rfl rfl ?_
      have J_34 : ∀ (n : Nat) (y4_34 : Int32) (y5_34 : Int32) (y6_34 : Int32) (y7_34 : Int32) (σ : za_S) (hz : zq 12 σ0 σ) (i7_34 : 0 ≤ y7_34.toInt) (hn_34 : (2147483648 - y7_34.toInt).toNat < n), zV p l e (zRm 4 89) s m args below meth c E (za_A E) 10 0 0 (MQ below (va_Qi (fun r σ' => zq 12 σ0 σ') (zB E) (za_A E)) args s 0 0 (za_A E)) 34 [(0, za_O 19 93), (1, za_I t), (3, za_I td), (4, za_I y4_34), (5, za_I y5_34), (6, za_I y6_34), (7, za_I y7_34)] [] σ := by
        intro n
        induction n with
        | zero => intro y4_34 y5_34 y6_34 y7_34 σ hz i7_34 hn; exact absurd hn (Nat.not_lt_zero _)
        | succ n ih_34 =>
          intro y4_34 y5_34 y6_34 y7_34 σ hz i7_34 hn_34
          refine zv_iload (j := 6) G dX10_sums_34 rfl ?_
          refine zv_iload_n (j := 2) G dX10_sums_36 rfl rfl ?_
          refine zv_icmp_ge (tgt := 133) G dX10_sums_37 (by decide) (fun c_37 => ?_) (fun c_37 => ?_)
          · have k_37 := z_cle c_37 (a := td.toInt) (b := y7_34.toInt) rfl rfl
            refine zv_aload_n (j := 0) G dX10_sums_133 rfl rfl ?_
            refine zv_iconst (v := 0) G dX10_sums_134 (by decide) ?_
            refine zp_X10_15 G dX10_sums_135 ?_
            refine zv_gen (R9 := zq 0 σ0) (zq_t0 hz) (fun σ hz => ?_)
            refine zv_aload_n (j := 0) G dX10_sums_138 rfl rfl ?_
            refine zv_iload (j := 4) G dX10_sums_139 rfl ?_
            refine zv_i2l G dX10_sums_141 ?_
            refine zv_callVv (as := [za_L y5_34.toInt64]) G (by decide) rfl rfl (zc_X10_enters l E y5_34.toInt64 σ (zq_p hz (by first | decide | omega))) zk_X10_enters zm_1418 rfl ⟨(Nat.le_of_ble_eq_true rfl), (Nat.le_of_ble_eq_true rfl)⟩ ⟨Nat.zero_le _, Nat.zero_le _⟩ (Nat.le_of_ble_eq_true rfl) dX10_sums_142 (fun σ h_142 => ?_)
            have hz : zq 1 σ0 σ := zq_e hz h_142
            refine zv_aload_n (j := 0) G dX10_sums_145 rfl rfl ?_
            refine zv_iload (j := 5) G dX10_sums_146 rfl ?_
            refine zv_i2l G dX10_sums_148 ?_
            refine zv_callVv (as := [za_L y6_34.toInt64]) G (by decide) rfl rfl (zc_X10_enters l E y6_34.toInt64 σ (zq_p hz (by first | decide | omega))) zk_X10_enters zm_1418 rfl ⟨(Nat.le_of_ble_eq_true rfl), (Nat.le_of_ble_eq_true rfl)⟩ ⟨Nat.zero_le _, Nat.zero_le _⟩ (Nat.le_of_ble_eq_true rfl) dX10_sums_149 (fun σ h_149 => ?_)
            have hz : zq 2 σ0 σ := zq_e hz h_149
            refine zv_iload (j := 3) G dX10_sums_152 rfl ?_
            exact zv_iret G hr dX10_sums_154 (zq_m hz (by first | decide | omega | (have hL := z_lits; omega)))
          · have k_37 := z_cnle c_37 (a := td.toInt) (b := y7_34.toInt) rfl rfl
            refine zv_iconst (v := 0) G dX10_sums_40 (by decide) ?_
            refine zv_istore (lv' := [(8, za_I 0), (0, za_O 19 93), (1, za_I t), (3, za_I td), (4, za_I y4_34), (5, za_I y5_34), (6, za_I y6_34), (7, za_I y7_34)]) G dX10_sums_41 (by decide) rfl ?_
            refine zv_iconst (v := 0) G dX10_sums_43 (by decide) ?_
            have J_46 : ∀ (n : Nat) (y8_46 : Int32) (y9_46 : Int32) (σ : za_S) (hz : zq 12 σ0 σ) (i9_46 : 0 ≤ y9_46.toInt) (u9_46 : y9_46.toInt ≤ 10) (hn_46 : (2147483648 - y9_46.toInt).toNat < n), zV p l e (zRm 4 89) s m args below meth c E (za_A E) 10 0 0 (MQ below (va_Qi (fun r σ' => zq 12 σ0 σ') (zB E) (za_A E)) args s 0 0 (za_A E)) 46 [(0, za_O 19 93), (1, za_I t), (3, za_I td), (4, za_I y4_34), (5, za_I y5_34), (6, za_I y6_34), (7, za_I y7_34), (8, za_I y8_46), (9, za_I y9_46)] [] σ := by
              intro n
              induction n with
              | zero => intro y8_46 y9_46 σ hz i9_46 u9_46 hn; exact absurd hn (Nat.not_lt_zero _)
              | succ n ih_46 =>
                intro y8_46 y9_46 σ hz i9_46 u9_46 hn_46
                refine zv_iload (j := 8) G dX10_sums_46 rfl ?_
                refine zv_bipush (v := 10) G dX10_sums_48 (by decide) ?_
                refine zv_icmp_ge (tgt := 95) G dX10_sums_50 (by decide) (fun c_50 => ?_) (fun c_50 => ?_)
                · have k_50 := z_cle c_50 (a := 10) (b := y9_46.toInt) rfl rfl
                  refine zv_iload (j := 3) G dX10_sums_95 rfl ?_
                  refine zv_iload (j := 7) G dX10_sums_97 rfl ?_
                  refine zv_iadd G dX10_sums_99 ?_
                  refine zv_top (fun x_100 e_100 => ?_)
                  first | have q_100 := z_addf e_100 (a := y4_34.toInt) (b := y8_46.toInt) rfl rfl (by omega) (by omega) | skip
                  refine zv_istore (lv' := [(4, za_I x_100), (0, za_O 19 93), (1, za_I t), (3, za_I td), (5, za_I y5_34), (6, za_I y6_34), (7, za_I y7_34), (8, za_I y8_46), (9, za_I y9_46)]) G dX10_sums_100 (by decide) rfl ?_
                  refine zv_iload (j := 7) G dX10_sums_102 rfl ?_
                  refine zv_iload (j := 4) G dX10_sums_104 rfl ?_
                  refine zv_icmp_le (tgt := 114) G dX10_sums_106 (by decide) (fun c_106 => ?_) (fun c_106 => ?_)
                  · have k_106 := z_cle c_106 (a := y8_46.toInt) (b := y5_34.toInt) rfl rfl
                    refine zv_iload (j := 5) G dX10_sums_114 rfl ?_
                    refine zv_istore (lv' := [(6, za_I y6_34), (4, za_I x_100), (0, za_O 19 93), (1, za_I t), (3, za_I td), (5, za_I y5_34), (7, za_I y7_34), (8, za_I y8_46), (9, za_I y9_46)]) G dX10_sums_116 (by decide) rfl ?_
                    refine zv_iload (j := 5) G dX10_sums_118 rfl ?_
                    refine zv_iload (j := 7) G dX10_sums_120 rfl ?_
                    refine zv_mmax G zm_1355 zm_395 zm_147 zm_396 (Nat.le_of_ble_eq_true rfl) (Nat.le_of_ble_eq_true rfl) (Nat.zero_le _) (Nat.zero_le _) dX10_sums_122 ?_
                    refine zv_top (fun x_122 e_122 => ?_)
                    refine zv_istore (lv' := [(5, za_I x_122), (6, za_I y6_34), (4, za_I x_100), (0, za_O 19 93), (1, za_I t), (3, za_I td), (7, za_I y7_34), (8, za_I y8_46), (9, za_I y9_46)]) G dX10_sums_125 (by decide) rfl ?_
                    obtain ⟨x_127, e_127⟩ : ∃ y : Int32, y = y7_34 + 1 := ⟨_, rfl⟩
                    refine zv_iinc (j := 6) (v := x_127) (lv' := [(7, za_I x_127), (5, za_I x_122), (6, za_I y6_34), (4, za_I x_100), (0, za_O 19 93), (1, za_I t), (3, za_I td), (8, za_I y8_46), (9, za_I y9_46)]) G dX10_sums_127 rfl (by rw [e_127]; rfl) (by decide) rfl ?_
                    first | have q_127 := z_inc9 (by omega) e_127 | skip
                    refine zv_goto (tgt := 34) G dX10_sums_130 (by decide) ?_
                    refine zv_sub [4, 5, 6, 3, 1, 2, 0] (lv' := [(0, za_O 19 93), (1, za_I t), (3, za_I td), (4, za_I x_100), (5, za_I x_122), (6, za_I y6_34), (7, za_I x_127)]) rfl ?_
                    exact ih_34 x_100 x_122 y6_34 x_127 σ (zq_m hz (by first | decide | omega | (have hL := z_lits; omega))) (by have := z_inc c_37 e_127; omega) (z_meas c_37 e_127 hn_34)
                  · have k_106 := z_cnle c_106 (a := y8_46.toInt) (b := y5_34.toInt) rfl rfl
                    refine zv_iload (j := 6) G dX10_sums_109 rfl ?_
                    refine zv_goto (tgt := 116) G dX10_sums_111 (by decide) ?_
                    refine zv_istore (lv' := [(6, za_I y7_34), (4, za_I x_100), (0, za_O 19 93), (1, za_I t), (3, za_I td), (5, za_I y5_34), (7, za_I y7_34), (8, za_I y8_46), (9, za_I y9_46)]) G dX10_sums_116 (by decide) rfl ?_
                    refine zv_iload (j := 5) G dX10_sums_118 rfl ?_
                    refine zv_iload (j := 7) G dX10_sums_120 rfl ?_
                    refine zv_mmax G zm_1355 zm_395 zm_147 zm_396 (Nat.le_of_ble_eq_true rfl) (Nat.le_of_ble_eq_true rfl) (Nat.zero_le _) (Nat.zero_le _) dX10_sums_122 ?_
                    refine zv_top (fun x_122 e_122 => ?_)
                    refine zv_istore (lv' := [(5, za_I x_122), (6, za_I y7_34), (4, za_I x_100), (0, za_O 19 93), (1, za_I t), (3, za_I td), (7, za_I y7_34), (8, za_I y8_46), (9, za_I y9_46)]) G dX10_sums_125 (by decide) rfl ?_
                    obtain ⟨x_127, e_127⟩ : ∃ y : Int32, y = y7_34 + 1 := ⟨_, rfl⟩
                    refine zv_iinc (j := 6) (v := x_127) (lv' := [(7, za_I x_127), (5, za_I x_122), (6, za_I y7_34), (4, za_I x_100), (0, za_O 19 93), (1, za_I t), (3, za_I td), (8, za_I y8_46), (9, za_I y9_46)]) G dX10_sums_127 rfl (by rw [e_127]; rfl) (by decide) rfl ?_
                    first | have q_127 := z_inc9 (by omega) e_127 | skip
                    refine zv_goto (tgt := 34) G dX10_sums_130 (by decide) ?_
                    refine zv_sub [4, 5, 6, 3, 1, 2, 0] (lv' := [(0, za_O 19 93), (1, za_I t), (3, za_I td), (4, za_I x_100), (5, za_I x_122), (6, za_I y7_34), (7, za_I x_127)]) rfl ?_
                    exact ih_34 x_100 x_122 y7_34 x_127 σ (zq_m hz (by first | decide | omega | (have hL := z_lits; omega))) (by have := z_inc c_37 e_127; omega) (z_meas c_37 e_127 hn_34)
                · have b_50 : 0 ≤ y9_46.toInt ∧ y9_46.toInt < 10 := ⟨i9_46, z_ltk c_50 rfl⟩
                  have k_50 := z_cnle c_50 (a := 10) (b := y9_46.toInt) rfl rfl
                  refine zv_iload (j := 7) G dX10_sums_53 rfl ?_
                  refine zv_aload_n (j := 0) G dX10_sums_55 rfl rfl ?_
                  refine zg_X10_118 G dX10_sums_56 ?_
                  refine zv_iload_n (j := 1) G dX10_sums_59 rfl rfl ?_
                  refine zv_iload (j := 8) G dX10_sums_60 rfl ?_
                  refine zv_iload (j := 6) G dX10_sums_62 rfl ?_
                  refine zv_callSi (as := [za_O 22 99, za_I t, za_I y9_46, za_I y7_34]) G (zc_X10_isThere l E 99 t y9_46 y7_34 σ (by first | assumption | decide | omega | exact hz.2.1.1 | exact hz.2.1.2) (by first | assumption | decide | omega | exact hz.2.1.1 | exact hz.2.1.2)) zk_X10_isThere zm_1320 rfl ⟨(Nat.le_of_ble_eq_true rfl), (Nat.le_of_ble_eq_true rfl)⟩ ⟨Nat.zero_le _, Nat.zero_le _⟩ (Nat.le_of_ble_eq_true rfl) dX10_sums_64 (fun r_64 σ h_64 => ?_)
                  obtain ⟨h_64, rfl⟩ := h_64
                  refine zv_if_eq (tgt := 85) G dX10_sums_67 (by decide) (fun c_67 => ?_) (fun c_67 => ?_)
                  · have f_64 := fun q9 => (h_64.2.mpr q9) c_67
                    refine zv_iconst (v := 0) G dX10_sums_85 (by decide) ?_
                    refine zv_iadd G dX10_sums_86 ?_
                    refine zv_top (fun x_87 e_87 => ?_)
                    first | have q_87 := z_addf e_87 (a := y8_46.toInt) (b := 0) rfl rfl (by omega) (by omega) | skip
                    refine zv_istore (lv' := [(8, za_I x_87), (0, za_O 19 93), (1, za_I t), (3, za_I td), (4, za_I y4_34), (5, za_I y5_34), (6, za_I y6_34), (7, za_I y7_34), (9, za_I y9_46)]) G dX10_sums_87 (by decide) rfl ?_
                    obtain ⟨x_89, e_89⟩ : ∃ y : Int32, y = y9_46 + 1 := ⟨_, rfl⟩
                    refine zv_iinc (j := 8) (v := x_89) (lv' := [(9, za_I x_89), (8, za_I x_87), (0, za_O 19 93), (1, za_I t), (3, za_I td), (4, za_I y4_34), (5, za_I y5_34), (6, za_I y6_34), (7, za_I y7_34)]) G dX10_sums_89 rfl (by rw [e_89]; rfl) (by decide) rfl ?_
                    first | have q_89 := z_inc9 (by omega) e_89 | skip
                    refine zv_goto (tgt := 46) G dX10_sums_92 (by decide) ?_
                    refine zv_sub [2, 3, 4, 5, 6, 7, 8, 1, 0] (lv' := [(0, za_O 19 93), (1, za_I t), (3, za_I td), (4, za_I y4_34), (5, za_I y5_34), (6, za_I y6_34), (7, za_I y7_34), (8, za_I x_87), (9, za_I x_89)]) rfl ?_
                    exact ih_46 x_87 x_89 σ (zq_m hz (by first | decide | omega | (have hL := z_lits; omega))) (by have := z_inc c_50 e_89; omega) (by have := z_inc9 (by omega) e_89; omega) (z_meas c_50 e_89 hn_46)
                  · have t_64 := h_64.2.mp c_67
                    refine zv_aload_n (j := 0) G dX10_sums_70 rfl rfl ?_
                    refine zg_X10_118 G dX10_sums_71 ?_
                    refine zv_iload_n (j := 1) G dX10_sums_74 rfl rfl ?_
                    refine zv_iload (j := 8) G dX10_sums_75 rfl ?_
                    refine zv_iload (j := 6) G dX10_sums_77 rfl ?_
                    refine zv_callSi (as := [za_O 22 99, za_I t, za_I y9_46, za_I y7_34]) G (zc_X10_valueOn l E 99 t y9_46 y7_34 σ (by first | assumption | decide | omega | exact hz.2.1.1 | exact hz.2.1.2) (by first | assumption | decide | omega | exact hz.2.1.1 | exact hz.2.1.2) (by first | assumption | decide | omega | exact hz.2.1.1 | exact hz.2.1.2)) zk_X10_valueOn zm_1334 rfl ⟨(Nat.le_of_ble_eq_true rfl), (Nat.le_of_ble_eq_true rfl)⟩ ⟨Nat.zero_le _, Nat.zero_le _⟩ (Nat.le_of_ble_eq_true rfl) dX10_sums_79 (fun r_79 σ h_79 => ?_)
                    obtain ⟨h_79, rfl⟩ := h_79
                    refine zv_goto (tgt := 86) G dX10_sums_82 (by decide) ?_
                    refine zv_iadd G dX10_sums_86 ?_
                    refine zv_top (fun x_87 e_87 => ?_)
                    first | have q_87 := z_addf e_87 (a := y8_46.toInt) (b := r_79.toInt) rfl rfl (by omega) (by omega) | skip
                    refine zv_istore (lv' := [(8, za_I x_87), (0, za_O 19 93), (1, za_I t), (3, za_I td), (4, za_I y4_34), (5, za_I y5_34), (6, za_I y6_34), (7, za_I y7_34), (9, za_I y9_46)]) G dX10_sums_87 (by decide) rfl ?_
                    obtain ⟨x_89, e_89⟩ : ∃ y : Int32, y = y9_46 + 1 := ⟨_, rfl⟩
                    refine zv_iinc (j := 8) (v := x_89) (lv' := [(9, za_I x_89), (8, za_I x_87), (0, za_O 19 93), (1, za_I t), (3, za_I td), (4, za_I y4_34), (5, za_I y5_34), (6, za_I y6_34), (7, za_I y7_34)]) G dX10_sums_89 rfl (by rw [e_89]; rfl) (by decide) rfl ?_
                    first | have q_89 := z_inc9 (by omega) e_89 | skip
                    refine zv_goto (tgt := 46) G dX10_sums_92 (by decide) ?_
                    refine zv_sub [2, 3, 4, 5, 6, 7, 8, 1, 0] (lv' := [(0, za_O 19 93), (1, za_I t), (3, za_I td), (4, za_I y4_34), (5, za_I y5_34), (6, za_I y6_34), (7, za_I y7_34), (8, za_I x_87), (9, za_I x_89)]) rfl ?_
                    exact ih_46 x_87 x_89 σ (zq_m hz (by first | decide | omega | (have hL := z_lits; omega))) (by have := z_inc c_50 e_89; omega) (by have := z_inc9 (by omega) e_89; omega) (z_meas c_50 e_89 hn_46)
            refine zv_istore (lv' := [(9, za_I 0), (8, za_I 0), (0, za_O 19 93), (1, za_I t), (3, za_I td), (4, za_I y4_34), (5, za_I y5_34), (6, za_I y6_34), (7, za_I y7_34)]) G dX10_sums_44 (by decide) rfl ?_
            refine zv_sub [2, 3, 4, 5, 6, 7, 8, 1, 0] (lv' := [(0, za_O 19 93), (1, za_I t), (3, za_I td), (4, za_I y4_34), (5, za_I y5_34), (6, za_I y6_34), (7, za_I y7_34), (8, za_I 0), (9, za_I 0)]) rfl ?_
            exact J_46 _ (0 : Int32) (0 : Int32) σ (zq_m hz (by first | decide | omega | (have hL := z_lits; omega))) (by decide) (by decide) (Nat.lt_succ_self _)
      refine zv_istore (lv' := [(7, za_I fd), (6, za_I fd), (5, za_I (-1)), (4, za_I 0), (0, za_O 19 93), (1, za_I t), (2, za_I fd), (3, za_I td)]) G dX10_sums_32 (by decide) rfl ?_
      refine zv_sub [4, 5, 7, 3, 2, 1, 0] (lv' := [(0, za_O 19 93), (1, za_I t), (3, za_I td), (4, za_I 0), (5, za_I (-1)), (6, za_I fd), (7, za_I fd)]) rfl ?_
      exact J_34 _ (0 : Int32) (-1) fd fd σ (zq_m hz (by first | decide | omega | (have hL := z_lits; omega))) (by first | assumption | omega) (Nat.lt_succ_self _)
    · have f_14 := fun q9 => (h_14.2.mpr q9) c_17
      refine zv_iconst (v := (-1)) G dX10_sums_20 (by decide) ?_
      exact zv_iret G hr dX10_sums_21 (zq_m hz (by first | decide | omega | (have hL := z_lits; omega)))
set_option maxHeartbeats 4000000 in
set_option maxRecDepth 100000 in
theorem zc_X10_fullest (l : Launch) (E : za_E) (t : Int32) (σ0 : za_S) (hJ : zJ σ0) : zMi l E yX10_fullest cX10_fullest 8 (Option.some Jvm.ClassFile.FieldType.int) 4 89 [za_O 19 93, za_I t] σ0 (fun r σ' => zq 12 σ0 σ') := by
  refine zMi_of [(0, za_O 19 93), (1, za_I t)] (by decide) rfl rfl (Nat.le_of_ble_eq_true rfl) ?_
  intro ho p e s m args below meth c G hr
  refine zv_gen (R9 := zq 12 σ0) (zq_0 hJ) (fun σ hz => ?_)
  refine zv_aload_n (j := 0) G dX10_fullest_0 rfl rfl ?_
  refine zv_iconst (v := 0) G dX10_fullest_1 (by decide) ?_
  refine zp_X10_3 G dX10_fullest_2 ?_
  refine zv_gen (R9 := zq 12 σ0) (zq_93 hz (by decide)) (fun σ hz => ?_)
  refine zv_iload_n (j := 1) G dX10_fullest_5 rfl rfl ?_
  refine zv_callSi (as := [za_I t]) G (zc_X10_isTable l E t σ ) zk_X10_isTable zm_1309 rfl ⟨(Nat.le_of_ble_eq_true rfl), (Nat.le_of_ble_eq_true rfl)⟩ ⟨Nat.zero_le _, Nat.zero_le _⟩ (Nat.le_of_ble_eq_true rfl) dX10_fullest_6 (fun r_6 σ h_6 => ?_)
  obtain ⟨h_6, rfl⟩ := h_6
  refine zv_if_ne (tgt := 14) G dX10_fullest_9 (by decide) (fun c_9 => ?_) (fun c_9 => ?_)
  · have t_6 := h_6.2.mp c_9
    refine zv_iconst (v := 0) G dX10_fullest_14 (by decide) ?_
    refine zv_istore_n (lv' := [(2, za_I 0), (0, za_O 19 93), (1, za_I t)]) G dX10_fullest_15 rfl (by decide) rfl ?_
    refine zv_iconst (v := (-1)) G dX10_fullest_16 (by decide) ?_
    refine zv_istore_n (lv' := [(3, za_I (-1)), (2, za_I 0), (0, za_O 19 93), (1, za_I t)]) G dX10_fullest_17 rfl (by decide) rfl ?_
    refine zv_iconst (v := 0) G dX10_fullest_18 (by decide) ?_
    refine zv_istore (lv' := [(4, za_I 0), (3, za_I (-1)), (2, za_I 0), (0, za_O 19 93), (1, za_I t)]) G dX10_fullest_19 (by decide) rfl ?_
    refine zv_iconst (v := 0) G dX10_fullest_21 (by decide) ?_
    have J_24 : ∀ (n : Nat) (y2_24 : Int32) (y3_24 : Int32) (y4_24 : Int32) (y5_24 : Int32) (σ : za_S) (hz : zq 12 σ0 σ) (i5_24 : 0 ≤ y5_24.toInt) (u5_24 : y5_24.toInt ≤ 100) (hn_24 : (2147483648 - y5_24.toInt).toNat < n), zV p l e (zRm 4 89) s m args below meth c E (za_A E) 8 0 0 (MQ below (va_Qi (fun r σ' => zq 12 σ0 σ') (zB E) (za_A E)) args s 0 0 (za_A E)) 24 [(0, za_O 19 93), (1, za_I t), (2, za_I y2_24), (3, za_I y3_24), (4, za_I y4_24), (5, za_I y5_24)] [] σ := by
      intro n
      induction n with
      | zero => intro y2_24 y3_24 y4_24 y5_24 σ hz i5_24 u5_24 hn; exact absurd hn (Nat.not_lt_zero _)
      | succ n ih_24 =>
        intro y2_24 y3_24 y4_24 y5_24 σ hz i5_24 u5_24 hn_24
        refine zv_iload (j := 5) G dX10_fullest_24 rfl ?_
        refine zv_bipush (v := 100) G dX10_fullest_26 (by decide) ?_
        refine zv_icmp_ge (tgt := 125) G dX10_fullest_28 (by decide) (fun c_28 => ?_) (fun c_28 => ?_)
        · have k_28 := z_cle c_28 (a := 100) (b := y5_24.toInt) rfl rfl
          refine zv_aload_n (j := 0) G dX10_fullest_125 rfl rfl ?_
          refine zv_iconst (v := 0) G dX10_fullest_126 (by decide) ?_
          refine zp_X10_15 G dX10_fullest_127 ?_
          refine zv_gen (R9 := zq 0 σ0) (zq_t0 hz) (fun σ hz => ?_)
          refine zv_aload_n (j := 0) G dX10_fullest_130 rfl rfl ?_
          refine zv_iload_n (j := 3) G dX10_fullest_131 rfl rfl ?_
          refine zv_i2l G dX10_fullest_132 ?_
          refine zv_callVv (as := [za_L y3_24.toInt64]) G (by decide) rfl rfl (zc_X10_enters l E y3_24.toInt64 σ (zq_p hz (by first | decide | omega))) zk_X10_enters zm_1418 rfl ⟨(Nat.le_of_ble_eq_true rfl), (Nat.le_of_ble_eq_true rfl)⟩ ⟨Nat.zero_le _, Nat.zero_le _⟩ (Nat.le_of_ble_eq_true rfl) dX10_fullest_133 (fun σ h_133 => ?_)
          have hz : zq 1 σ0 σ := zq_e hz h_133
          refine zv_aload_n (j := 0) G dX10_fullest_136 rfl rfl ?_
          refine zv_iload (j := 4) G dX10_fullest_137 rfl ?_
          refine zv_i2l G dX10_fullest_139 ?_
          refine zv_callVv (as := [za_L y4_24.toInt64]) G (by decide) rfl rfl (zc_X10_enters l E y4_24.toInt64 σ (zq_p hz (by first | decide | omega))) zk_X10_enters zm_1418 rfl ⟨(Nat.le_of_ble_eq_true rfl), (Nat.le_of_ble_eq_true rfl)⟩ ⟨Nat.zero_le _, Nat.zero_le _⟩ (Nat.le_of_ble_eq_true rfl) dX10_fullest_140 (fun σ h_140 => ?_)
          have hz : zq 2 σ0 σ := zq_e hz h_140
          refine zv_iload_n (j := 2) G dX10_fullest_143 rfl rfl ?_
          exact zv_iret G hr dX10_fullest_144 (zq_m hz (by first | decide | omega | (have hL := z_lits; omega)))
        · have b_28 : 0 ≤ y5_24.toInt ∧ y5_24.toInt < 100 := ⟨i5_24, z_ltk c_28 rfl⟩
          have k_28 := z_cnle c_28 (a := 100) (b := y5_24.toInt) rfl rfl
          refine zv_iconst (v := 0) G dX10_fullest_31 (by decide) ?_
          refine zv_istore (lv' := [(6, za_I 0), (0, za_O 19 93), (1, za_I t), (2, za_I y2_24), (3, za_I y3_24), (4, za_I y4_24), (5, za_I y5_24)]) G dX10_fullest_32 (by decide) rfl ?_
          refine zv_iconst (v := 0) G dX10_fullest_34 (by decide) ?_
          have J_37 : ∀ (n : Nat) (y6_37 : Int32) (y7_37 : Int32) (σ : za_S) (hz : zq 12 σ0 σ) (i7_37 : 0 ≤ y7_37.toInt) (u7_37 : y7_37.toInt ≤ 10) (hn_37 : (2147483648 - y7_37.toInt).toNat < n), zV p l e (zRm 4 89) s m args below meth c E (za_A E) 8 0 0 (MQ below (va_Qi (fun r σ' => zq 12 σ0 σ') (zB E) (za_A E)) args s 0 0 (za_A E)) 37 [(0, za_O 19 93), (1, za_I t), (2, za_I y2_24), (3, za_I y3_24), (4, za_I y4_24), (5, za_I y5_24), (6, za_I y6_37), (7, za_I y7_37)] [] σ := by
            intro n
            induction n with
            | zero => intro y6_37 y7_37 σ hz i7_37 u7_37 hn; exact absurd hn (Nat.not_lt_zero _)
            | succ n ih_37 =>
              intro y6_37 y7_37 σ hz i7_37 u7_37 hn_37
              refine zv_iload (j := 7) G dX10_fullest_37 rfl ?_
              refine zv_bipush (v := 10) G dX10_fullest_39 (by decide) ?_
              refine zv_icmp_ge (tgt := 70) G dX10_fullest_41 (by decide) (fun c_41 => ?_) (fun c_41 => ?_)
              · have k_41 := z_cle c_41 (a := 10) (b := y7_37.toInt) rfl rfl
                refine zv_iload (j := 6) G dX10_fullest_70 rfl ?_
                refine zv_iload_n (j := 3) G dX10_fullest_72 rfl rfl ?_
                have J_97 : ∀ (s0_97 : Int32) (σ : za_S) (hz : zq 12 σ0 σ), zV p l e (zRm 4 89) s m args below meth c E (za_A E) 8 0 0 (MQ below (va_Qi (fun r σ' => zq 12 σ0 σ') (zB E) (za_A E)) args s 0 0 (za_A E)) 97 [(0, za_O 19 93), (1, za_I t), (2, za_I y2_24), (3, za_I y3_24), (5, za_I y5_24), (6, za_I y6_37)] [za_I s0_97] σ := by
                  intro s0_97 σ hz
                  refine zv_istore (lv' := [(4, za_I s0_97), (0, za_O 19 93), (1, za_I t), (2, za_I y2_24), (3, za_I y3_24), (5, za_I y5_24), (6, za_I y6_37)]) G dX10_fullest_97 (by decide) rfl ?_
                  refine zv_iload (j := 6) G dX10_fullest_99 rfl ?_
                  refine zv_iload_n (j := 4) G dX10_fullest_101 rfl rfl ?_
                  refine zv_icmp_le (tgt := 110) G dX10_fullest_102 (by decide) (fun c_102 => ?_) (fun c_102 => ?_)
                  · have k_102 := z_cle c_102 (a := y6_37.toInt) (b := y3_24.toInt) rfl rfl
                    refine zv_iload_n (j := 3) G dX10_fullest_110 rfl rfl ?_
                    refine zv_istore_n (lv' := [(2, za_I y2_24), (4, za_I s0_97), (0, za_O 19 93), (1, za_I t), (3, za_I y3_24), (5, za_I y5_24), (6, za_I y6_37)]) G dX10_fullest_111 rfl (by decide) rfl ?_
                    refine zv_iload_n (j := 4) G dX10_fullest_112 rfl rfl ?_
                    refine zv_iload (j := 6) G dX10_fullest_113 rfl ?_
                    refine zv_mmax G zm_1355 zm_395 zm_147 zm_396 (Nat.le_of_ble_eq_true rfl) (Nat.le_of_ble_eq_true rfl) (Nat.zero_le _) (Nat.zero_le _) dX10_fullest_115 ?_
                    refine zv_top (fun x_115 e_115 => ?_)
                    refine zv_istore_n (lv' := [(3, za_I x_115), (2, za_I y2_24), (4, za_I s0_97), (0, za_O 19 93), (1, za_I t), (5, za_I y5_24), (6, za_I y6_37)]) G dX10_fullest_118 rfl (by decide) rfl ?_
                    obtain ⟨x_119, e_119⟩ : ∃ y : Int32, y = y5_24 + 1 := ⟨_, rfl⟩
                    refine zv_iinc (j := 5) (v := x_119) (lv' := [(5, za_I x_119), (3, za_I x_115), (2, za_I y2_24), (4, za_I s0_97), (0, za_O 19 93), (1, za_I t), (6, za_I y6_37)]) G dX10_fullest_119 rfl (by rw [e_119]; rfl) (by decide) rfl ?_
                    first | have q_119 := z_inc9 (by omega) e_119 | skip
                    refine zv_goto (tgt := 24) G dX10_fullest_122 (by decide) ?_
                    refine zv_sub [4, 5, 2, 1, 3, 0] (lv' := [(0, za_O 19 93), (1, za_I t), (2, za_I y2_24), (3, za_I x_115), (4, za_I s0_97), (5, za_I x_119)]) rfl ?_
                    exact ih_24 y2_24 x_115 s0_97 x_119 σ (zq_m hz (by first | decide | omega | (have hL := z_lits; omega))) (by have := z_inc c_28 e_119; omega) (by have := z_inc9 (by omega) e_119; omega) (z_meas c_28 e_119 hn_24)
                  · have k_102 := z_cnle c_102 (a := y6_37.toInt) (b := y3_24.toInt) rfl rfl
                    refine zv_iload (j := 5) G dX10_fullest_105 rfl ?_
                    refine zv_goto (tgt := 111) G dX10_fullest_107 (by decide) ?_
                    refine zv_istore_n (lv' := [(2, za_I y5_24), (4, za_I s0_97), (0, za_O 19 93), (1, za_I t), (3, za_I y3_24), (5, za_I y5_24), (6, za_I y6_37)]) G dX10_fullest_111 rfl (by decide) rfl ?_
                    refine zv_iload_n (j := 4) G dX10_fullest_112 rfl rfl ?_
                    refine zv_iload (j := 6) G dX10_fullest_113 rfl ?_
                    refine zv_mmax G zm_1355 zm_395 zm_147 zm_396 (Nat.le_of_ble_eq_true rfl) (Nat.le_of_ble_eq_true rfl) (Nat.zero_le _) (Nat.zero_le _) dX10_fullest_115 ?_
                    refine zv_top (fun x_115 e_115 => ?_)
                    refine zv_istore_n (lv' := [(3, za_I x_115), (2, za_I y5_24), (4, za_I s0_97), (0, za_O 19 93), (1, za_I t), (5, za_I y5_24), (6, za_I y6_37)]) G dX10_fullest_118 rfl (by decide) rfl ?_
                    obtain ⟨x_119, e_119⟩ : ∃ y : Int32, y = y5_24 + 1 := ⟨_, rfl⟩
                    refine zv_iinc (j := 5) (v := x_119) (lv' := [(5, za_I x_119), (3, za_I x_115), (2, za_I y5_24), (4, za_I s0_97), (0, za_O 19 93), (1, za_I t), (6, za_I y6_37)]) G dX10_fullest_119 rfl (by rw [e_119]; rfl) (by decide) rfl ?_
                    first | have q_119 := z_inc9 (by omega) e_119 | skip
                    refine zv_goto (tgt := 24) G dX10_fullest_122 (by decide) ?_
                    refine zv_sub [4, 5, 2, 1, 3, 0] (lv' := [(0, za_O 19 93), (1, za_I t), (2, za_I y5_24), (3, za_I x_115), (4, za_I s0_97), (5, za_I x_119)]) rfl ?_
                    exact ih_24 y5_24 x_115 s0_97 x_119 σ (zq_m hz (by first | decide | omega | (have hL := z_lits; omega))) (by have := z_inc c_28 e_119; omega) (by have := z_inc9 (by omega) e_119; omega) (z_meas c_28 e_119 hn_24)
                refine zv_icmp_le (tgt := 80) G dX10_fullest_73 (by decide) (fun c_73 => ?_) (fun c_73 => ?_)
                · have k_73 := z_cle c_73 (a := y6_37.toInt) (b := y3_24.toInt) rfl rfl
                  refine zv_iload (j := 4) G dX10_fullest_80 rfl ?_
                  refine zv_iload (j := 6) G dX10_fullest_82 rfl ?_
                  refine zv_iload_n (j := 3) G dX10_fullest_84 rfl rfl ?_
                  have J_93 : ∀ (s0_93 : Int32) (σ : za_S) (hz : zq 12 σ0 σ), zV p l e (zRm 4 89) s m args below meth c E (za_A E) 8 0 0 (MQ below (va_Qi (fun r σ' => zq 12 σ0 σ') (zB E) (za_A E)) args s 0 0 (za_A E)) 93 [(0, za_O 19 93), (1, za_I t), (2, za_I y2_24), (3, za_I y3_24), (5, za_I y5_24), (6, za_I y6_37)] [za_I s0_93, za_I y4_24] σ := by
                    intro s0_93 σ hz
                    refine zv_callSi (as := [za_I s0_93]) G (zc_X10_flag l E s0_93 σ ) zk_X10_flag zm_1351 rfl ⟨(Nat.le_of_ble_eq_true rfl), (Nat.le_of_ble_eq_true rfl)⟩ ⟨Nat.zero_le _, Nat.zero_le _⟩ (Nat.le_of_ble_eq_true rfl) dX10_fullest_93 (fun r_93 σ h_93 => ?_)
                    obtain ⟨h_93, rfl⟩ := h_93
                    have g_93 := z_flagT h_93.2 (a := s0_93.toInt) rfl
                    refine zv_iadd G dX10_fullest_96 ?_
                    refine zv_sub [0, 1, 2, 3, 4, 5] (lv' := [(0, za_O 19 93), (1, za_I t), (2, za_I y2_24), (3, za_I y3_24), (5, za_I y5_24), (6, za_I y6_37)]) rfl ?_
                    exact J_97 (y4_24 + r_93) σ (zq_m hz (by first | decide | omega | (have hL := z_lits; omega)))
                  refine zv_icmp_ne (tgt := 92) G dX10_fullest_85 (by decide) (fun c_85 => ?_) (fun c_85 => ?_)
                  · have k_85 := z_cne c_85 (a := y6_37.toInt) (b := y3_24.toInt) rfl rfl
                    refine zv_iconst (v := 0) G dX10_fullest_92 (by decide) ?_
                    refine zv_sub [0, 1, 2, 3, 5, 6] (lv' := [(0, za_O 19 93), (1, za_I t), (2, za_I y2_24), (3, za_I y3_24), (5, za_I y5_24), (6, za_I y6_37)]) rfl ?_
                    exact J_93 (0 : Int32) σ (zq_m hz (by first | decide | omega | (have hL := z_lits; omega)))
                  · have k_85 := z_ceq c_85 (a := y6_37.toInt) (b := y3_24.toInt) rfl rfl
                    refine zv_iconst (v := 1) G dX10_fullest_88 (by decide) ?_
                    refine zv_goto (tgt := 93) G dX10_fullest_89 (by decide) ?_
                    refine zv_sub [0, 1, 2, 3, 5, 6] (lv' := [(0, za_O 19 93), (1, za_I t), (2, za_I y2_24), (3, za_I y3_24), (5, za_I y5_24), (6, za_I y6_37)]) rfl ?_
                    exact J_93 (1 : Int32) σ (zq_m hz (by first | decide | omega | (have hL := z_lits; omega)))
                · have k_73 := z_cnle c_73 (a := y6_37.toInt) (b := y3_24.toInt) rfl rfl
                  refine zv_iconst (v := 1) G dX10_fullest_76 (by decide) ?_
                  refine zv_goto (tgt := 97) G dX10_fullest_77 (by decide) ?_
                  refine zv_sub [0, 1, 2, 3, 5, 6] (lv' := [(0, za_O 19 93), (1, za_I t), (2, za_I y2_24), (3, za_I y3_24), (5, za_I y5_24), (6, za_I y6_37)]) rfl ?_
                  exact J_97 (1 : Int32) σ (zq_m hz (by first | decide | omega | (have hL := z_lits; omega)))
              · have b_41 : 0 ≤ y7_37.toInt ∧ y7_37.toInt < 10 := ⟨i7_37, z_ltk c_41 rfl⟩
                have k_41 := z_cnle c_41 (a := 10) (b := y7_37.toInt) rfl rfl
                refine zv_iload (j := 6) G dX10_fullest_44 rfl ?_
                refine zv_aload_n (j := 0) G dX10_fullest_46 rfl rfl ?_
                refine zg_X10_118 G dX10_fullest_47 ?_
                refine zv_iload_n (j := 1) G dX10_fullest_50 rfl rfl ?_
                refine zv_iload (j := 7) G dX10_fullest_51 rfl ?_
                refine zv_iload (j := 5) G dX10_fullest_53 rfl ?_
                refine zv_callSi (as := [za_O 22 99, za_I t, za_I y7_37, za_I y5_24]) G (zc_X10_isThere l E 99 t y7_37 y5_24 σ (by first | assumption | decide | omega | exact hz.2.1.1 | exact hz.2.1.2) (by first | assumption | decide | omega | exact hz.2.1.1 | exact hz.2.1.2)) zk_X10_isThere zm_1320 rfl ⟨(Nat.le_of_ble_eq_true rfl), (Nat.le_of_ble_eq_true rfl)⟩ ⟨Nat.zero_le _, Nat.zero_le _⟩ (Nat.le_of_ble_eq_true rfl) dX10_fullest_55 (fun r_55 σ h_55 => ?_)
                obtain ⟨h_55, rfl⟩ := h_55
                refine zv_callSi (as := [za_I r_55]) G (zc_X10_flag l E r_55 σ ) zk_X10_flag zm_1351 rfl ⟨(Nat.le_of_ble_eq_true rfl), (Nat.le_of_ble_eq_true rfl)⟩ ⟨Nat.zero_le _, Nat.zero_le _⟩ (Nat.le_of_ble_eq_true rfl) dX10_fullest_58 (fun r_58 σ h_58 => ?_)
                obtain ⟨h_58, rfl⟩ := h_58
                have g_58 := z_flagT h_58.2 (a := r_55.toInt) rfl
                refine zv_iadd G dX10_fullest_61 ?_
                refine zv_top (fun x_62 e_62 => ?_)
                first | have q_62 := z_addf e_62 (a := y6_37.toInt) (b := r_58.toInt) rfl rfl (by omega) (by omega) | skip
                refine zv_istore (lv' := [(6, za_I x_62), (0, za_O 19 93), (1, za_I t), (2, za_I y2_24), (3, za_I y3_24), (4, za_I y4_24), (5, za_I y5_24), (7, za_I y7_37)]) G dX10_fullest_62 (by decide) rfl ?_
                obtain ⟨x_64, e_64⟩ : ∃ y : Int32, y = y7_37 + 1 := ⟨_, rfl⟩
                refine zv_iinc (j := 7) (v := x_64) (lv' := [(7, za_I x_64), (6, za_I x_62), (0, za_O 19 93), (1, za_I t), (2, za_I y2_24), (3, za_I y3_24), (4, za_I y4_24), (5, za_I y5_24)]) G dX10_fullest_64 rfl (by rw [e_64]; rfl) (by decide) rfl ?_
                first | have q_64 := z_inc9 (by omega) e_64 | skip
                refine zv_goto (tgt := 37) G dX10_fullest_67 (by decide) ?_
                refine zv_sub [2, 3, 4, 5, 6, 7, 1, 0] (lv' := [(0, za_O 19 93), (1, za_I t), (2, za_I y2_24), (3, za_I y3_24), (4, za_I y4_24), (5, za_I y5_24), (6, za_I x_62), (7, za_I x_64)]) rfl ?_
                exact ih_37 x_62 x_64 σ (zq_m hz (by first | decide | omega | (have hL := z_lits; omega))) (by have := z_inc c_41 e_64; omega) (by have := z_inc9 (by omega) e_64; omega) (z_meas c_41 e_64 hn_37)
          refine zv_istore (lv' := [(7, za_I 0), (6, za_I 0), (0, za_O 19 93), (1, za_I t), (2, za_I y2_24), (3, za_I y3_24), (4, za_I y4_24), (5, za_I y5_24)]) G dX10_fullest_35 (by decide) rfl ?_
          refine zv_sub [2, 3, 4, 5, 6, 7, 1, 0] (lv' := [(0, za_O 19 93), (1, za_I t), (2, za_I y2_24), (3, za_I y3_24), (4, za_I y4_24), (5, za_I y5_24), (6, za_I 0), (7, za_I 0)]) rfl ?_
          exact J_37 _ (0 : Int32) (0 : Int32) σ (zq_m hz (by first | decide | omega | (have hL := z_lits; omega))) (by decide) (by decide) (Nat.lt_succ_self _)
    refine zv_istore (lv' := [(5, za_I 0), (4, za_I 0), (3, za_I (-1)), (2, za_I 0), (0, za_O 19 93), (1, za_I t)]) G dX10_fullest_22 (by decide) rfl ?_
    refine zv_sub [4, 5, 3, 2, 1, 0] (lv' := [(0, za_O 19 93), (1, za_I t), (2, za_I 0), (3, za_I (-1)), (4, za_I 0), (5, za_I 0)]) rfl ?_
    exact J_24 _ (0 : Int32) (-1) (0 : Int32) (0 : Int32) σ (zq_m hz (by first | decide | omega | (have hL := z_lits; omega))) (by decide) (by decide) (Nat.lt_succ_self _)
  · have f_6 := fun q9 => (h_6.2.mpr q9) c_9
    refine zv_iconst (v := (-1)) G dX10_fullest_12 (by decide) ?_
    exact zv_iret G hr dX10_fullest_13 (zq_m hz (by first | decide | omega | (have hL := z_lits; omega)))
set_option maxHeartbeats 4000000 in
set_option maxRecDepth 100000 in
theorem zc_X10_isUsed (l : Launch) (E : za_E) (q : Nat) (k9 : Int32) (d : Int32) (σ : za_S) (hd : 0 ≤ d.toInt ∧ d.toInt ≤ 99) : zMi l E yX10_isUsed cX10_isUsed 5 (Option.some Jvm.ClassFile.FieldType.boolean) 4 89 [za_O 22 q, za_I k9, za_I d] σ (fun r σ' => (r = 0 ∨ r = 1) ∧ σ' = σ) := by
  refine zMi_of [(0, za_O 22 q), (1, za_I k9), (2, za_I d)] (by decide) rfl rfl (Nat.le_of_ble_eq_true rfl) ?_
  intro ho p e s m args below meth c G hr
  have h_q : za_kd q = 22 := za_okO (by decide) (List.forall_mem_cons.mp ho).1
  refine zv_iconst (v := 0) G dX10_isUsed_0 (by decide) ?_
  refine zv_istore_n (lv' := [(3, za_I 0), (0, za_O 22 q), (1, za_I k9), (2, za_I d)]) G dX10_isUsed_1 rfl (by decide) rfl ?_
  refine zv_iconst (v := 0) G dX10_isUsed_2 (by decide) ?_
  have J_5 : ∀ (n : Nat) (y3_5 : Int32) (y4_5 : Int32) (b3_5 : y3_5 = 0 ∨ y3_5 = 1) (i4_5 : 0 ≤ y4_5.toInt) (u4_5 : y4_5.toInt ≤ 10) (hn_5 : (2147483648 - y4_5.toInt).toNat < n), zV p l e (zRm 4 89) s m args below meth c E (za_A E) 5 0 0 (MQ below (va_Qi (fun r σ' => (r = 0 ∨ r = 1) ∧ σ' = σ) (zB E) (za_A E)) args s 0 0 (za_A E)) 5 [(0, za_O 22 q), (1, za_I k9), (2, za_I d), (3, za_I y3_5), (4, za_I y4_5)] [] σ := by
    intro n
    induction n with
    | zero => intro y3_5 y4_5 b3_5 i4_5 u4_5 hn; exact absurd hn (Nat.not_lt_zero _)
    | succ n ih_5 =>
      intro y3_5 y4_5 b3_5 i4_5 u4_5 hn_5
      refine zv_iload (j := 4) G dX10_isUsed_5 rfl ?_
      refine zv_bipush (v := 10) G dX10_isUsed_7 (by decide) ?_
      refine zv_icmp_ge (tgt := 51) G dX10_isUsed_9 (by decide) (fun c_9 => ?_) (fun c_9 => ?_)
      · have k_9 := z_cle c_9 (a := 10) (b := y4_5.toInt) rfl rfl
        refine zv_iload_n (j := 3) G dX10_isUsed_51 rfl rfl ?_
        exact zv_zret G hr dX10_isUsed_52 (z_nar b3_5) ⟨b3_5, rfl⟩
      · have b_9 : 0 ≤ y4_5.toInt ∧ y4_5.toInt < 10 := ⟨i4_5, z_ltk c_9 rfl⟩
        have k_9 := z_cnle c_9 (a := 10) (b := y4_5.toInt) rfl rfl
        refine zv_iload_n (j := 3) G dX10_isUsed_12 rfl rfl ?_
        refine zv_if_ne (tgt := 39) G dX10_isUsed_13 (by decide) (fun c_13 => ?_) (fun c_13 => ?_)
        · have k_13 := z_cne c_13 (a := y3_5.toInt) (b := 0) rfl rfl
          refine zv_iconst (v := 1) G dX10_isUsed_39 (by decide) ?_
          refine zv_goto (tgt := 44) G dX10_isUsed_40 (by decide) ?_
          refine zv_istore_n (lv' := [(3, za_I 1), (0, za_O 22 q), (1, za_I k9), (2, za_I d), (4, za_I y4_5)]) G dX10_isUsed_44 rfl (by decide) rfl ?_
          obtain ⟨x_45, e_45⟩ : ∃ y : Int32, y = y4_5 + 1 := ⟨_, rfl⟩
          refine zv_iinc (j := 4) (v := x_45) (lv' := [(4, za_I x_45), (3, za_I 1), (0, za_O 22 q), (1, za_I k9), (2, za_I d)]) G dX10_isUsed_45 rfl (by rw [e_45]; rfl) (by decide) rfl ?_
          first | have q_45 := z_inc9 (by omega) e_45 | skip
          refine zv_goto (tgt := 5) G dX10_isUsed_48 (by decide) ?_
          refine zv_sub [2, 3, 4, 1, 0] (lv' := [(0, za_O 22 q), (1, za_I k9), (2, za_I d), (3, za_I 1), (4, za_I x_45)]) rfl ?_
          exact ih_5 (1 : Int32) x_45 (Or.inr rfl) (by have := z_inc c_9 e_45; omega) (by have := z_inc9 (by omega) e_45; omega) (z_meas c_9 e_45 hn_5)
        · have k_13 := z_ceq c_13 (a := y3_5.toInt) (b := 0) rfl rfl
          refine zv_aload_n (j := 0) G dX10_isUsed_16 rfl rfl ?_
          refine zv_iconst (v := 0) G dX10_isUsed_17 (by decide) ?_
          refine zv_iload (j := 4) G dX10_isUsed_18 rfl ?_
          refine zv_iload_n (j := 2) G dX10_isUsed_20 rfl rfl ?_
          refine zv_callSi (as := [za_O 22 q, za_I 0, za_I y4_5, za_I d]) G (zc_X10_isThere l E q (0 : Int32) y4_5 d σ (by first | assumption | decide | omega) (by first | assumption | decide | omega)) zk_X10_isThere zm_1320 rfl ⟨(Nat.le_of_ble_eq_true rfl), (Nat.le_of_ble_eq_true rfl)⟩ ⟨Nat.zero_le _, Nat.zero_le _⟩ (Nat.le_of_ble_eq_true rfl) dX10_isUsed_21 (fun r_21 σ h_21 => ?_)
          obtain ⟨h_21, rfl⟩ := h_21
          refine zv_if_eq (tgt := 43) G dX10_isUsed_24 (by decide) (fun c_24 => ?_) (fun c_24 => ?_)
          · have f_21 := fun q9 => (h_21.2.mpr q9) c_24
            refine zv_iconst (v := 0) G dX10_isUsed_43 (by decide) ?_
            refine zv_istore_n (lv' := [(3, za_I 0), (0, za_O 22 q), (1, za_I k9), (2, za_I d), (4, za_I y4_5)]) G dX10_isUsed_44 rfl (by decide) rfl ?_
            obtain ⟨x_45, e_45⟩ : ∃ y : Int32, y = y4_5 + 1 := ⟨_, rfl⟩
            refine zv_iinc (j := 4) (v := x_45) (lv' := [(4, za_I x_45), (3, za_I 0), (0, za_O 22 q), (1, za_I k9), (2, za_I d)]) G dX10_isUsed_45 rfl (by rw [e_45]; rfl) (by decide) rfl ?_
            first | have q_45 := z_inc9 (by omega) e_45 | skip
            refine zv_goto (tgt := 5) G dX10_isUsed_48 (by decide) ?_
            refine zv_sub [2, 3, 4, 1, 0] (lv' := [(0, za_O 22 q), (1, za_I k9), (2, za_I d), (3, za_I 0), (4, za_I x_45)]) rfl ?_
            exact ih_5 (0 : Int32) x_45 (Or.inl rfl) (by have := z_inc c_9 e_45; omega) (by have := z_inc9 (by omega) e_45; omega) (z_meas c_9 e_45 hn_5)
          · have t_21 := h_21.2.mp c_24
            refine zv_aload_n (j := 0) G dX10_isUsed_27 rfl rfl ?_
            refine zv_iconst (v := 0) G dX10_isUsed_28 (by decide) ?_
            refine zv_iload (j := 4) G dX10_isUsed_29 rfl ?_
            refine zv_iload_n (j := 2) G dX10_isUsed_31 rfl rfl ?_
            refine zv_callSi (as := [za_O 22 q, za_I 0, za_I y4_5, za_I d]) G (zc_X10_refOn l E q (0 : Int32) y4_5 d σ (by first | assumption | decide | omega) (by first | assumption | decide | omega) (by first | assumption | decide | omega)) zk_X10_refOn zm_1340 rfl ⟨(Nat.le_of_ble_eq_true rfl), (Nat.le_of_ble_eq_true rfl)⟩ ⟨Nat.zero_le _, Nat.zero_le _⟩ (Nat.le_of_ble_eq_true rfl) dX10_isUsed_32 (fun r_32 σ h_32 => ?_)
            obtain ⟨h_32, rfl⟩ := h_32
            refine zv_iload_n (j := 1) G dX10_isUsed_35 rfl rfl ?_
            refine zv_icmp_ne (tgt := 43) G dX10_isUsed_36 (by decide) (fun c_36 => ?_) (fun c_36 => ?_)
            · have k_36 := z_cne c_36 (a := r_32.toInt) (b := k9.toInt) rfl rfl
              refine zv_iconst (v := 0) G dX10_isUsed_43 (by decide) ?_
              refine zv_istore_n (lv' := [(3, za_I 0), (0, za_O 22 q), (1, za_I k9), (2, za_I d), (4, za_I y4_5)]) G dX10_isUsed_44 rfl (by decide) rfl ?_
              obtain ⟨x_45, e_45⟩ : ∃ y : Int32, y = y4_5 + 1 := ⟨_, rfl⟩
              refine zv_iinc (j := 4) (v := x_45) (lv' := [(4, za_I x_45), (3, za_I 0), (0, za_O 22 q), (1, za_I k9), (2, za_I d)]) G dX10_isUsed_45 rfl (by rw [e_45]; rfl) (by decide) rfl ?_
              first | have q_45 := z_inc9 (by omega) e_45 | skip
              refine zv_goto (tgt := 5) G dX10_isUsed_48 (by decide) ?_
              refine zv_sub [2, 3, 4, 1, 0] (lv' := [(0, za_O 22 q), (1, za_I k9), (2, za_I d), (3, za_I 0), (4, za_I x_45)]) rfl ?_
              exact ih_5 (0 : Int32) x_45 (Or.inl rfl) (by have := z_inc c_9 e_45; omega) (by have := z_inc9 (by omega) e_45; omega) (z_meas c_9 e_45 hn_5)
            · have k_36 := z_ceq c_36 (a := r_32.toInt) (b := k9.toInt) rfl rfl
              refine zv_iconst (v := 1) G dX10_isUsed_39 (by decide) ?_
              refine zv_goto (tgt := 44) G dX10_isUsed_40 (by decide) ?_
              refine zv_istore_n (lv' := [(3, za_I 1), (0, za_O 22 q), (1, za_I k9), (2, za_I d), (4, za_I y4_5)]) G dX10_isUsed_44 rfl (by decide) rfl ?_
              obtain ⟨x_45, e_45⟩ : ∃ y : Int32, y = y4_5 + 1 := ⟨_, rfl⟩
              refine zv_iinc (j := 4) (v := x_45) (lv' := [(4, za_I x_45), (3, za_I 1), (0, za_O 22 q), (1, za_I k9), (2, za_I d)]) G dX10_isUsed_45 rfl (by rw [e_45]; rfl) (by decide) rfl ?_
              first | have q_45 := z_inc9 (by omega) e_45 | skip
              refine zv_goto (tgt := 5) G dX10_isUsed_48 (by decide) ?_
              refine zv_sub [2, 3, 4, 1, 0] (lv' := [(0, za_O 22 q), (1, za_I k9), (2, za_I d), (3, za_I 1), (4, za_I x_45)]) rfl ?_
              exact ih_5 (1 : Int32) x_45 (Or.inr rfl) (by have := z_inc c_9 e_45; omega) (by have := z_inc9 (by omega) e_45; omega) (z_meas c_9 e_45 hn_5)
  refine zv_istore (lv' := [(4, za_I 0), (3, za_I 0), (0, za_O 22 q), (1, za_I k9), (2, za_I d)]) G dX10_isUsed_3 (by decide) rfl ?_
  refine zv_sub [2, 3, 4, 1, 0] (lv' := [(0, za_O 22 q), (1, za_I k9), (2, za_I d), (3, za_I 0), (4, za_I 0)]) rfl ?_
  exact J_5 _ (0 : Int32) (0 : Int32) (Or.inl rfl) (by decide) (by decide) (Nat.lt_succ_self _)
set_option maxHeartbeats 4000000 in
set_option maxRecDepth 100000 in
theorem zc_X10_users (l : Launch) (E : za_E) (k9 : Int32) (σ0 : za_S) (hJ : zJ σ0) : zMi l E yX10_users cX10_users 8 (Option.some Jvm.ClassFile.FieldType.int) 6 136 [za_O 19 93, za_I k9] σ0 (fun r σ' => zq 12 σ0 σ') := by
  refine zMi_of [(0, za_O 19 93), (1, za_I k9)] (by decide) rfl rfl (Nat.le_of_ble_eq_true rfl) ?_
  intro ho p e s m args below meth c G hr
  refine zv_gen (R9 := zq 12 σ0) (zq_0 hJ) (fun σ hz => ?_)
  refine zv_aload_n (j := 0) G dX10_users_0 rfl rfl ?_
  refine zv_iconst (v := 0) G dX10_users_1 (by decide) ?_
  refine zp_X10_3 G dX10_users_2 ?_
  refine zv_gen (R9 := zq 12 σ0) (zq_93 hz (by decide)) (fun σ hz => ?_)
  refine zv_iload_n (j := 1) G dX10_users_5 rfl rfl ?_
  refine zv_callSi (as := [za_I k9]) G (zc_X10_isKey l E k9 σ ) zk_X10_isKey zm_1371 rfl ⟨(Nat.le_of_ble_eq_true rfl), (Nat.le_of_ble_eq_true rfl)⟩ ⟨Nat.zero_le _, Nat.zero_le _⟩ (Nat.le_of_ble_eq_true rfl) dX10_users_6 (fun r_6 σ h_6 => ?_)
  obtain ⟨h_6, rfl⟩ := h_6
  refine zv_if_ne (tgt := 14) G dX10_users_9 (by decide) (fun c_9 => ?_) (fun c_9 => ?_)
  · have t_6 := h_6.2.mp c_9
    refine zv_iconst (v := 0) G dX10_users_14 (by decide) ?_
    refine zv_istore_n (lv' := [(2, za_I 0), (0, za_O 19 93), (1, za_I k9)]) G dX10_users_15 rfl (by decide) rfl ?_
    refine zv_iconst (v := 0) G dX10_users_16 (by decide) ?_
    have J_18 : ∀ (n : Nat) (y2_18 : Int32) (y3_18 : Int32) (σ : za_S) (hz : zq 12 σ0 σ) (i3_18 : 0 ≤ y3_18.toInt) (u3_18 : y3_18.toInt ≤ 10) (hn_18 : (2147483648 - y3_18.toInt).toNat < n), zV p l e (zRm 6 136) s m args below meth c E (za_A E) 8 0 0 (MQ below (va_Qi (fun r σ' => zq 12 σ0 σ') (zB E) (za_A E)) args s 0 0 (za_A E)) 18 [(0, za_O 19 93), (1, za_I k9), (2, za_I y2_18), (3, za_I y3_18)] [] σ := by
      intro n
      induction n with
      | zero => intro y2_18 y3_18 σ hz i3_18 u3_18 hn; exact absurd hn (Nat.not_lt_zero _)
      | succ n ih_18 =>
        intro y2_18 y3_18 σ hz i3_18 u3_18 hn_18
        refine zv_iload_n (j := 3) G dX10_users_18 rfl rfl ?_
        refine zv_bipush (v := 10) G dX10_users_19 (by decide) ?_
        refine zv_icmp_ge (tgt := 86) G dX10_users_21 (by decide) (fun c_21 => ?_) (fun c_21 => ?_)
        · have k_21 := z_cle c_21 (a := 10) (b := y3_18.toInt) rfl rfl
          refine zv_iconst (v := 0) G dX10_users_86 (by decide) ?_
          refine zv_istore_n (lv' := [(3, za_I 0), (0, za_O 19 93), (1, za_I k9), (2, za_I y2_18)]) G dX10_users_87 rfl (by decide) rfl ?_
          refine zv_iconst (v := 0) G dX10_users_88 (by decide) ?_
          refine zv_istore (lv' := [(4, za_I 0), (3, za_I 0), (0, za_O 19 93), (1, za_I k9), (2, za_I y2_18)]) G dX10_users_89 (by decide) rfl ?_
          refine zv_iconst (v := 0) G dX10_users_91 (by decide) ?_
          have J_94 : ∀ (n : Nat) (y3_94 : Int32) (y4_94 : Int32) (y5_94 : Int32) (σ : za_S) (hz : zq 12 σ0 σ) (i5_94 : 0 ≤ y5_94.toInt) (u5_94 : y5_94.toInt ≤ 100) (hn_94 : (2147483648 - y5_94.toInt).toNat < n), zV p l e (zRm 6 136) s m args below meth c E (za_A E) 8 0 0 (MQ below (va_Qi (fun r σ' => zq 12 σ0 σ') (zB E) (za_A E)) args s 0 0 (za_A E)) 94 [(0, za_O 19 93), (1, za_I k9), (2, za_I y2_18), (3, za_I y3_94), (4, za_I y4_94), (5, za_I y5_94)] [] σ := by
            intro n
            induction n with
            | zero => intro y3_94 y4_94 y5_94 σ hz i5_94 u5_94 hn; exact absurd hn (Nat.not_lt_zero _)
            | succ n ih_94 =>
              intro y3_94 y4_94 y5_94 σ hz i5_94 u5_94 hn_94
              refine zv_iload (j := 5) G dX10_users_94 rfl ?_
              refine zv_bipush (v := 100) G dX10_users_96 (by decide) ?_
              refine zv_icmp_ge (tgt := 209) G dX10_users_98 (by decide) (fun c_98 => ?_) (fun c_98 => ?_)
              · have k_98 := z_cle c_98 (a := 100) (b := y5_94.toInt) rfl rfl
                refine zv_aload_n (j := 0) G dX10_users_209 rfl rfl ?_
                refine zv_iconst (v := 0) G dX10_users_210 (by decide) ?_
                refine zp_X10_15 G dX10_users_211 ?_
                refine zv_gen (R9 := zq 0 σ0) (zq_t0 hz) (fun σ hz => ?_)
                refine zv_aload_n (j := 0) G dX10_users_214 rfl rfl ?_
                refine zv_iload_n (j := 3) G dX10_users_215 rfl rfl ?_
                refine zv_i2l G dX10_users_216 ?_
                refine zv_callVv (as := [za_L y3_94.toInt64]) G (by decide) rfl rfl (zc_X10_enters l E y3_94.toInt64 σ (zq_p hz (by first | decide | omega))) zk_X10_enters zm_1418 rfl ⟨(Nat.le_of_ble_eq_true rfl), (Nat.le_of_ble_eq_true rfl)⟩ ⟨Nat.zero_le _, Nat.zero_le _⟩ (Nat.le_of_ble_eq_true rfl) dX10_users_217 (fun σ h_217 => ?_)
                have hz : zq 1 σ0 σ := zq_e hz h_217
                refine zv_aload_n (j := 0) G dX10_users_220 rfl rfl ?_
                refine zv_iload (j := 4) G dX10_users_221 rfl ?_
                refine zv_i2l G dX10_users_223 ?_
                refine zv_callVv (as := [za_L y4_94.toInt64]) G (by decide) rfl rfl (zc_X10_enters l E y4_94.toInt64 σ (zq_p hz (by first | decide | omega))) zk_X10_enters zm_1418 rfl ⟨(Nat.le_of_ble_eq_true rfl), (Nat.le_of_ble_eq_true rfl)⟩ ⟨Nat.zero_le _, Nat.zero_le _⟩ (Nat.le_of_ble_eq_true rfl) dX10_users_224 (fun σ h_224 => ?_)
                have hz : zq 2 σ0 σ := zq_e hz h_224
                refine zv_iload_n (j := 2) G dX10_users_227 rfl rfl ?_
                exact zv_iret G hr dX10_users_228 (zq_m hz (by first | decide | omega | (have hL := z_lits; omega)))
              · have b_98 : 0 ≤ y5_94.toInt ∧ y5_94.toInt < 100 := ⟨i5_94, z_ltk c_98 rfl⟩
                have k_98 := z_cnle c_98 (a := 100) (b := y5_94.toInt) rfl rfl
                refine zv_iload_n (j := 3) G dX10_users_101 rfl rfl ?_
                refine zv_aload_n (j := 0) G dX10_users_102 rfl rfl ?_
                refine zg_X10_118 G dX10_users_103 ?_
                refine zv_iload_n (j := 1) G dX10_users_106 rfl rfl ?_
                refine zv_iload (j := 5) G dX10_users_107 rfl ?_
                refine zv_callSi (as := [za_O 22 99, za_I k9, za_I y5_94]) G (zc_X10_isUsed l E 99 k9 y5_94 σ (by first | assumption | decide | omega | exact hz.2.1.1 | exact hz.2.1.2)) zk_X10_isUsed zm_1627 rfl ⟨(Nat.le_of_ble_eq_true rfl), (Nat.le_of_ble_eq_true rfl)⟩ ⟨Nat.zero_le _, Nat.zero_le _⟩ (Nat.le_of_ble_eq_true rfl) dX10_users_109 (fun r_109 σ h_109 => ?_)
                obtain ⟨h_109, rfl⟩ := h_109
                refine zv_callSi (as := [za_I r_109]) G (zc_X10_flag l E r_109 σ ) zk_X10_flag zm_1351 rfl ⟨(Nat.le_of_ble_eq_true rfl), (Nat.le_of_ble_eq_true rfl)⟩ ⟨Nat.zero_le _, Nat.zero_le _⟩ (Nat.le_of_ble_eq_true rfl) dX10_users_112 (fun r_112 σ h_112 => ?_)
                obtain ⟨h_112, rfl⟩ := h_112
                have g_112 := z_flagT h_112.2 (a := r_109.toInt) rfl
                refine zv_iadd G dX10_users_115 ?_
                refine zv_top (fun x_116 e_116 => ?_)
                first | have q_116 := z_addf e_116 (a := y3_94.toInt) (b := r_112.toInt) rfl rfl (by omega) (by omega) | skip
                refine zv_istore_n (lv' := [(3, za_I x_116), (0, za_O 19 93), (1, za_I k9), (2, za_I y2_18), (4, za_I y4_94), (5, za_I y5_94)]) G dX10_users_116 rfl (by decide) rfl ?_
                refine zv_aload_n (j := 1) G dX10_users_117 rfl rfl ?_
                refine zg_X10_118 G dX10_users_118 ?_
                refine zv_iconst (v := 1) G dX10_users_121 (by decide) ?_
                refine zv_iload_n (j := 2) G dX10_users_122 rfl rfl ?_
                refine zv_iload (j := 5) G dX10_users_123 rfl ?_
                refine zv_callSi (as := [za_O 22 99, za_I 1, za_I k9, za_I y5_94]) G (zc_X10_begins l E 99 (1 : Int32) k9 y5_94 σ (by first | assumption | decide | omega | exact hz.2.1.1 | exact hz.2.1.2) (by first | assumption | decide | omega | exact hz.2.1.1 | exact hz.2.1.2)) zk_X10_begins zm_1317 rfl ⟨(Nat.le_of_ble_eq_true rfl), (Nat.le_of_ble_eq_true rfl)⟩ ⟨Nat.zero_le _, Nat.zero_le _⟩ (Nat.le_of_ble_eq_true rfl) dX10_users_125 (fun r_125 σ h_125 => ?_)
                obtain ⟨h_125, rfl⟩ := h_125
                refine zv_if_eq (tgt := 203) G dX10_users_128 (by decide) (fun c_128 => ?_) (fun c_128 => ?_)
                · have f_125 := fun q9 => (h_125.2.mpr q9) c_128
                  obtain ⟨x_203, e_203⟩ : ∃ y : Int32, y = y5_94 + 1 := ⟨_, rfl⟩
                  refine zv_iinc (j := 5) (v := x_203) (lv' := [(5, za_I x_203), (3, za_I x_116), (0, za_O 19 93), (1, za_I k9), (2, za_I y2_18), (4, za_I y4_94)]) G dX10_users_203 rfl (by rw [e_203]; rfl) (by decide) rfl ?_
                  first | have q_203 := z_inc9 (by omega) e_203 | skip
                  refine zv_goto (tgt := 94) G dX10_users_206 (by decide) ?_
                  refine zv_sub [2, 3, 4, 1, 5, 0] (lv' := [(0, za_O 19 93), (1, za_I k9), (2, za_I y2_18), (3, za_I x_116), (4, za_I y4_94), (5, za_I x_203)]) rfl ?_
                  exact ih_94 x_116 y4_94 x_203 σ (zq_m hz (by first | decide | omega | (have hL := z_lits; omega))) (by have := z_inc c_98 e_203; omega) (by have := z_inc9 (by omega) e_203; omega) (z_meas c_98 e_203 hn_94)
                · have t_125 := h_125.2.mp c_128
                  refine zv_iconst (v := 0) G dX10_users_131 (by decide) ?_
                  refine zv_istore (lv' := [(6, za_I 0), (3, za_I x_116), (0, za_O 19 93), (1, za_I k9), (2, za_I y2_18), (4, za_I y4_94), (5, za_I y5_94)]) G dX10_users_132 (by decide) rfl ?_
                  refine zv_iload (j := 6) G dX10_users_134 rfl ?_
                  have J_138 : ∀ (n : Nat) (y6_138 : Int32) (y7_138 : Int32) (σ : za_S) (hz : zq 12 σ0 σ) (b6_138 : y6_138 = 0 ∨ y6_138 = 1) (i7_138 : 0 ≤ y7_138.toInt) (hn_138 : (2147483648 - y7_138.toInt).toNat < n), zV p l e (zRm 6 136) s m args below meth c E (za_A E) 8 0 0 (MQ below (va_Qi (fun r σ' => zq 12 σ0 σ') (zB E) (za_A E)) args s 0 0 (za_A E)) 138 [(0, za_O 19 93), (1, za_I k9), (2, za_I y2_18), (3, za_I x_116), (4, za_I y4_94), (5, za_I y5_94), (6, za_I y6_138), (7, za_I y7_138)] [] σ := by
                    intro n
                    induction n with
                    | zero => intro y6_138 y7_138 σ hz b6_138 i7_138 hn; exact absurd hn (Nat.not_lt_zero _)
                    | succ n ih_138 =>
                      intro y6_138 y7_138 σ hz b6_138 i7_138 hn_138
                      refine zv_iload (j := 7) G dX10_users_138 rfl ?_
                      refine zv_aload_n (j := 0) G dX10_users_140 rfl rfl ?_
                      refine zg_X10_118 G dX10_users_141 ?_
                      refine zv_iconst (v := 1) G dX10_users_144 (by decide) ?_
                      refine zv_iload_n (j := 1) G dX10_users_145 rfl rfl ?_
                      refine zv_iload (j := 5) G dX10_users_146 rfl ?_
                      refine zv_callSi (as := [za_O 22 99, za_I 1, za_I k9, za_I y5_94]) G (zc_X10_toOf l E 99 (1 : Int32) k9 y5_94 σ (by first | assumption | decide | omega | exact hz.2.1.1 | exact hz.2.1.2) (by first | assumption | decide | omega | exact hz.2.1.1 | exact hz.2.1.2) (by first | assumption | decide | omega | exact hz.2.1.1 | exact hz.2.1.2)) zk_X10_toOf zm_1337 rfl ⟨(Nat.le_of_ble_eq_true rfl), (Nat.le_of_ble_eq_true rfl)⟩ ⟨Nat.zero_le _, Nat.zero_le _⟩ (Nat.le_of_ble_eq_true rfl) dX10_users_148 (fun r_148 σ h_148 => ?_)
                      obtain ⟨h_148, rfl⟩ := h_148
                      refine zv_icmp_ge (tgt := 185) G dX10_users_151 (by decide) (fun c_151 => ?_) (fun c_151 => ?_)
                      · have k_151 := z_cle c_151 (a := r_148.toInt) (b := y7_138.toInt) rfl rfl
                        refine zv_iload (j := 4) G dX10_users_185 rfl ?_
                        refine zv_iload (j := 6) G dX10_users_187 rfl ?_
                        refine zv_if_ne (tgt := 196) G dX10_users_189 (by decide) (fun c_189 => ?_) (fun c_189 => ?_)
                        · have k_189 := z_cne c_189 (a := y6_138.toInt) (b := 0) rfl rfl
                          refine zv_iconst (v := 0) G dX10_users_196 (by decide) ?_
                          refine zv_callSi (as := [za_I 0]) G (zc_X10_flag l E (0 : Int32) σ ) zk_X10_flag zm_1351 rfl ⟨(Nat.le_of_ble_eq_true rfl), (Nat.le_of_ble_eq_true rfl)⟩ ⟨Nat.zero_le _, Nat.zero_le _⟩ (Nat.le_of_ble_eq_true rfl) dX10_users_197 (fun r_197 σ h_197 => ?_)
                          obtain ⟨h_197, rfl⟩ := h_197
                          have g_197 := z_flagT h_197.2 (a := 0) rfl
                          refine zv_iadd G dX10_users_200 ?_
                          refine zv_top (fun x_201 e_201 => ?_)
                          first | have q_201 := z_addf e_201 (a := y4_94.toInt) (b := r_197.toInt) rfl rfl (by omega) (by omega) | skip
                          refine zv_istore (lv' := [(4, za_I x_201), (0, za_O 19 93), (1, za_I k9), (2, za_I y2_18), (3, za_I x_116), (5, za_I y5_94), (6, za_I y6_138), (7, za_I y7_138)]) G dX10_users_201 (by decide) rfl ?_
                          obtain ⟨x_203, e_203⟩ : ∃ y : Int32, y = y5_94 + 1 := ⟨_, rfl⟩
                          refine zv_iinc (j := 5) (v := x_203) (lv' := [(5, za_I x_203), (4, za_I x_201), (0, za_O 19 93), (1, za_I k9), (2, za_I y2_18), (3, za_I x_116), (6, za_I y6_138), (7, za_I y7_138)]) G dX10_users_203 rfl (by rw [e_203]; rfl) (by decide) rfl ?_
                          first | have q_203 := z_inc9 (by omega) e_203 | skip
                          refine zv_goto (tgt := 94) G dX10_users_206 (by decide) ?_
                          refine zv_sub [2, 3, 4, 5, 1, 0] (lv' := [(0, za_O 19 93), (1, za_I k9), (2, za_I y2_18), (3, za_I x_116), (4, za_I x_201), (5, za_I x_203)]) rfl ?_
                          exact ih_94 x_116 x_201 x_203 σ (zq_m hz (by first | decide | omega | (have hL := z_lits; omega))) (by have := z_inc c_98 e_203; omega) (by have := z_inc9 (by omega) e_203; omega) (z_meas c_98 e_203 hn_94)
                        · have k_189 := z_ceq c_189 (a := y6_138.toInt) (b := 0) rfl rfl
                          refine zv_iconst (v := 1) G dX10_users_192 (by decide) ?_
                          refine zv_goto (tgt := 197) G dX10_users_193 (by decide) ?_
                          refine zv_callSi (as := [za_I 1]) G (zc_X10_flag l E (1 : Int32) σ ) zk_X10_flag zm_1351 rfl ⟨(Nat.le_of_ble_eq_true rfl), (Nat.le_of_ble_eq_true rfl)⟩ ⟨Nat.zero_le _, Nat.zero_le _⟩ (Nat.le_of_ble_eq_true rfl) dX10_users_197 (fun r_197 σ h_197 => ?_)
                          obtain ⟨h_197, rfl⟩ := h_197
                          have g_197 := z_flagT h_197.2 (a := 1) rfl
                          refine zv_iadd G dX10_users_200 ?_
                          refine zv_top (fun x_201 e_201 => ?_)
                          first | have q_201 := z_addf e_201 (a := y4_94.toInt) (b := r_197.toInt) rfl rfl (by omega) (by omega) | skip
                          refine zv_istore (lv' := [(4, za_I x_201), (0, za_O 19 93), (1, za_I k9), (2, za_I y2_18), (3, za_I x_116), (5, za_I y5_94), (6, za_I y6_138), (7, za_I y7_138)]) G dX10_users_201 (by decide) rfl ?_
                          obtain ⟨x_203, e_203⟩ : ∃ y : Int32, y = y5_94 + 1 := ⟨_, rfl⟩
                          refine zv_iinc (j := 5) (v := x_203) (lv' := [(5, za_I x_203), (4, za_I x_201), (0, za_O 19 93), (1, za_I k9), (2, za_I y2_18), (3, za_I x_116), (6, za_I y6_138), (7, za_I y7_138)]) G dX10_users_203 rfl (by rw [e_203]; rfl) (by decide) rfl ?_
                          first | have q_203 := z_inc9 (by omega) e_203 | skip
                          refine zv_goto (tgt := 94) G dX10_users_206 (by decide) ?_
                          refine zv_sub [2, 3, 4, 5, 1, 0] (lv' := [(0, za_O 19 93), (1, za_I k9), (2, za_I y2_18), (3, za_I x_116), (4, za_I x_201), (5, za_I x_203)]) rfl ?_
                          exact ih_94 x_116 x_201 x_203 σ (zq_m hz (by first | decide | omega | (have hL := z_lits; omega))) (by have := z_inc c_98 e_203; omega) (by have := z_inc9 (by omega) e_203; omega) (z_meas c_98 e_203 hn_94)
                      · have k_151 := z_cnle c_151 (a := r_148.toInt) (b := y7_138.toInt) rfl rfl
                        refine zv_iload (j := 6) G dX10_users_154 rfl ?_
                        refine zv_if_ne (tgt := 172) G dX10_users_156 (by decide) (fun c_156 => ?_) (fun c_156 => ?_)
                        · have k_156 := z_cne c_156 (a := y6_138.toInt) (b := 0) rfl rfl
                          refine zv_iconst (v := 1) G dX10_users_172 (by decide) ?_
                          refine zv_goto (tgt := 177) G dX10_users_173 (by decide) ?_
                          refine zv_istore (lv' := [(6, za_I 1), (0, za_O 19 93), (1, za_I k9), (2, za_I y2_18), (3, za_I x_116), (4, za_I y4_94), (5, za_I y5_94), (7, za_I y7_138)]) G dX10_users_177 (by decide) rfl ?_
                          obtain ⟨x_179, e_179⟩ : ∃ y : Int32, y = y7_138 + 1 := ⟨_, rfl⟩
                          refine zv_iinc (j := 7) (v := x_179) (lv' := [(7, za_I x_179), (6, za_I 1), (0, za_O 19 93), (1, za_I k9), (2, za_I y2_18), (3, za_I x_116), (4, za_I y4_94), (5, za_I y5_94)]) G dX10_users_179 rfl (by rw [e_179]; rfl) (by decide) rfl ?_
                          first | have q_179 := z_inc9 (by omega) e_179 | skip
                          refine zv_goto (tgt := 138) G dX10_users_182 (by decide) ?_
                          refine zv_sub [2, 3, 4, 5, 6, 7, 1, 0] (lv' := [(0, za_O 19 93), (1, za_I k9), (2, za_I y2_18), (3, za_I x_116), (4, za_I y4_94), (5, za_I y5_94), (6, za_I 1), (7, za_I x_179)]) rfl ?_
                          exact ih_138 (1 : Int32) x_179 σ (zq_m hz (by first | decide | omega | (have hL := z_lits; omega))) (Or.inr rfl) (by have := z_inc c_151 e_179; omega) (z_meas c_151 e_179 hn_138)
                        · have k_156 := z_ceq c_156 (a := y6_138.toInt) (b := 0) rfl rfl
                          refine zv_aload_n (j := 0) G dX10_users_159 rfl rfl ?_
                          refine zg_X10_118 G dX10_users_160 ?_
                          refine zv_iload_n (j := 1) G dX10_users_163 rfl rfl ?_
                          refine zv_iload (j := 7) G dX10_users_164 rfl ?_
                          refine zv_callSi (as := [za_O 22 99, za_I k9, za_I y7_138]) G (zc_X10_isUsed l E 99 k9 y7_138 σ (by first | assumption | decide | omega | exact hz.2.1.1 | exact hz.2.1.2)) zk_X10_isUsed zm_1627 rfl ⟨(Nat.le_of_ble_eq_true rfl), (Nat.le_of_ble_eq_true rfl)⟩ ⟨Nat.zero_le _, Nat.zero_le _⟩ (Nat.le_of_ble_eq_true rfl) dX10_users_166 (fun r_166 σ h_166 => ?_)
                          obtain ⟨h_166, rfl⟩ := h_166
                          refine zv_if_eq (tgt := 176) G dX10_users_169 (by decide) (fun c_169 => ?_) (fun c_169 => ?_)
                          · refine zv_iconst (v := 0) G dX10_users_176 (by decide) ?_
                            refine zv_istore (lv' := [(6, za_I 0), (0, za_O 19 93), (1, za_I k9), (2, za_I y2_18), (3, za_I x_116), (4, za_I y4_94), (5, za_I y5_94), (7, za_I y7_138)]) G dX10_users_177 (by decide) rfl ?_
                            obtain ⟨x_179, e_179⟩ : ∃ y : Int32, y = y7_138 + 1 := ⟨_, rfl⟩
                            refine zv_iinc (j := 7) (v := x_179) (lv' := [(7, za_I x_179), (6, za_I 0), (0, za_O 19 93), (1, za_I k9), (2, za_I y2_18), (3, za_I x_116), (4, za_I y4_94), (5, za_I y5_94)]) G dX10_users_179 rfl (by rw [e_179]; rfl) (by decide) rfl ?_
                            first | have q_179 := z_inc9 (by omega) e_179 | skip
                            refine zv_goto (tgt := 138) G dX10_users_182 (by decide) ?_
                            refine zv_sub [2, 3, 4, 5, 6, 7, 1, 0] (lv' := [(0, za_O 19 93), (1, za_I k9), (2, za_I y2_18), (3, za_I x_116), (4, za_I y4_94), (5, za_I y5_94), (6, za_I 0), (7, za_I x_179)]) rfl ?_
                            exact ih_138 (0 : Int32) x_179 σ (zq_m hz (by first | decide | omega | (have hL := z_lits; omega))) (Or.inl rfl) (by have := z_inc c_151 e_179; omega) (z_meas c_151 e_179 hn_138)
                          · refine zv_iconst (v := 1) G dX10_users_172 (by decide) ?_
                            refine zv_goto (tgt := 177) G dX10_users_173 (by decide) ?_
                            refine zv_istore (lv' := [(6, za_I 1), (0, za_O 19 93), (1, za_I k9), (2, za_I y2_18), (3, za_I x_116), (4, za_I y4_94), (5, za_I y5_94), (7, za_I y7_138)]) G dX10_users_177 (by decide) rfl ?_
                            obtain ⟨x_179, e_179⟩ : ∃ y : Int32, y = y7_138 + 1 := ⟨_, rfl⟩
                            refine zv_iinc (j := 7) (v := x_179) (lv' := [(7, za_I x_179), (6, za_I 1), (0, za_O 19 93), (1, za_I k9), (2, za_I y2_18), (3, za_I x_116), (4, za_I y4_94), (5, za_I y5_94)]) G dX10_users_179 rfl (by rw [e_179]; rfl) (by decide) rfl ?_
                            first | have q_179 := z_inc9 (by omega) e_179 | skip
                            refine zv_goto (tgt := 138) G dX10_users_182 (by decide) ?_
                            refine zv_sub [2, 3, 4, 5, 6, 7, 1, 0] (lv' := [(0, za_O 19 93), (1, za_I k9), (2, za_I y2_18), (3, za_I x_116), (4, za_I y4_94), (5, za_I y5_94), (6, za_I 1), (7, za_I x_179)]) rfl ?_
                            exact ih_138 (1 : Int32) x_179 σ (zq_m hz (by first | decide | omega | (have hL := z_lits; omega))) (Or.inr rfl) (by have := z_inc c_151 e_179; omega) (z_meas c_151 e_179 hn_138)
                  refine zv_istore (lv' := [(7, za_I y5_94), (6, za_I 0), (3, za_I x_116), (0, za_O 19 93), (1, za_I k9), (2, za_I y2_18), (4, za_I y4_94), (5, za_I y5_94)]) G dX10_users_136 (by decide) rfl ?_
                  refine zv_sub [3, 4, 5, 2, 6, 7, 1, 0] (lv' := [(0, za_O 19 93), (1, za_I k9), (2, za_I y2_18), (3, za_I x_116), (4, za_I y4_94), (5, za_I y5_94), (6, za_I 0), (7, za_I y5_94)]) rfl ?_
                  exact J_138 _ (0 : Int32) y5_94 σ (zq_m hz (by first | decide | omega | (have hL := z_lits; omega))) (Or.inl rfl) i5_94 (Nat.lt_succ_self _)
          refine zv_istore (lv' := [(5, za_I 0), (4, za_I 0), (3, za_I 0), (0, za_O 19 93), (1, za_I k9), (2, za_I y2_18)]) G dX10_users_92 (by decide) rfl ?_
          refine zv_sub [3, 4, 5, 2, 1, 0] (lv' := [(0, za_O 19 93), (1, za_I k9), (2, za_I y2_18), (3, za_I 0), (4, za_I 0), (5, za_I 0)]) rfl ?_
          exact J_94 _ (0 : Int32) (0 : Int32) (0 : Int32) σ (zq_m hz (by first | decide | omega | (have hL := z_lits; omega))) (by decide) (by decide) (Nat.lt_succ_self _)
        · have b_21 : 0 ≤ y3_18.toInt ∧ y3_18.toInt < 10 := ⟨i3_18, z_ltk c_21 rfl⟩
          have k_21 := z_cnle c_21 (a := 10) (b := y3_18.toInt) rfl rfl
          refine zv_iconst (v := 0) G dX10_users_24 (by decide) ?_
          have J_27 : ∀ (n : Nat) (y2_27 : Int32) (y4_27 : Int32) (σ : za_S) (hz : zq 12 σ0 σ) (i4_27 : 0 ≤ y4_27.toInt) (u4_27 : y4_27.toInt ≤ 100) (hn_27 : (2147483648 - y4_27.toInt).toNat < n), zV p l e (zRm 6 136) s m args below meth c E (za_A E) 8 0 0 (MQ below (va_Qi (fun r σ' => zq 12 σ0 σ') (zB E) (za_A E)) args s 0 0 (za_A E)) 27 [(0, za_O 19 93), (1, za_I k9), (2, za_I y2_27), (3, za_I y3_18), (4, za_I y4_27)] [] σ := by
            intro n
            induction n with
            | zero => intro y2_27 y4_27 σ hz i4_27 u4_27 hn; exact absurd hn (Nat.not_lt_zero _)
            | succ n ih_27 =>
              intro y2_27 y4_27 σ hz i4_27 u4_27 hn_27
              refine zv_iload (j := 4) G dX10_users_27 rfl ?_
              refine zv_bipush (v := 100) G dX10_users_29 (by decide) ?_
              refine zv_icmp_ge (tgt := 80) G dX10_users_31 (by decide) (fun c_31 => ?_) (fun c_31 => ?_)
              · have k_31 := z_cle c_31 (a := 100) (b := y4_27.toInt) rfl rfl
                obtain ⟨x_80, e_80⟩ : ∃ y : Int32, y = y3_18 + 1 := ⟨_, rfl⟩
                refine zv_iinc (j := 3) (v := x_80) (lv' := [(3, za_I x_80), (0, za_O 19 93), (1, za_I k9), (2, za_I y2_27), (4, za_I y4_27)]) G dX10_users_80 rfl (by rw [e_80]; rfl) (by decide) rfl ?_
                first | have q_80 := z_inc9 (by omega) e_80 | skip
                refine zv_goto (tgt := 18) G dX10_users_83 (by decide) ?_
                refine zv_sub [1, 2, 3, 0] (lv' := [(0, za_O 19 93), (1, za_I k9), (2, za_I y2_27), (3, za_I x_80)]) rfl ?_
                exact ih_18 y2_27 x_80 σ (zq_m hz (by first | decide | omega | (have hL := z_lits; omega))) (by have := z_inc c_21 e_80; omega) (by have := z_inc9 (by omega) e_80; omega) (z_meas c_21 e_80 hn_18)
              · have b_31 : 0 ≤ y4_27.toInt ∧ y4_27.toInt < 100 := ⟨i4_27, z_ltk c_31 rfl⟩
                have k_31 := z_cnle c_31 (a := 100) (b := y4_27.toInt) rfl rfl
                refine zv_iload_n (j := 2) G dX10_users_34 rfl rfl ?_
                refine zv_aload_n (j := 0) G dX10_users_35 rfl rfl ?_
                refine zg_X10_118 G dX10_users_36 ?_
                refine zv_iconst (v := 0) G dX10_users_39 (by decide) ?_
                refine zv_iload_n (j := 3) G dX10_users_40 rfl rfl ?_
                refine zv_iload (j := 4) G dX10_users_41 rfl ?_
                refine zv_callSi (as := [za_O 22 99, za_I 0, za_I y3_18, za_I y4_27]) G (zc_X10_begins l E 99 (0 : Int32) y3_18 y4_27 σ (by first | assumption | decide | omega | exact hz.2.1.1 | exact hz.2.1.2) (by first | assumption | decide | omega | exact hz.2.1.1 | exact hz.2.1.2)) zk_X10_begins zm_1317 rfl ⟨(Nat.le_of_ble_eq_true rfl), (Nat.le_of_ble_eq_true rfl)⟩ ⟨Nat.zero_le _, Nat.zero_le _⟩ (Nat.le_of_ble_eq_true rfl) dX10_users_43 (fun r_43 σ h_43 => ?_)
                obtain ⟨h_43, rfl⟩ := h_43
                refine zv_if_eq (tgt := 68) G dX10_users_46 (by decide) (fun c_46 => ?_) (fun c_46 => ?_)
                · have f_43 := fun q9 => (h_43.2.mpr q9) c_46
                  refine zv_iconst (v := 0) G dX10_users_68 (by decide) ?_
                  refine zv_callSi (as := [za_I 0]) G (zc_X10_flag l E (0 : Int32) σ ) zk_X10_flag zm_1351 rfl ⟨(Nat.le_of_ble_eq_true rfl), (Nat.le_of_ble_eq_true rfl)⟩ ⟨Nat.zero_le _, Nat.zero_le _⟩ (Nat.le_of_ble_eq_true rfl) dX10_users_69 (fun r_69 σ h_69 => ?_)
                  obtain ⟨h_69, rfl⟩ := h_69
                  have g_69 := z_flagT h_69.2 (a := 0) rfl
                  refine zv_iadd G dX10_users_72 ?_
                  refine zv_top (fun x_73 e_73 => ?_)
                  first | have q_73 := z_addf e_73 (a := y2_27.toInt) (b := r_69.toInt) rfl rfl (by omega) (by omega) | skip
                  refine zv_istore_n (lv' := [(2, za_I x_73), (0, za_O 19 93), (1, za_I k9), (3, za_I y3_18), (4, za_I y4_27)]) G dX10_users_73 rfl (by decide) rfl ?_
                  obtain ⟨x_74, e_74⟩ : ∃ y : Int32, y = y4_27 + 1 := ⟨_, rfl⟩
                  refine zv_iinc (j := 4) (v := x_74) (lv' := [(4, za_I x_74), (2, za_I x_73), (0, za_O 19 93), (1, za_I k9), (3, za_I y3_18)]) G dX10_users_74 rfl (by rw [e_74]; rfl) (by decide) rfl ?_
                  first | have q_74 := z_inc9 (by omega) e_74 | skip
                  refine zv_goto (tgt := 27) G dX10_users_77 (by decide) ?_
                  refine zv_sub [2, 3, 1, 4, 0] (lv' := [(0, za_O 19 93), (1, za_I k9), (2, za_I x_73), (3, za_I y3_18), (4, za_I x_74)]) rfl ?_
                  exact ih_27 x_73 x_74 σ (zq_m hz (by first | decide | omega | (have hL := z_lits; omega))) (by have := z_inc c_31 e_74; omega) (by have := z_inc9 (by omega) e_74; omega) (z_meas c_31 e_74 hn_27)
                · have t_43 := h_43.2.mp c_46
                  refine zv_aload_n (j := 0) G dX10_users_49 rfl rfl ?_
                  refine zg_X10_118 G dX10_users_50 ?_
                  refine zv_iconst (v := 0) G dX10_users_53 (by decide) ?_
                  refine zv_iload_n (j := 3) G dX10_users_54 rfl rfl ?_
                  refine zv_iload (j := 4) G dX10_users_55 rfl ?_
                  refine zv_callSi (as := [za_O 22 99, za_I 0, za_I y3_18, za_I y4_27]) G (zc_X10_refOn l E 99 (0 : Int32) y3_18 y4_27 σ (by first | assumption | decide | omega | exact hz.2.1.1 | exact hz.2.1.2) (by first | assumption | decide | omega | exact hz.2.1.1 | exact hz.2.1.2) (by first | assumption | decide | omega | exact hz.2.1.1 | exact hz.2.1.2)) zk_X10_refOn zm_1340 rfl ⟨(Nat.le_of_ble_eq_true rfl), (Nat.le_of_ble_eq_true rfl)⟩ ⟨Nat.zero_le _, Nat.zero_le _⟩ (Nat.le_of_ble_eq_true rfl) dX10_users_57 (fun r_57 σ h_57 => ?_)
                  obtain ⟨h_57, rfl⟩ := h_57
                  refine zv_iload_n (j := 1) G dX10_users_60 rfl rfl ?_
                  refine zv_icmp_ne (tgt := 68) G dX10_users_61 (by decide) (fun c_61 => ?_) (fun c_61 => ?_)
                  · have k_61 := z_cne c_61 (a := r_57.toInt) (b := k9.toInt) rfl rfl
                    refine zv_iconst (v := 0) G dX10_users_68 (by decide) ?_
                    refine zv_callSi (as := [za_I 0]) G (zc_X10_flag l E (0 : Int32) σ ) zk_X10_flag zm_1351 rfl ⟨(Nat.le_of_ble_eq_true rfl), (Nat.le_of_ble_eq_true rfl)⟩ ⟨Nat.zero_le _, Nat.zero_le _⟩ (Nat.le_of_ble_eq_true rfl) dX10_users_69 (fun r_69 σ h_69 => ?_)
                    obtain ⟨h_69, rfl⟩ := h_69
                    have g_69 := z_flagT h_69.2 (a := 0) rfl
                    refine zv_iadd G dX10_users_72 ?_
                    refine zv_top (fun x_73 e_73 => ?_)
                    first | have q_73 := z_addf e_73 (a := y2_27.toInt) (b := r_69.toInt) rfl rfl (by omega) (by omega) | skip
                    refine zv_istore_n (lv' := [(2, za_I x_73), (0, za_O 19 93), (1, za_I k9), (3, za_I y3_18), (4, za_I y4_27)]) G dX10_users_73 rfl (by decide) rfl ?_
                    obtain ⟨x_74, e_74⟩ : ∃ y : Int32, y = y4_27 + 1 := ⟨_, rfl⟩
                    refine zv_iinc (j := 4) (v := x_74) (lv' := [(4, za_I x_74), (2, za_I x_73), (0, za_O 19 93), (1, za_I k9), (3, za_I y3_18)]) G dX10_users_74 rfl (by rw [e_74]; rfl) (by decide) rfl ?_
                    first | have q_74 := z_inc9 (by omega) e_74 | skip
                    refine zv_goto (tgt := 27) G dX10_users_77 (by decide) ?_
                    refine zv_sub [2, 3, 1, 4, 0] (lv' := [(0, za_O 19 93), (1, za_I k9), (2, za_I x_73), (3, za_I y3_18), (4, za_I x_74)]) rfl ?_
                    exact ih_27 x_73 x_74 σ (zq_m hz (by first | decide | omega | (have hL := z_lits; omega))) (by have := z_inc c_31 e_74; omega) (by have := z_inc9 (by omega) e_74; omega) (z_meas c_31 e_74 hn_27)
                  · have k_61 := z_ceq c_61 (a := r_57.toInt) (b := k9.toInt) rfl rfl
                    refine zv_iconst (v := 1) G dX10_users_64 (by decide) ?_
                    refine zv_goto (tgt := 69) G dX10_users_65 (by decide) ?_
                    refine zv_callSi (as := [za_I 1]) G (zc_X10_flag l E (1 : Int32) σ ) zk_X10_flag zm_1351 rfl ⟨(Nat.le_of_ble_eq_true rfl), (Nat.le_of_ble_eq_true rfl)⟩ ⟨Nat.zero_le _, Nat.zero_le _⟩ (Nat.le_of_ble_eq_true rfl) dX10_users_69 (fun r_69 σ h_69 => ?_)
                    obtain ⟨h_69, rfl⟩ := h_69
                    have g_69 := z_flagT h_69.2 (a := 1) rfl
                    refine zv_iadd G dX10_users_72 ?_
                    refine zv_top (fun x_73 e_73 => ?_)
                    first | have q_73 := z_addf e_73 (a := y2_27.toInt) (b := r_69.toInt) rfl rfl (by omega) (by omega) | skip
                    refine zv_istore_n (lv' := [(2, za_I x_73), (0, za_O 19 93), (1, za_I k9), (3, za_I y3_18), (4, za_I y4_27)]) G dX10_users_73 rfl (by decide) rfl ?_
                    obtain ⟨x_74, e_74⟩ : ∃ y : Int32, y = y4_27 + 1 := ⟨_, rfl⟩
                    refine zv_iinc (j := 4) (v := x_74) (lv' := [(4, za_I x_74), (2, za_I x_73), (0, za_O 19 93), (1, za_I k9), (3, za_I y3_18)]) G dX10_users_74 rfl (by rw [e_74]; rfl) (by decide) rfl ?_
                    first | have q_74 := z_inc9 (by omega) e_74 | skip
                    refine zv_goto (tgt := 27) G dX10_users_77 (by decide) ?_
                    refine zv_sub [2, 3, 1, 4, 0] (lv' := [(0, za_O 19 93), (1, za_I k9), (2, za_I x_73), (3, za_I y3_18), (4, za_I x_74)]) rfl ?_
                    exact ih_27 x_73 x_74 σ (zq_m hz (by first | decide | omega | (have hL := z_lits; omega))) (by have := z_inc c_31 e_74; omega) (by have := z_inc9 (by omega) e_74; omega) (z_meas c_31 e_74 hn_27)
          refine zv_istore (lv' := [(4, za_I 0), (0, za_O 19 93), (1, za_I k9), (2, za_I y2_18), (3, za_I y3_18)]) G dX10_users_25 (by decide) rfl ?_
          refine zv_sub [1, 2, 3, 4, 0] (lv' := [(0, za_O 19 93), (1, za_I k9), (2, za_I y2_18), (3, za_I y3_18), (4, za_I 0)]) rfl ?_
          exact J_27 _ y2_18 (0 : Int32) σ (zq_m hz (by first | decide | omega | (have hL := z_lits; omega))) (by decide) (by decide) (Nat.lt_succ_self _)
    refine zv_istore_n (lv' := [(3, za_I 0), (2, za_I 0), (0, za_O 19 93), (1, za_I k9)]) G dX10_users_17 rfl (by decide) rfl ?_
    refine zv_sub [2, 3, 1, 0] (lv' := [(0, za_O 19 93), (1, za_I k9), (2, za_I 0), (3, za_I 0)]) rfl ?_
    exact J_18 _ (0 : Int32) (0 : Int32) σ (zq_m hz (by first | decide | omega | (have hL := z_lits; omega))) (by decide) (by decide) (Nat.lt_succ_self _)
  · have f_6 := fun q9 => (h_6.2.mpr q9) c_9
    refine zv_iconst (v := (-1)) G dX10_users_12 (by decide) ?_
    exact zv_iret G hr dX10_users_13 (zq_m hz (by first | decide | omega | (have hL := z_lits; omega)))
set_option maxHeartbeats 4000000 in
set_option maxRecDepth 100000 in
theorem zc_X10_differs (l : Launch) (E : za_E) (t : Int32) (i9 : Int32) (σ0 : za_S) (hJ : zJ σ0) : zMi l E yX10_differs cX10_differs 9 (Option.some Jvm.ClassFile.FieldType.int) 4 89 [za_O 19 93, za_I t, za_I i9] σ0 (fun r σ' => zq 12 σ0 σ') := by
  refine zMi_of [(0, za_O 19 93), (1, za_I t), (2, za_I i9)] (by decide) rfl rfl (Nat.le_of_ble_eq_true rfl) ?_
  intro ho p e s m args below meth c G hr
  refine zv_gen (R9 := zq 12 σ0) (zq_0 hJ) (fun σ hz => ?_)
  refine zv_aload_n (j := 0) G dX10_differs_0 rfl rfl ?_
  refine zv_iconst (v := 0) G dX10_differs_1 (by decide) ?_
  refine zp_X10_3 G dX10_differs_2 ?_
  refine zv_gen (R9 := zq 12 σ0) (zq_93 hz (by decide)) (fun σ hz => ?_)
  refine zv_iload_n (j := 1) G dX10_differs_5 rfl rfl ?_
  refine zv_callSi (as := [za_I t]) G (zc_X10_isTable l E t σ ) zk_X10_isTable zm_1309 rfl ⟨(Nat.le_of_ble_eq_true rfl), (Nat.le_of_ble_eq_true rfl)⟩ ⟨Nat.zero_le _, Nat.zero_le _⟩ (Nat.le_of_ble_eq_true rfl) dX10_differs_6 (fun r_6 σ h_6 => ?_)
  obtain ⟨h_6, rfl⟩ := h_6
  refine zv_if_eq (tgt := 22) G dX10_differs_9 (by decide) (fun c_9 => ?_) (fun c_9 => ?_)
  · have f_6 := fun q9 => (h_6.2.mpr q9) c_9
    refine zv_iconst (v := (-1)) G dX10_differs_22 (by decide) ?_
    exact zv_iret G hr dX10_differs_23 (zq_m hz (by first | decide | omega | (have hL := z_lits; omega)))
  · have t_6 := h_6.2.mp c_9
    refine zv_iload_n (j := 2) G dX10_differs_12 rfl rfl ?_
    refine zv_i2l G dX10_differs_13 ?_
    refine zv_lconst (v := 0) G dX10_differs_14 (by decide) ?_
    refine zv_lconst (v := 1) G dX10_differs_15 (by decide) ?_
    refine zv_callSi (as := [za_L i9.toInt64, za_L 0, za_L 1]) G (zc_X10_in l E i9.toInt64 0 1 σ ) zk_X10_in zm_1180 rfl ⟨(Nat.le_of_ble_eq_true rfl), (Nat.le_of_ble_eq_true rfl)⟩ ⟨Nat.zero_le _, Nat.zero_le _⟩ (Nat.le_of_ble_eq_true rfl) dX10_differs_16 (fun r_16 σ h_16 => ?_)
    obtain ⟨h_16, rfl⟩ := h_16
    refine zv_if_ne (tgt := 24) G dX10_differs_19 (by decide) (fun c_19 => ?_) (fun c_19 => ?_)
    · have t_16 := h_16.2.mp c_19
      have w_19 := z_i2 t_16
      refine zv_aload_n (j := 0) G dX10_differs_24 rfl rfl ?_
      refine zg_X10_150 G dX10_differs_25 ?_
      refine zv_iload_n (j := 2) G dX10_differs_28 rfl rfl ?_
      refine zv_zald G (by decide) rfl (z_in w_19.1 (by omega)) dX10_differs_29 ?_
      refine zv_if_ne (tgt := 36) G dX10_differs_30 (by decide) (fun c_30 => ?_) (fun c_30 => ?_)
      · have k_30 := z_cne c_30 (a := (σ.1 189 i9.toNatClampNeg).toInt) (b := 0) rfl rfl
        refine zv_iconst (v := 0) G dX10_differs_36 (by decide) ?_
        have J_38 : ∀ (n : Nat) (y3_38 : Int32) (σ : za_S) (hz : zq 12 σ0 σ) (i3_38 : 0 ≤ y3_38.toInt) (u3_38 : y3_38.toInt ≤ 2001) (hn_38 : (2147483648 - y3_38.toInt).toNat < n), zV p l e (zRm 4 89) s m args below meth c E (za_A E) 9 0 0 (MQ below (va_Qi (fun r σ' => zq 12 σ0 σ') (zB E) (za_A E)) args s 0 0 (za_A E)) 38 [(0, za_O 19 93), (1, za_I t), (2, za_I i9), (3, za_I y3_38)] [] σ := by
          intro n
          induction n with
          | zero => intro y3_38 σ hz i3_38 u3_38 hn; exact absurd hn (Nat.not_lt_zero _)
          | succ n ih_38 =>
            intro y3_38 σ hz i3_38 u3_38 hn_38
            refine zv_iload_n (j := 3) G dX10_differs_38 rfl rfl ?_
            refine zv_sipush (v := 2001) G dX10_differs_39 (by decide) ?_
            refine zv_icmp_ge (tgt := 69) G dX10_differs_42 (by decide) (fun c_42 => ?_) (fun c_42 => ?_)
            · have k_42 := z_cle c_42 (a := 2001) (b := y3_38.toInt) rfl rfl
              refine zv_iconst (v := 0) G dX10_differs_69 (by decide) ?_
              refine zv_istore_n (lv' := [(3, za_I 0), (0, za_O 19 93), (1, za_I t), (2, za_I i9)]) G dX10_differs_70 rfl (by decide) rfl ?_
              refine zv_aload_n (j := 1) G dX10_differs_71 rfl rfl ?_
              refine zv_iconst (v := 0) G dX10_differs_72 (by decide) ?_
              refine zp_X10_15 G dX10_differs_73 ?_
              refine zv_gen (R9 := zq 0 σ0) (zq_t0 hz) (fun σ hz => ?_)
              refine zv_iconst (v := 0) G dX10_differs_76 (by decide) ?_
              have J_79 : ∀ (n : Nat) (y3_79 : Int32) (y4_79 : Int32) (σ : za_S) (hz : zq (if y3_79.toInt = 0 then 0 else 1) σ0 σ) (g_79 : 0 ≤ y3_79.toInt ∧ y3_79.toInt ≤ y4_79.toInt) (i4_79 : 0 ≤ y4_79.toInt) (u4_79 : y4_79.toInt ≤ 100) (hn_79 : (2147483648 - y4_79.toInt).toNat < n), zV p l e (zRm 4 89) s m args below meth c E (za_A E) 9 0 0 (MQ below (va_Qi (fun r σ' => zq 12 σ0 σ') (zB E) (za_A E)) args s 0 0 (za_A E)) 79 [(0, za_O 19 93), (1, za_I t), (3, za_I y3_79), (4, za_I y4_79)] [] σ := by
                intro n
                induction n with
                | zero => intro y3_79 y4_79 σ hz g_79 i4_79 u4_79 hn; exact absurd hn (Nat.not_lt_zero _)
                | succ n ih_79 =>
                  intro y3_79 y4_79 σ hz g_79 i4_79 u4_79 hn_79
                  refine zv_iload (j := 3) G dX10_differs_79 rfl ?_
                  refine zv_bipush (v := 100) G dX10_differs_81 (by decide) ?_
                  refine zv_icmp_ge (tgt := 214) G dX10_differs_83 (by decide) (fun c_83 => ?_) (fun c_83 => ?_)
                  · have k_83 := z_cle c_83 (a := 100) (b := y4_79.toInt) rfl rfl
                    refine zv_iload_n (j := 2) G dX10_differs_214 rfl rfl ?_
                    exact zv_iret G hr dX10_differs_215 (zq_m hz (by first | decide | omega | (have hL := z_lits; omega)))
                  · have b_83 : 0 ≤ y4_79.toInt ∧ y4_79.toInt < 100 := ⟨i4_79, z_ltk c_83 rfl⟩
                    have k_83 := z_cnle c_83 (a := 100) (b := y4_79.toInt) rfl rfl
                    refine zv_iconst (v := 0) G dX10_differs_86 (by decide) ?_
                    refine zv_istore (lv' := [(5, za_I 0), (0, za_O 19 93), (1, za_I t), (3, za_I y3_79), (4, za_I y4_79)]) G dX10_differs_87 (by decide) rfl ?_
                    refine zv_iconst (v := 0) G dX10_differs_89 (by decide) ?_
                    have J_92 : ∀ (n : Nat) (y5_92 : Int32) (y6_92 : Int32) (σ : za_S) (hz : zq (if y3_79.toInt = 0 then 0 else 1) σ0 σ) (b5_92 : y5_92 = 0 ∨ y5_92 = 1) (i6_92 : 0 ≤ y6_92.toInt) (u6_92 : y6_92.toInt ≤ 10) (hn_92 : (2147483648 - y6_92.toInt).toNat < n), zV p l e (zRm 4 89) s m args below meth c E (za_A E) 9 0 0 (MQ below (va_Qi (fun r σ' => zq 12 σ0 σ') (zB E) (za_A E)) args s 0 0 (za_A E)) 92 [(0, za_O 19 93), (1, za_I t), (3, za_I y3_79), (4, za_I y4_79), (5, za_I y5_92), (6, za_I y6_92)] [] σ := by
                      intro n
                      induction n with
                      | zero => intro y5_92 y6_92 σ hz b5_92 i6_92 u6_92 hn; exact absurd hn (Nat.not_lt_zero _)
                      | succ n ih_92 =>
                        intro y5_92 y6_92 σ hz b5_92 i6_92 u6_92 hn_92
                        refine zv_iload (j := 5) G dX10_differs_92 rfl ?_
                        refine zv_bipush (v := 10) G dX10_differs_94 (by decide) ?_
                        refine zv_icmp_ge (tgt := 184) G dX10_differs_96 (by decide) (fun c_96 => ?_) (fun c_96 => ?_)
                        · have k_96 := z_cle c_96 (a := 10) (b := y6_92.toInt) rfl rfl
                          refine zv_iload (j := 4) G dX10_differs_184 rfl ?_
                          refine zv_if_eq (tgt := 200) G dX10_differs_186 (by decide) (fun c_186 => ?_) (fun c_186 => ?_)
                          · have k_186 := z_ceq c_186 (a := y5_92.toInt) (b := 0) rfl rfl
                            refine zv_iload_n (j := 2) G dX10_differs_200 rfl rfl ?_
                            refine zv_iload (j := 4) G dX10_differs_201 rfl ?_
                            refine zv_callSi (as := [za_I y5_92]) G (zc_X10_flag l E y5_92 σ ) zk_X10_flag zm_1351 rfl ⟨(Nat.le_of_ble_eq_true rfl), (Nat.le_of_ble_eq_true rfl)⟩ ⟨Nat.zero_le _, Nat.zero_le _⟩ (Nat.le_of_ble_eq_true rfl) dX10_differs_203 (fun r_203 σ h_203 => ?_)
                            obtain ⟨h_203, rfl⟩ := h_203
                            have g_203 := z_flagT h_203.2 (a := y5_92.toInt) rfl
                            refine zv_iadd G dX10_differs_206 ?_
                            refine zv_top (fun x_207 e_207 => ?_)
                            first | have q_207 := z_addf e_207 (a := y3_79.toInt) (b := r_203.toInt) rfl rfl (by omega) (by omega) | skip
                            refine zv_istore_n (lv' := [(3, za_I x_207), (0, za_O 19 93), (1, za_I t), (4, za_I y4_79), (5, za_I y5_92), (6, za_I y6_92)]) G dX10_differs_207 rfl (by decide) rfl ?_
                            obtain ⟨x_208, e_208⟩ : ∃ y : Int32, y = y4_79 + 1 := ⟨_, rfl⟩
                            refine zv_iinc (j := 3) (v := x_208) (lv' := [(4, za_I x_208), (3, za_I x_207), (0, za_O 19 93), (1, za_I t), (5, za_I y5_92), (6, za_I y6_92)]) G dX10_differs_208 rfl (by rw [e_208]; rfl) (by decide) rfl ?_
                            first | have q_208 := z_inc9 (by omega) e_208 | skip
                            refine zv_goto (tgt := 79) G dX10_differs_211 (by decide) ?_
                            refine zv_sub [2, 3, 1, 0] (lv' := [(0, za_O 19 93), (1, za_I t), (3, za_I x_207), (4, za_I x_208)]) rfl ?_
                            exact ih_79 x_207 x_208 σ (zq_m hz (by first | decide | omega | (have hL := z_lits; omega))) (by have hL := z_lits; omega) (by have := z_inc c_83 e_208; omega) (by have := z_inc9 (by omega) e_208; omega) (z_meas c_83 e_208 hn_79)
                          · have k_186 := z_cne c_186 (a := y5_92.toInt) (b := 0) rfl rfl
                            refine zv_iload_n (j := 2) G dX10_differs_189 rfl rfl ?_
                            refine zv_if_ne (tgt := 200) G dX10_differs_190 (by decide) (fun c_190 => ?_) (fun c_190 => ?_)
                            · have k_190 := z_cne c_190 (a := y3_79.toInt) (b := 0) rfl rfl
                              refine zv_iload_n (j := 2) G dX10_differs_200 rfl rfl ?_
                              refine zv_iload (j := 4) G dX10_differs_201 rfl ?_
                              refine zv_callSi (as := [za_I y5_92]) G (zc_X10_flag l E y5_92 σ ) zk_X10_flag zm_1351 rfl ⟨(Nat.le_of_ble_eq_true rfl), (Nat.le_of_ble_eq_true rfl)⟩ ⟨Nat.zero_le _, Nat.zero_le _⟩ (Nat.le_of_ble_eq_true rfl) dX10_differs_203 (fun r_203 σ h_203 => ?_)
                              obtain ⟨h_203, rfl⟩ := h_203
                              have g_203 := z_flagT h_203.2 (a := y5_92.toInt) rfl
                              refine zv_iadd G dX10_differs_206 ?_
                              refine zv_top (fun x_207 e_207 => ?_)
                              first | have q_207 := z_addf e_207 (a := y3_79.toInt) (b := r_203.toInt) rfl rfl (by omega) (by omega) | skip
                              refine zv_istore_n (lv' := [(3, za_I x_207), (0, za_O 19 93), (1, za_I t), (4, za_I y4_79), (5, za_I y5_92), (6, za_I y6_92)]) G dX10_differs_207 rfl (by decide) rfl ?_
                              obtain ⟨x_208, e_208⟩ : ∃ y : Int32, y = y4_79 + 1 := ⟨_, rfl⟩
                              refine zv_iinc (j := 3) (v := x_208) (lv' := [(4, za_I x_208), (3, za_I x_207), (0, za_O 19 93), (1, za_I t), (5, za_I y5_92), (6, za_I y6_92)]) G dX10_differs_208 rfl (by rw [e_208]; rfl) (by decide) rfl ?_
                              first | have q_208 := z_inc9 (by omega) e_208 | skip
                              refine zv_goto (tgt := 79) G dX10_differs_211 (by decide) ?_
                              refine zv_sub [2, 3, 1, 0] (lv' := [(0, za_O 19 93), (1, za_I t), (3, za_I x_207), (4, za_I x_208)]) rfl ?_
                              exact ih_79 x_207 x_208 σ (zq_m hz (by first | decide | omega | (have hL := z_lits; omega))) (by have hL := z_lits; omega) (by have := z_inc c_83 e_208; omega) (by have := z_inc9 (by omega) e_208; omega) (z_meas c_83 e_208 hn_79)
                            · have k_190 := z_ceq c_190 (a := y3_79.toInt) (b := 0) rfl rfl
                              refine zv_aload_n (j := 0) G dX10_differs_193 rfl rfl ?_
                              refine zv_iload (j := 3) G dX10_differs_194 rfl ?_
                              refine zv_i2l G dX10_differs_196 ?_
                              refine zv_callVv (as := [za_L y4_79.toInt64]) G (by decide) rfl rfl (zc_X10_enters l E y4_79.toInt64 σ (zq_p hz (by first | decide | omega))) zk_X10_enters zm_1418 rfl ⟨(Nat.le_of_ble_eq_true rfl), (Nat.le_of_ble_eq_true rfl)⟩ ⟨Nat.zero_le _, Nat.zero_le _⟩ (Nat.le_of_ble_eq_true rfl) dX10_differs_197 (fun σ h_197 => ?_)
                              have hz : zq ((if y3_79.toInt = 0 then 0 else 1) + 1) σ0 σ := zq_e hz h_197
                              refine zv_iload_n (j := 2) G dX10_differs_200 rfl rfl ?_
                              refine zv_iload (j := 4) G dX10_differs_201 rfl ?_
                              refine zv_callSi (as := [za_I y5_92]) G (zc_X10_flag l E y5_92 σ ) zk_X10_flag zm_1351 rfl ⟨(Nat.le_of_ble_eq_true rfl), (Nat.le_of_ble_eq_true rfl)⟩ ⟨Nat.zero_le _, Nat.zero_le _⟩ (Nat.le_of_ble_eq_true rfl) dX10_differs_203 (fun r_203 σ h_203 => ?_)
                              obtain ⟨h_203, rfl⟩ := h_203
                              have g_203 := z_flagT h_203.2 (a := y5_92.toInt) rfl
                              refine zv_iadd G dX10_differs_206 ?_
                              refine zv_top (fun x_207 e_207 => ?_)
                              first | have q_207 := z_addf e_207 (a := y3_79.toInt) (b := r_203.toInt) rfl rfl (by omega) (by omega) | skip
                              refine zv_istore_n (lv' := [(3, za_I x_207), (0, za_O 19 93), (1, za_I t), (4, za_I y4_79), (5, za_I y5_92), (6, za_I y6_92)]) G dX10_differs_207 rfl (by decide) rfl ?_
                              obtain ⟨x_208, e_208⟩ : ∃ y : Int32, y = y4_79 + 1 := ⟨_, rfl⟩
                              refine zv_iinc (j := 3) (v := x_208) (lv' := [(4, za_I x_208), (3, za_I x_207), (0, za_O 19 93), (1, za_I t), (5, za_I y5_92), (6, za_I y6_92)]) G dX10_differs_208 rfl (by rw [e_208]; rfl) (by decide) rfl ?_
                              first | have q_208 := z_inc9 (by omega) e_208 | skip
                              refine zv_goto (tgt := 79) G dX10_differs_211 (by decide) ?_
                              refine zv_sub [2, 3, 1, 0] (lv' := [(0, za_O 19 93), (1, za_I t), (3, za_I x_207), (4, za_I x_208)]) rfl ?_
                              exact ih_79 x_207 x_208 σ (zq_m hz (by first | decide | omega | (have hL := z_lits; omega))) (by have hL := z_lits; omega) (by have := z_inc c_83 e_208; omega) (by have := z_inc9 (by omega) e_208; omega) (z_meas c_83 e_208 hn_79)
                        · have b_96 : 0 ≤ y6_92.toInt ∧ y6_92.toInt < 10 := ⟨i6_92, z_ltk c_96 rfl⟩
                          have k_96 := z_cnle c_96 (a := 10) (b := y6_92.toInt) rfl rfl
                          refine zv_aload_n (j := 0) G dX10_differs_99 rfl rfl ?_
                          refine zg_X10_118 G dX10_differs_100 ?_
                          refine zv_iload_n (j := 1) G dX10_differs_103 rfl rfl ?_
                          refine zv_iload (j := 5) G dX10_differs_104 rfl ?_
                          refine zv_iload (j := 3) G dX10_differs_106 rfl ?_
                          refine zv_callSi (as := [za_O 22 99, za_I t, za_I y6_92, za_I y4_79]) G (zc_X10_isThere l E 99 t y6_92 y4_79 σ (by first | assumption | decide | omega | exact hz.2.1.1 | exact hz.2.1.2) (by first | assumption | decide | omega | exact hz.2.1.1 | exact hz.2.1.2)) zk_X10_isThere zm_1320 rfl ⟨(Nat.le_of_ble_eq_true rfl), (Nat.le_of_ble_eq_true rfl)⟩ ⟨Nat.zero_le _, Nat.zero_le _⟩ (Nat.le_of_ble_eq_true rfl) dX10_differs_108 (fun r_108 σ h_108 => ?_)
                          obtain ⟨h_108, rfl⟩ := h_108
                          refine zv_istore (lv' := [(7, za_I r_108), (0, za_O 19 93), (1, za_I t), (3, za_I y3_79), (4, za_I y4_79), (5, za_I y5_92), (6, za_I y6_92)]) G dX10_differs_111 (by decide) rfl ?_
                          refine zv_aload_n (j := 1) G dX10_differs_113 rfl rfl ?_
                          refine zg_X10_121 G dX10_differs_114 ?_
                          refine zv_iload_n (j := 2) G dX10_differs_117 rfl rfl ?_
                          refine zv_iload (j := 6) G dX10_differs_118 rfl ?_
                          refine zv_iload (j := 4) G dX10_differs_120 rfl ?_
                          refine zv_callSi (as := [za_O 22 100, za_I t, za_I y6_92, za_I y4_79]) G (zc_X10_isThere l E 100 t y6_92 y4_79 σ (by first | assumption | decide | omega | exact hz.2.1.1 | exact hz.2.1.2) (by first | assumption | decide | omega | exact hz.2.1.1 | exact hz.2.1.2)) zk_X10_isThere zm_1320 rfl ⟨(Nat.le_of_ble_eq_true rfl), (Nat.le_of_ble_eq_true rfl)⟩ ⟨Nat.zero_le _, Nat.zero_le _⟩ (Nat.le_of_ble_eq_true rfl) dX10_differs_122 (fun r_122 σ h_122 => ?_)
                          obtain ⟨h_122, rfl⟩ := h_122
                          refine zv_istore (lv' := [(8, za_I r_122), (7, za_I r_108), (0, za_O 19 93), (1, za_I t), (3, za_I y3_79), (4, za_I y4_79), (5, za_I y5_92), (6, za_I y6_92)]) G dX10_differs_125 (by decide) rfl ?_
                          refine zv_iload (j := 6) G dX10_differs_127 rfl ?_
                          refine zv_if_ne (tgt := 171) G dX10_differs_129 (by decide) (fun c_129 => ?_) (fun c_129 => ?_)
                          · have k_129 := z_cne c_129 (a := y5_92.toInt) (b := 0) rfl rfl
                            refine zv_iconst (v := 1) G dX10_differs_171 (by decide) ?_
                            refine zv_goto (tgt := 176) G dX10_differs_172 (by decide) ?_
                            refine zv_istore (lv' := [(5, za_I 1), (8, za_I r_122), (7, za_I r_108), (0, za_O 19 93), (1, za_I t), (3, za_I y3_79), (4, za_I y4_79), (6, za_I y6_92)]) G dX10_differs_176 (by decide) rfl ?_
                            obtain ⟨x_178, e_178⟩ : ∃ y : Int32, y = y6_92 + 1 := ⟨_, rfl⟩
                            refine zv_iinc (j := 7) (v := x_178) (lv' := [(6, za_I x_178), (5, za_I 1), (8, za_I r_122), (7, za_I r_108), (0, za_O 19 93), (1, za_I t), (3, za_I y3_79), (4, za_I y4_79)]) G dX10_differs_178 rfl (by rw [e_178]; rfl) (by decide) rfl ?_
                            first | have q_178 := z_inc9 (by omega) e_178 | skip
                            refine zv_goto (tgt := 92) G dX10_differs_181 (by decide) ?_
                            refine zv_sub [4, 5, 6, 7, 1, 0] (lv' := [(0, za_O 19 93), (1, za_I t), (3, za_I y3_79), (4, za_I y4_79), (5, za_I 1), (6, za_I x_178)]) rfl ?_
                            exact ih_92 (1 : Int32) x_178 σ (zq_m hz (by first | decide | omega | (have hL := z_lits; omega))) (Or.inr rfl) (by have := z_inc c_96 e_178; omega) (by have := z_inc9 (by omega) e_178; omega) (z_meas c_96 e_178 hn_92)
                          · have k_129 := z_ceq c_129 (a := y5_92.toInt) (b := 0) rfl rfl
                            refine zv_iload (j := 1) G dX10_differs_132 rfl ?_
                            refine zv_iload (j := 0) G dX10_differs_134 rfl ?_
                            refine zv_icmp_ne (tgt := 171) G dX10_differs_136 (by decide) (fun c_136 => ?_) (fun c_136 => ?_)
                            · have k_136 := z_cne c_136 (a := r_108.toInt) (b := r_122.toInt) rfl rfl
                              refine zv_iconst (v := 1) G dX10_differs_171 (by decide) ?_
                              refine zv_goto (tgt := 176) G dX10_differs_172 (by decide) ?_
                              refine zv_istore (lv' := [(5, za_I 1), (8, za_I r_122), (7, za_I r_108), (0, za_O 19 93), (1, za_I t), (3, za_I y3_79), (4, za_I y4_79), (6, za_I y6_92)]) G dX10_differs_176 (by decide) rfl ?_
                              obtain ⟨x_178, e_178⟩ : ∃ y : Int32, y = y6_92 + 1 := ⟨_, rfl⟩
                              refine zv_iinc (j := 7) (v := x_178) (lv' := [(6, za_I x_178), (5, za_I 1), (8, za_I r_122), (7, za_I r_108), (0, za_O 19 93), (1, za_I t), (3, za_I y3_79), (4, za_I y4_79)]) G dX10_differs_178 rfl (by rw [e_178]; rfl) (by decide) rfl ?_
                              first | have q_178 := z_inc9 (by omega) e_178 | skip
                              refine zv_goto (tgt := 92) G dX10_differs_181 (by decide) ?_
                              refine zv_sub [4, 5, 6, 7, 1, 0] (lv' := [(0, za_O 19 93), (1, za_I t), (3, za_I y3_79), (4, za_I y4_79), (5, za_I 1), (6, za_I x_178)]) rfl ?_
                              exact ih_92 (1 : Int32) x_178 σ (zq_m hz (by first | decide | omega | (have hL := z_lits; omega))) (Or.inr rfl) (by have := z_inc c_96 e_178; omega) (by have := z_inc9 (by omega) e_178; omega) (z_meas c_96 e_178 hn_92)
                            · have k_136 := z_ceq c_136 (a := r_108.toInt) (b := r_122.toInt) rfl rfl
                              refine zv_iload (j := 1) G dX10_differs_139 rfl ?_
                              refine zv_if_eq (tgt := 175) G dX10_differs_141 (by decide) (fun c_141 => ?_) (fun c_141 => ?_)
                              · have f_108 := fun q9 => (h_108.2.mpr q9) c_141
                                refine zv_iconst (v := 0) G dX10_differs_175 (by decide) ?_
                                refine zv_istore (lv' := [(5, za_I 0), (8, za_I r_122), (7, za_I r_108), (0, za_O 19 93), (1, za_I t), (3, za_I y3_79), (4, za_I y4_79), (6, za_I y6_92)]) G dX10_differs_176 (by decide) rfl ?_
                                obtain ⟨x_178, e_178⟩ : ∃ y : Int32, y = y6_92 + 1 := ⟨_, rfl⟩
                                refine zv_iinc (j := 7) (v := x_178) (lv' := [(6, za_I x_178), (5, za_I 0), (8, za_I r_122), (7, za_I r_108), (0, za_O 19 93), (1, za_I t), (3, za_I y3_79), (4, za_I y4_79)]) G dX10_differs_178 rfl (by rw [e_178]; rfl) (by decide) rfl ?_
                                first | have q_178 := z_inc9 (by omega) e_178 | skip
                                refine zv_goto (tgt := 92) G dX10_differs_181 (by decide) ?_
                                refine zv_sub [4, 5, 6, 7, 1, 0] (lv' := [(0, za_O 19 93), (1, za_I t), (3, za_I y3_79), (4, za_I y4_79), (5, za_I 0), (6, za_I x_178)]) rfl ?_
                                exact ih_92 (0 : Int32) x_178 σ (zq_m hz (by first | decide | omega | (have hL := z_lits; omega))) (Or.inl rfl) (by have := z_inc c_96 e_178; omega) (by have := z_inc9 (by omega) e_178; omega) (z_meas c_96 e_178 hn_92)
                              · have t_108 := h_108.2.mp c_141
                                refine zv_aload_n (j := 2) G dX10_differs_144 rfl rfl ?_
                                refine zg_X10_118 G dX10_differs_145 ?_
                                refine zv_iload_n (j := 3) G dX10_differs_148 rfl rfl ?_
                                refine zv_iload (j := 7) G dX10_differs_149 rfl ?_
                                refine zv_iload (j := 5) G dX10_differs_151 rfl ?_
                                refine zv_callSi (as := [za_O 22 99, za_I t, za_I y6_92, za_I y4_79]) G (zc_X10_valueOn l E 99 t y6_92 y4_79 σ (by first | assumption | decide | omega | exact hz.2.1.1 | exact hz.2.1.2) (by first | assumption | decide | omega | exact hz.2.1.1 | exact hz.2.1.2) (by first | assumption | decide | omega | exact hz.2.1.1 | exact hz.2.1.2)) zk_X10_valueOn zm_1334 rfl ⟨(Nat.le_of_ble_eq_true rfl), (Nat.le_of_ble_eq_true rfl)⟩ ⟨Nat.zero_le _, Nat.zero_le _⟩ (Nat.le_of_ble_eq_true rfl) dX10_differs_153 (fun r_153 σ h_153 => ?_)
                                obtain ⟨h_153, rfl⟩ := h_153
                                refine zv_aload_n (j := 2) G dX10_differs_156 rfl rfl ?_
                                refine zg_X10_121 G dX10_differs_157 ?_
                                refine zv_iload_n (j := 3) G dX10_differs_160 rfl rfl ?_
                                refine zv_iload (j := 7) G dX10_differs_161 rfl ?_
                                refine zv_iload (j := 5) G dX10_differs_163 rfl ?_
                                refine zv_callSi (as := [za_O 22 100, za_I t, za_I y6_92, za_I y4_79]) G (zc_X10_valueOn l E 100 t y6_92 y4_79 σ (by first | assumption | decide | omega | exact hz.2.1.1 | exact hz.2.1.2) (by first | assumption | decide | omega | exact hz.2.1.1 | exact hz.2.1.2) (by first | assumption | decide | omega | exact hz.2.1.1 | exact hz.2.1.2)) zk_X10_valueOn zm_1334 rfl ⟨(Nat.le_of_ble_eq_true rfl), (Nat.le_of_ble_eq_true rfl)⟩ ⟨Nat.zero_le _, Nat.zero_le _⟩ (Nat.le_of_ble_eq_true rfl) dX10_differs_165 (fun r_165 σ h_165 => ?_)
                                obtain ⟨h_165, rfl⟩ := h_165
                                refine zv_icmp_eq (tgt := 175) G dX10_differs_168 (by decide) (fun c_168 => ?_) (fun c_168 => ?_)
                                · have k_168 := z_ceq c_168 (a := r_153.toInt) (b := r_165.toInt) rfl rfl
                                  refine zv_iconst (v := 0) G dX10_differs_175 (by decide) ?_
                                  refine zv_istore (lv' := [(5, za_I 0), (8, za_I r_122), (7, za_I r_108), (0, za_O 19 93), (1, za_I t), (3, za_I y3_79), (4, za_I y4_79), (6, za_I y6_92)]) G dX10_differs_176 (by decide) rfl ?_
                                  obtain ⟨x_178, e_178⟩ : ∃ y : Int32, y = y6_92 + 1 := ⟨_, rfl⟩
                                  refine zv_iinc (j := 7) (v := x_178) (lv' := [(6, za_I x_178), (5, za_I 0), (8, za_I r_122), (7, za_I r_108), (0, za_O 19 93), (1, za_I t), (3, za_I y3_79), (4, za_I y4_79)]) G dX10_differs_178 rfl (by rw [e_178]; rfl) (by decide) rfl ?_
                                  first | have q_178 := z_inc9 (by omega) e_178 | skip
                                  refine zv_goto (tgt := 92) G dX10_differs_181 (by decide) ?_
                                  refine zv_sub [4, 5, 6, 7, 1, 0] (lv' := [(0, za_O 19 93), (1, za_I t), (3, za_I y3_79), (4, za_I y4_79), (5, za_I 0), (6, za_I x_178)]) rfl ?_
                                  exact ih_92 (0 : Int32) x_178 σ (zq_m hz (by first | decide | omega | (have hL := z_lits; omega))) (Or.inl rfl) (by have := z_inc c_96 e_178; omega) (by have := z_inc9 (by omega) e_178; omega) (z_meas c_96 e_178 hn_92)
                                · have k_168 := z_cne c_168 (a := r_153.toInt) (b := r_165.toInt) rfl rfl
                                  refine zv_iconst (v := 1) G dX10_differs_171 (by decide) ?_
                                  refine zv_goto (tgt := 176) G dX10_differs_172 (by decide) ?_
                                  refine zv_istore (lv' := [(5, za_I 1), (8, za_I r_122), (7, za_I r_108), (0, za_O 19 93), (1, za_I t), (3, za_I y3_79), (4, za_I y4_79), (6, za_I y6_92)]) G dX10_differs_176 (by decide) rfl ?_
                                  obtain ⟨x_178, e_178⟩ : ∃ y : Int32, y = y6_92 + 1 := ⟨_, rfl⟩
                                  refine zv_iinc (j := 7) (v := x_178) (lv' := [(6, za_I x_178), (5, za_I 1), (8, za_I r_122), (7, za_I r_108), (0, za_O 19 93), (1, za_I t), (3, za_I y3_79), (4, za_I y4_79)]) G dX10_differs_178 rfl (by rw [e_178]; rfl) (by decide) rfl ?_
                                  first | have q_178 := z_inc9 (by omega) e_178 | skip
                                  refine zv_goto (tgt := 92) G dX10_differs_181 (by decide) ?_
                                  refine zv_sub [4, 5, 6, 7, 1, 0] (lv' := [(0, za_O 19 93), (1, za_I t), (3, za_I y3_79), (4, za_I y4_79), (5, za_I 1), (6, za_I x_178)]) rfl ?_
                                  exact ih_92 (1 : Int32) x_178 σ (zq_m hz (by first | decide | omega | (have hL := z_lits; omega))) (Or.inr rfl) (by have := z_inc c_96 e_178; omega) (by have := z_inc9 (by omega) e_178; omega) (z_meas c_96 e_178 hn_92)
                    refine zv_istore (lv' := [(6, za_I 0), (5, za_I 0), (0, za_O 19 93), (1, za_I t), (3, za_I y3_79), (4, za_I y4_79)]) G dX10_differs_90 (by decide) rfl ?_
                    refine zv_sub [2, 3, 4, 5, 1, 0] (lv' := [(0, za_O 19 93), (1, za_I t), (3, za_I y3_79), (4, za_I y4_79), (5, za_I 0), (6, za_I 0)]) rfl ?_
                    exact J_92 _ (0 : Int32) (0 : Int32) σ (zq_m hz (by first | decide | omega | (have hL := z_lits; omega))) (Or.inl rfl) (by decide) (by decide) (Nat.lt_succ_self _)
              refine zv_istore (lv' := [(4, za_I 0), (3, za_I 0), (0, za_O 19 93), (1, za_I t), (2, za_I i9)]) G dX10_differs_77 (by decide) rfl ?_
              refine zv_sub [2, 3, 1, 0] (lv' := [(0, za_O 19 93), (1, za_I t), (3, za_I 0), (4, za_I 0)]) rfl ?_
              exact J_79 _ (0 : Int32) (0 : Int32) σ (zq_m hz (by first | decide | omega | (have hL := z_lits; omega))) (by have hL := z_lits; omega) (by decide) (by decide) (Nat.lt_succ_self _)
            · have b_42 : 0 ≤ y3_38.toInt ∧ y3_38.toInt < 2001 := ⟨i3_38, z_ltk c_42 rfl⟩
              have k_42 := z_cnle c_42 (a := 2001) (b := y3_38.toInt) rfl rfl
              refine zv_aload_n (j := 0) G dX10_differs_45 rfl rfl ?_
              refine zg_X10_121 G dX10_differs_46 ?_
              refine zv_iload_n (j := 3) G dX10_differs_49 rfl rfl ?_
              refine zv_aload_n (j := 0) G dX10_differs_50 rfl rfl ?_
              refine zg_X10_154 G dX10_differs_51 ?_
              refine zv_sipush (v := 2001) G dX10_differs_54 (by decide) ?_
              refine zv_iload_n (j := 2) G dX10_differs_57 rfl rfl ?_
              refine zv_imul G dX10_differs_58 ?_
              refine zv_iload_n (j := 3) G dX10_differs_59 rfl rfl ?_
              refine zv_iadd G dX10_differs_60 ?_
              refine zv_iald G (by decide) rfl (z_kx w_19 b_42) dX10_differs_61 ?_
              refine zv_iast G (by decide) rfl (fun _ => rfl) (z_in (by omega) (by omega)) dX10_differs_62 ?_
              refine zv_gen (R9 := zq 12 σ0) (zq_w hz (by first | decide | omega)) (fun σ hz => ?_)
              obtain ⟨x_63, e_63⟩ : ∃ y : Int32, y = y3_38 + 1 := ⟨_, rfl⟩
              refine zv_iinc (j := 3) (v := x_63) (lv' := [(3, za_I x_63), (0, za_O 19 93), (1, za_I t), (2, za_I i9)]) G dX10_differs_63 rfl (by rw [e_63]; rfl) (by decide) rfl ?_
              first | have q_63 := z_inc9 (by omega) e_63 | skip
              refine zv_goto (tgt := 38) G dX10_differs_66 (by decide) ?_
              refine zv_sub [1, 2, 3, 0] (lv' := [(0, za_O 19 93), (1, za_I t), (2, za_I i9), (3, za_I x_63)]) rfl ?_
              exact ih_38 x_63 σ (zq_m hz (by first | decide | omega | (have hL := z_lits; omega))) (by have := z_inc c_42 e_63; omega) (by have := z_inc9 (by omega) e_63; omega) (z_meas c_42 e_63 hn_38)
        refine zv_istore_n (lv' := [(3, za_I 0), (0, za_O 19 93), (1, za_I t), (2, za_I i9)]) G dX10_differs_37 rfl (by decide) rfl ?_
        refine zv_sub [1, 2, 3, 0] (lv' := [(0, za_O 19 93), (1, za_I t), (2, za_I i9), (3, za_I 0)]) rfl ?_
        exact J_38 _ (0 : Int32) σ (zq_m hz (by first | decide | omega | (have hL := z_lits; omega))) (by decide) (by decide) (Nat.lt_succ_self _)
      · have k_30 := z_ceq c_30 (a := (σ.1 189 i9.toNatClampNeg).toInt) (b := 0) rfl rfl
        refine zv_bipush (v := (-2)) G dX10_differs_33 (by decide) ?_
        exact zv_iret G hr dX10_differs_35 (zq_m hz (by first | decide | omega | (have hL := z_lits; omega)))
    · have f_16 := fun q9 => (h_16.2.mpr q9) c_19
      refine zv_iconst (v := (-1)) G dX10_differs_22 (by decide) ?_
      exact zv_iret G hr dX10_differs_23 (zq_m hz (by first | decide | omega | (have hL := z_lits; omega)))
set_option maxHeartbeats 4000000 in
set_option maxRecDepth 100000 in
theorem zc_X10_isSo (l : Launch) (E : za_E) (wh : Int32) (v : Int32) (σ0 : za_S) (hJ : zJ σ0) : zMi l E yX10_isSo cX10_isSo 3 (Option.some Jvm.ClassFile.FieldType.boolean) 6 136 [za_O 19 93, za_I wh, za_I v] σ0 (fun r σ' => (r = 0 ∨ r = 1) ∧ zq 12 σ0 σ') := by
  refine zMi_of [(0, za_O 19 93), (1, za_I wh), (2, za_I v)] (by decide) rfl rfl (Nat.le_of_ble_eq_true rfl) ?_
  intro ho p e s m args below meth c G hr
  refine zv_gen (R9 := zq 12 σ0) (zq_0 hJ) (fun σ hz => ?_)
  refine zv_iload_n (j := 1) G dX10_isSo_0 rfl rfl ?_
  rcases Decidable.em (wh = 0) with q_1_0 | q_1_0
  · refine zv_tabIn (off := 27) (tgt := 28) G dX10_isSo_1 (by rw [q_1_0]; decide) (by rw [q_1_0]; decide) (by rw [q_1_0]; rfl) (by decide) ?_
    refine zv_aload_n (j := 0) G dX10_isSo_28 rfl rfl ?_
    refine zg_X10_191 G dX10_isSo_29 ?_
    refine zv_iload_n (j := 2) G dX10_isSo_32 rfl rfl ?_
    refine zv_icmp_ne (tgt := 40) G dX10_isSo_33 (by decide) (fun c_33 => ?_) (fun c_33 => ?_)
    · have k_33 := z_cne c_33 (a := (σ.1 93 15).toInt) (b := v.toInt) rfl rfl
      refine zv_iconst (v := 0) G dX10_isSo_40 (by decide) ?_
      exact zv_zret G hr dX10_isSo_41 (by decide) ⟨(Or.inl rfl), (zq_m hz (by first | decide | omega | (have hL := z_lits; omega)))⟩
    · have k_33 := z_ceq c_33 (a := (σ.1 93 15).toInt) (b := v.toInt) rfl rfl
      refine zv_iconst (v := 1) G dX10_isSo_36 (by decide) ?_
      refine zv_goto (tgt := 41) G dX10_isSo_37 (by decide) ?_
      exact zv_zret G hr dX10_isSo_41 (by decide) ⟨(Or.inr rfl), (zq_m hz (by first | decide | omega | (have hL := z_lits; omega)))⟩
  rcases Decidable.em (wh = 1) with q_1_1 | q_1_1
  · refine zv_tabIn (off := 41) (tgt := 42) G dX10_isSo_1 (by rw [q_1_1]; decide) (by rw [q_1_1]; decide) (by rw [q_1_1]; rfl) (by decide) ?_
    refine zv_aload_n (j := 0) G dX10_isSo_42 rfl rfl ?_
    refine zg_X10_118 G dX10_isSo_43 ?_
    refine zv_iconst (v := 0) G dX10_isSo_46 (by decide) ?_
    refine zv_aload_n (j := 0) G dX10_isSo_47 rfl rfl ?_
    refine zg_X10_191 G dX10_isSo_48 ?_
    refine zv_aload_n (j := 0) G dX10_isSo_51 rfl rfl ?_
    refine zg_X10_194 G dX10_isSo_52 ?_
    refine zv_callSi (as := [za_O 22 99, za_I 0, za_I (σ.1 93 15), za_I (σ.1 93 16)]) G (zc_X10_valueOn l E 99 (0 : Int32) (σ.1 93 15) (σ.1 93 16) σ (by first | assumption | decide | omega | exact hz.2.1.1 | exact hz.2.1.2) (by first | assumption | decide | omega | exact hz.2.1.1 | exact hz.2.1.2) (by first | assumption | decide | omega | exact hz.2.1.1 | exact hz.2.1.2)) zk_X10_valueOn zm_1334 rfl ⟨(Nat.le_of_ble_eq_true rfl), (Nat.le_of_ble_eq_true rfl)⟩ ⟨Nat.zero_le _, Nat.zero_le _⟩ (Nat.le_of_ble_eq_true rfl) dX10_isSo_55 (fun r_55 σ h_55 => ?_)
    obtain ⟨h_55, rfl⟩ := h_55
    refine zv_bipush (v := 10) G dX10_isSo_58 (by decide) ?_
    refine zv_iload_n (j := 2) G dX10_isSo_60 rfl rfl ?_
    refine zv_imul G dX10_isSo_61 ?_
    refine zv_icmp_lt (tgt := 69) G dX10_isSo_62 (by decide) (fun c_62 => ?_) (fun c_62 => ?_)
    · have k_62 := z_clt c_62 (a := r_55.toInt) (b := (10 * v).toInt) rfl rfl
      refine zv_iconst (v := 0) G dX10_isSo_69 (by decide) ?_
      exact zv_zret G hr dX10_isSo_70 (by decide) ⟨(Or.inl rfl), (zq_m hz (by first | decide | omega | (have hL := z_lits; omega)))⟩
    · have k_62 := z_cnlt c_62 (a := r_55.toInt) (b := (10 * v).toInt) rfl rfl
      refine zv_iconst (v := 1) G dX10_isSo_65 (by decide) ?_
      refine zv_goto (tgt := 70) G dX10_isSo_66 (by decide) ?_
      exact zv_zret G hr dX10_isSo_70 (by decide) ⟨(Or.inr rfl), (zq_m hz (by first | decide | omega | (have hL := z_lits; omega)))⟩
  rcases Decidable.em (wh = 2) with q_1_2 | q_1_2
  · refine zv_tabIn (off := 70) (tgt := 71) G dX10_isSo_1 (by rw [q_1_2]; decide) (by rw [q_1_2]; decide) (by rw [q_1_2]; rfl) (by decide) ?_
    refine zv_bipush (v := 10) G dX10_isSo_71 (by decide) ?_
    refine zv_iload_n (j := 2) G dX10_isSo_73 rfl rfl ?_
    refine zv_imul G dX10_isSo_74 ?_
    refine zv_i2l G dX10_isSo_75 ?_
    refine zv_aload_n (j := 0) G dX10_isSo_76 rfl rfl ?_
    refine zg_X10_194 G dX10_isSo_77 ?_
    refine zv_i2l G dX10_isSo_80 ?_
    refine zv_aload_n (j := 0) G dX10_isSo_81 rfl rfl ?_
    refine zg_X10_118 G dX10_isSo_82 ?_
    refine zv_iconst (v := 0) G dX10_isSo_85 (by decide) ?_
    refine zv_aload_n (j := 0) G dX10_isSo_86 rfl rfl ?_
    refine zg_X10_191 G dX10_isSo_87 ?_
    refine zv_aload_n (j := 0) G dX10_isSo_90 rfl rfl ?_
    refine zg_X10_194 G dX10_isSo_91 ?_
    refine zv_callSi (as := [za_O 22 99, za_I 0, za_I (σ.1 93 15), za_I (σ.1 93 16)]) G (zc_X10_toOf l E 99 (0 : Int32) (σ.1 93 15) (σ.1 93 16) σ (by first | assumption | decide | omega | exact hz.2.1.1 | exact hz.2.1.2) (by first | assumption | decide | omega | exact hz.2.1.1 | exact hz.2.1.2) (by first | assumption | decide | omega | exact hz.2.1.1 | exact hz.2.1.2)) zk_X10_toOf zm_1337 rfl ⟨(Nat.le_of_ble_eq_true rfl), (Nat.le_of_ble_eq_true rfl)⟩ ⟨Nat.zero_le _, Nat.zero_le _⟩ (Nat.le_of_ble_eq_true rfl) dX10_isSo_94 (fun r_94 σ h_94 => ?_)
    obtain ⟨h_94, rfl⟩ := h_94
    refine zv_iconst (v := 1) G dX10_isSo_97 (by decide) ?_
    refine zv_isub G dX10_isSo_98 ?_
    refine zv_i2l G dX10_isSo_99 ?_
    refine zv_callSi (as := [za_L ((10 * v).toInt64), za_L ((σ.1 93 16).toInt64), za_L ((r_94 - 1).toInt64)]) G (zc_X10_in l E ((10 * v).toInt64) ((σ.1 93 16).toInt64) ((r_94 - 1).toInt64) σ ) zk_X10_in zm_1180 rfl ⟨(Nat.le_of_ble_eq_true rfl), (Nat.le_of_ble_eq_true rfl)⟩ ⟨Nat.zero_le _, Nat.zero_le _⟩ (Nat.le_of_ble_eq_true rfl) dX10_isSo_100 (fun r_100 σ h_100 => ?_)
    obtain ⟨h_100, rfl⟩ := h_100
    exact zv_zret G hr dX10_isSo_103 (z_nar h_100.1) ⟨h_100.1, (zq_m hz (by first | decide | omega | (have hL := z_lits; omega)))⟩
  have n_1_0 := lv_neT q_1_0 (a := 0) rfl
  have n_1_1 := lv_neT q_1_1 (a := 1) rfl
  have n_1_2 := lv_neT q_1_2 (a := 2) rfl
  refine zv_tabOut (tgt := 104) G dX10_isSo_1 (by omega) (by decide) ?_
  refine zv_aload_n (j := 0) G dX10_isSo_104 rfl rfl ?_
  refine zg_X10_118 G dX10_isSo_105 ?_
  refine zv_iconst (v := 0) G dX10_isSo_108 (by decide) ?_
  refine zv_aload_n (j := 0) G dX10_isSo_109 rfl rfl ?_
  refine zg_X10_191 G dX10_isSo_110 ?_
  refine zv_aload_n (j := 0) G dX10_isSo_113 rfl rfl ?_
  refine zg_X10_194 G dX10_isSo_114 ?_
  refine zv_callSi (as := [za_O 22 99, za_I 0, za_I (σ.1 93 15), za_I (σ.1 93 16)]) G (zc_X10_refOn l E 99 (0 : Int32) (σ.1 93 15) (σ.1 93 16) σ (by first | assumption | decide | omega | exact hz.2.1.1 | exact hz.2.1.2) (by first | assumption | decide | omega | exact hz.2.1.1 | exact hz.2.1.2) (by first | assumption | decide | omega | exact hz.2.1.1 | exact hz.2.1.2)) zk_X10_refOn zm_1340 rfl ⟨(Nat.le_of_ble_eq_true rfl), (Nat.le_of_ble_eq_true rfl)⟩ ⟨Nat.zero_le _, Nat.zero_le _⟩ (Nat.le_of_ble_eq_true rfl) dX10_isSo_117 (fun r_117 σ h_117 => ?_)
  obtain ⟨h_117, rfl⟩ := h_117
  refine zv_bipush (v := 10) G dX10_isSo_120 (by decide) ?_
  refine zv_icmp_ge (tgt := 129) G dX10_isSo_122 (by decide) (fun c_122 => ?_) (fun c_122 => ?_)
  · have k_122 := z_cle c_122 (a := 10) (b := r_117.toInt) rfl rfl
    refine zv_iconst (v := 0) G dX10_isSo_129 (by decide) ?_
    refine zv_callSi (as := [za_I 0]) G (zc_X10_flag l E (0 : Int32) σ ) zk_X10_flag zm_1351 rfl ⟨(Nat.le_of_ble_eq_true rfl), (Nat.le_of_ble_eq_true rfl)⟩ ⟨Nat.zero_le _, Nat.zero_le _⟩ (Nat.le_of_ble_eq_true rfl) dX10_isSo_130 (fun r_130 σ h_130 => ?_)
    obtain ⟨h_130, rfl⟩ := h_130
    have g_130 := z_flagT h_130.2 (a := 0) rfl
    refine zv_iload_n (j := 2) G dX10_isSo_133 rfl rfl ?_
    refine zv_icmp_ne (tgt := 141) G dX10_isSo_134 (by decide) (fun c_134 => ?_) (fun c_134 => ?_)
    · have k_134 := z_cne c_134 (a := r_130.toInt) (b := v.toInt) rfl rfl
      refine zv_iconst (v := 0) G dX10_isSo_141 (by decide) ?_
      exact zv_zret G hr dX10_isSo_142 (by decide) ⟨(Or.inl rfl), (zq_m hz (by first | decide | omega | (have hL := z_lits; omega)))⟩
    · have k_134 := z_ceq c_134 (a := r_130.toInt) (b := v.toInt) rfl rfl
      refine zv_iconst (v := 1) G dX10_isSo_137 (by decide) ?_
      refine zv_goto (tgt := 142) G dX10_isSo_138 (by decide) ?_
      exact zv_zret G hr dX10_isSo_142 (by decide) ⟨(Or.inr rfl), (zq_m hz (by first | decide | omega | (have hL := z_lits; omega)))⟩
  · have k_122 := z_cnle c_122 (a := 10) (b := r_117.toInt) rfl rfl
    refine zv_iconst (v := 1) G dX10_isSo_125 (by decide) ?_
    refine zv_goto (tgt := 130) G dX10_isSo_126 (by decide) ?_
    refine zv_callSi (as := [za_I 1]) G (zc_X10_flag l E (1 : Int32) σ ) zk_X10_flag zm_1351 rfl ⟨(Nat.le_of_ble_eq_true rfl), (Nat.le_of_ble_eq_true rfl)⟩ ⟨Nat.zero_le _, Nat.zero_le _⟩ (Nat.le_of_ble_eq_true rfl) dX10_isSo_130 (fun r_130 σ h_130 => ?_)
    obtain ⟨h_130, rfl⟩ := h_130
    have g_130 := z_flagT h_130.2 (a := 1) rfl
    refine zv_iload_n (j := 2) G dX10_isSo_133 rfl rfl ?_
    refine zv_icmp_ne (tgt := 141) G dX10_isSo_134 (by decide) (fun c_134 => ?_) (fun c_134 => ?_)
    · have k_134 := z_cne c_134 (a := r_130.toInt) (b := v.toInt) rfl rfl
      refine zv_iconst (v := 0) G dX10_isSo_141 (by decide) ?_
      exact zv_zret G hr dX10_isSo_142 (by decide) ⟨(Or.inl rfl), (zq_m hz (by first | decide | omega | (have hL := z_lits; omega)))⟩
    · have k_134 := z_ceq c_134 (a := r_130.toInt) (b := v.toInt) rfl rfl
      refine zv_iconst (v := 1) G dX10_isSo_137 (by decide) ?_
      refine zv_goto (tgt := 142) G dX10_isSo_138 (by decide) ?_
      exact zv_zret G hr dX10_isSo_142 (by decide) ⟨(Or.inr rfl), (zq_m hz (by first | decide | omega | (have hL := z_lits; omega)))⟩
set_option maxHeartbeats 4000000 in
set_option maxRecDepth 100000 in
theorem zc_X10_fitting (l : Launch) (E : za_E)  (σ0 : za_S) (hJ : zJ σ0) : zMi l E yX10_fitting cX10_fitting 5 (Option.some Jvm.ClassFile.FieldType.int) 7 158 [za_O 19 93] σ0 (fun r σ' => zq 12 σ0 σ') := by
  refine zMi_of [(0, za_O 19 93)] (by decide) rfl rfl (Nat.le_of_ble_eq_true rfl) ?_
  intro ho p e s m args below meth c G hr
  refine zv_gen (R9 := zq 12 σ0) (zq_0 hJ) (fun σ hz => ?_)
  refine zv_iconst (v := 0) G dX10_fitting_0 (by decide) ?_
  refine zv_istore_n (lv' := [(1, za_I 0), (0, za_O 19 93)]) G dX10_fitting_1 rfl (by decide) rfl ?_
  refine zv_iconst (v := 0) G dX10_fitting_2 (by decide) ?_
  have J_4 : ∀ (n : Nat) (y1_4 : Int32) (y2_4 : Int32) (σ : za_S) (hz : zq 12 σ0 σ) (l_4 : y2_4.toInt ≤ 20) (i2_4 : 0 ≤ y2_4.toInt) (hn_4 : (20 - y2_4.toInt).toNat < n), zV p l e (zRm 7 158) s m args below meth c E (za_A E) 5 0 0 (MQ below (va_Qi (fun r σ' => zq 12 σ0 σ') (zB E) (za_A E)) args s 0 0 (za_A E)) 4 [(0, za_O 19 93), (1, za_I y1_4), (2, za_I y2_4)] [] σ := by
    intro n
    induction n with
    | zero => intro y1_4 y2_4 σ hz l_4 i2_4 hn; exact absurd hn (Nat.not_lt_zero _)
    | succ n ih_4 =>
      intro y1_4 y2_4 σ hz l_4 i2_4 hn_4
      refine zv_aload_n (j := 0) G dX10_fitting_4 rfl rfl ?_
      refine zv_aload_n (j := 0) G dX10_fitting_5 rfl rfl ?_
      refine zg_X10_118 G dX10_fitting_6 ?_
      refine zv_iconst (v := 0) G dX10_fitting_9 (by decide) ?_
      refine zv_iload_n (j := 2) G dX10_fitting_10 rfl rfl ?_
      refine zv_callVi (as := [za_O 22 99, za_I 0, za_I y2_4]) G (by decide) rfl rfl (zc_X10_seeks l E 99 (0 : Int32) y2_4 σ (by first | assumption | decide | omega | exact hz.2.1.1 | exact hz.2.1.2) (by first | assumption | decide | omega | exact hz.2.1.1 | exact hz.2.1.2)) zk_X10_seeks zm_1313 rfl ⟨(Nat.le_of_ble_eq_true rfl), (Nat.le_of_ble_eq_true rfl)⟩ ⟨Nat.zero_le _, Nat.zero_le _⟩ (Nat.le_of_ble_eq_true rfl) dX10_fitting_11 (fun r_11 σ h_11 => ?_)
      obtain ⟨h_11, s_11⟩ := h_11
      have n_11 := zq_n hz s_11
      have hz : zq 12 σ0 σ := zq_s hz s_11
      refine zv_if_eq (tgt := 88) G dX10_fitting_14 (by decide) (fun c_14 => ?_) (fun c_14 => ?_)
      · refine zv_iload_n (j := 1) G dX10_fitting_88 rfl rfl ?_
        exact zv_iret G hr dX10_fitting_89 (zq_m hz (by first | decide | omega | (have hL := z_lits; omega)))
      · refine zv_iconst (v := 1) G dX10_fitting_17 (by decide) ?_
        refine zv_istore_n (lv' := [(3, za_I 1), (0, za_O 19 93), (1, za_I y1_4), (2, za_I y2_4)]) G dX10_fitting_18 rfl (by decide) rfl ?_
        refine zv_iconst (v := 0) G dX10_fitting_19 (by decide) ?_
        have J_22 : ∀ (n : Nat) (y3_22 : Int32) (y4_22 : Int32) (σ : za_S) (hz : zq 12 σ0 σ) (i4_22 : 0 ≤ y4_22.toInt) (hn_22 : (2147483648 - y4_22.toInt).toNat < n), zV p l e (zRm 7 158) s m args below meth c E (za_A E) 5 0 0 (MQ below (va_Qi (fun r σ' => zq 12 σ0 σ') (zB E) (za_A E)) args s 0 0 (za_A E)) 22 [(0, za_O 19 93), (1, za_I y1_4), (2, za_I y2_4), (3, za_I y3_22), (4, za_I y4_22)] [] σ := by
          intro n
          induction n with
          | zero => intro y3_22 y4_22 σ hz i4_22 hn; exact absurd hn (Nat.not_lt_zero _)
          | succ n ih_22 =>
            intro y3_22 y4_22 σ hz i4_22 hn_22
            refine zv_iload (j := 4) G dX10_fitting_22 rfl ?_
            refine zv_aload_n (j := 0) G dX10_fitting_24 rfl rfl ?_
            refine zg_X10_406 G dX10_fitting_25 ?_
            refine zv_icmp_ge (tgt := 68) G dX10_fitting_28 (by decide) (fun c_28 => ?_) (fun c_28 => ?_)
            · have k_28 := z_cle c_28 (a := (σ.1 93 32).toInt) (b := y4_22.toInt) rfl rfl
              refine zv_iload_n (j := 1) G dX10_fitting_68 rfl rfl ?_
              refine zv_iload_n (j := 3) G dX10_fitting_69 rfl rfl ?_
              refine zv_if_eq (tgt := 79) G dX10_fitting_70 (by decide) (fun c_70 => ?_) (fun c_70 => ?_)
              · have k_70 := z_ceq c_70 (a := y3_22.toInt) (b := 0) rfl rfl
                refine zv_iconst (v := 0) G dX10_fitting_79 (by decide) ?_
                refine zv_ior G dX10_fitting_80 ?_
                refine zv_top (fun x_81 e_81 => ?_)
                refine zv_istore_n (lv' := [(1, za_I x_81), (0, za_O 19 93), (2, za_I y2_4), (3, za_I y3_22), (4, za_I y4_22)]) G dX10_fitting_81 rfl (by decide) rfl ?_
                obtain ⟨x_82, e_82⟩ : ∃ y : Int32, y = y2_4 + 1 := ⟨_, rfl⟩
                refine zv_iinc (j := 2) (v := x_82) (lv' := [(2, za_I x_82), (1, za_I x_81), (0, za_O 19 93), (3, za_I y3_22), (4, za_I y4_22)]) G dX10_fitting_82 rfl (by rw [e_82]; rfl) (by decide) rfl ?_
                first | have q_82 := z_inc9 (by omega) e_82 | skip
                refine zv_goto (tgt := 4) G dX10_fitting_85 (by decide) ?_
                refine zv_sub [2, 1, 0] (lv' := [(0, za_O 19 93), (1, za_I x_81), (2, za_I x_82)]) rfl ?_
                exact ih_4 x_81 x_82 σ (zq_m hz (by first | decide | omega | (have hL := z_lits; omega))) (by have h8 := zsn_20 hJ (by decide) n_11 c_14; omega) (by have := z_inc9 (by omega) e_82; omega) (by have h8 := zsn_20 hJ (by decide) n_11 c_14; omega)
              · have k_70 := z_cne c_70 (a := y3_22.toInt) (b := 0) rfl rfl
                refine zv_iconst (v := 1) G dX10_fitting_73 (by decide) ?_
                refine zv_iload_n (j := 2) G dX10_fitting_74 rfl rfl ?_
                refine zv_ishl G dX10_fitting_75 ?_
                refine zv_goto (tgt := 80) G dX10_fitting_76 (by decide) ?_
                refine zv_ior G dX10_fitting_80 ?_
                refine zv_top (fun x_81 e_81 => ?_)
                refine zv_istore_n (lv' := [(1, za_I x_81), (0, za_O 19 93), (2, za_I y2_4), (3, za_I y3_22), (4, za_I y4_22)]) G dX10_fitting_81 rfl (by decide) rfl ?_
                obtain ⟨x_82, e_82⟩ : ∃ y : Int32, y = y2_4 + 1 := ⟨_, rfl⟩
                refine zv_iinc (j := 2) (v := x_82) (lv' := [(2, za_I x_82), (1, za_I x_81), (0, za_O 19 93), (3, za_I y3_22), (4, za_I y4_22)]) G dX10_fitting_82 rfl (by rw [e_82]; rfl) (by decide) rfl ?_
                first | have q_82 := z_inc9 (by omega) e_82 | skip
                refine zv_goto (tgt := 4) G dX10_fitting_85 (by decide) ?_
                refine zv_sub [2, 1, 0] (lv' := [(0, za_O 19 93), (1, za_I x_81), (2, za_I x_82)]) rfl ?_
                exact ih_4 x_81 x_82 σ (zq_m hz (by first | decide | omega | (have hL := z_lits; omega))) (by have h8 := zsn_20 hJ (by decide) n_11 c_14; omega) (by have := z_inc9 (by omega) e_82; omega) (by have h8 := zsn_20 hJ (by decide) n_11 c_14; omega)
            · have k_28 := z_cnle c_28 (a := (σ.1 93 32).toInt) (b := y4_22.toInt) rfl rfl
              refine zv_iload_n (j := 3) G dX10_fitting_31 rfl rfl ?_
              refine zv_if_eq (tgt := 60) G dX10_fitting_32 (by decide) (fun c_32 => ?_) (fun c_32 => ?_)
              · have k_32 := z_ceq c_32 (a := y3_22.toInt) (b := 0) rfl rfl
                refine zv_iconst (v := 0) G dX10_fitting_60 (by decide) ?_
                refine zv_istore_n (lv' := [(3, za_I 0), (0, za_O 19 93), (1, za_I y1_4), (2, za_I y2_4), (4, za_I y4_22)]) G dX10_fitting_61 rfl (by decide) rfl ?_
                obtain ⟨x_62, e_62⟩ : ∃ y : Int32, y = y4_22 + 1 := ⟨_, rfl⟩
                refine zv_iinc (j := 4) (v := x_62) (lv' := [(4, za_I x_62), (3, za_I 0), (0, za_O 19 93), (1, za_I y1_4), (2, za_I y2_4)]) G dX10_fitting_62 rfl (by rw [e_62]; rfl) (by decide) rfl ?_
                first | have q_62 := z_inc9 (by omega) e_62 | skip
                refine zv_goto (tgt := 22) G dX10_fitting_65 (by decide) ?_
                refine zv_sub [2, 3, 4, 1, 0] (lv' := [(0, za_O 19 93), (1, za_I y1_4), (2, za_I y2_4), (3, za_I 0), (4, za_I x_62)]) rfl ?_
                exact ih_22 (0 : Int32) x_62 σ (zq_m hz (by first | decide | omega | (have hL := z_lits; omega))) (by have := z_inc c_28 e_62; omega) (z_meas c_28 e_62 hn_22)
              · have k_32 := z_cne c_32 (a := y3_22.toInt) (b := 0) rfl rfl
                refine zv_aload_n (j := 0) G dX10_fitting_35 rfl rfl ?_
                refine zv_aload_n (j := 0) G dX10_fitting_36 rfl rfl ?_
                refine zg_X10_157 G dX10_fitting_37 ?_
                refine zv_iload (j := 4) G dX10_fitting_40 rfl ?_
                refine zv_iald G (by decide) rfl (z_in (by omega) (by have h8 := zq_hm hJ hz; omega)) dX10_fitting_42 ?_
                refine zv_aload_n (j := 0) G dX10_fitting_43 rfl rfl ?_
                refine zg_X10_160 G dX10_fitting_44 ?_
                refine zv_iload (j := 4) G dX10_fitting_47 rfl ?_
                refine zv_iald G (by decide) rfl (z_in (by omega) (by have h8 := zq_hm hJ hz; omega)) dX10_fitting_49 ?_
                refine zv_callVi (as := [za_I (σ.1 191 y4_22.toNatClampNeg), za_I (σ.1 192 y4_22.toNatClampNeg)]) G (by decide) rfl rfl (zc_X10_isSo l E (σ.1 191 y4_22.toNatClampNeg) (σ.1 192 y4_22.toNatClampNeg) σ (zq_J hJ (zq_m hz (by first | decide | omega)))) zk_X10_isSo zm_1693 rfl ⟨(Nat.le_of_ble_eq_true rfl), (Nat.le_of_ble_eq_true rfl)⟩ ⟨Nat.zero_le _, Nat.zero_le _⟩ (Nat.le_of_ble_eq_true rfl) dX10_fitting_50 (fun r_50 σ h_50 => ?_)
                obtain ⟨h_50, hz9⟩ := h_50
                have hz : zq 12 σ0 σ := zq_tr hz hz9
                refine zv_if_eq (tgt := 60) G dX10_fitting_53 (by decide) (fun c_53 => ?_) (fun c_53 => ?_)
                · refine zv_iconst (v := 0) G dX10_fitting_60 (by decide) ?_
                  refine zv_istore_n (lv' := [(3, za_I 0), (0, za_O 19 93), (1, za_I y1_4), (2, za_I y2_4), (4, za_I y4_22)]) G dX10_fitting_61 rfl (by decide) rfl ?_
                  obtain ⟨x_62, e_62⟩ : ∃ y : Int32, y = y4_22 + 1 := ⟨_, rfl⟩
                  refine zv_iinc (j := 4) (v := x_62) (lv' := [(4, za_I x_62), (3, za_I 0), (0, za_O 19 93), (1, za_I y1_4), (2, za_I y2_4)]) G dX10_fitting_62 rfl (by rw [e_62]; rfl) (by decide) rfl ?_
                  first | have q_62 := z_inc9 (by omega) e_62 | skip
                  refine zv_goto (tgt := 22) G dX10_fitting_65 (by decide) ?_
                  refine zv_sub [2, 3, 4, 1, 0] (lv' := [(0, za_O 19 93), (1, za_I y1_4), (2, za_I y2_4), (3, za_I 0), (4, za_I x_62)]) rfl ?_
                  exact ih_22 (0 : Int32) x_62 σ (zq_m hz (by first | decide | omega | (have hL := z_lits; omega))) (by have := z_inc c_28 e_62; omega) (z_meas c_28 e_62 hn_22)
                · refine zv_iconst (v := 1) G dX10_fitting_56 (by decide) ?_
                  refine zv_goto (tgt := 61) G dX10_fitting_57 (by decide) ?_
                  refine zv_istore_n (lv' := [(3, za_I 1), (0, za_O 19 93), (1, za_I y1_4), (2, za_I y2_4), (4, za_I y4_22)]) G dX10_fitting_61 rfl (by decide) rfl ?_
                  obtain ⟨x_62, e_62⟩ : ∃ y : Int32, y = y4_22 + 1 := ⟨_, rfl⟩
                  refine zv_iinc (j := 4) (v := x_62) (lv' := [(4, za_I x_62), (3, za_I 1), (0, za_O 19 93), (1, za_I y1_4), (2, za_I y2_4)]) G dX10_fitting_62 rfl (by rw [e_62]; rfl) (by decide) rfl ?_
                  first | have q_62 := z_inc9 (by omega) e_62 | skip
                  refine zv_goto (tgt := 22) G dX10_fitting_65 (by decide) ?_
                  refine zv_sub [2, 3, 4, 1, 0] (lv' := [(0, za_O 19 93), (1, za_I y1_4), (2, za_I y2_4), (3, za_I 1), (4, za_I x_62)]) rfl ?_
                  exact ih_22 (1 : Int32) x_62 σ (zq_m hz (by first | decide | omega | (have hL := z_lits; omega))) (by have := z_inc c_28 e_62; omega) (z_meas c_28 e_62 hn_22)
        refine zv_istore (lv' := [(4, za_I 0), (3, za_I 1), (0, za_O 19 93), (1, za_I y1_4), (2, za_I y2_4)]) G dX10_fitting_20 (by decide) rfl ?_
        refine zv_sub [2, 3, 4, 1, 0] (lv' := [(0, za_O 19 93), (1, za_I y1_4), (2, za_I y2_4), (3, za_I 1), (4, za_I 0)]) rfl ?_
        exact J_22 _ (1 : Int32) (0 : Int32) σ (zq_m hz (by first | decide | omega | (have hL := z_lits; omega))) (by decide) (Nat.lt_succ_self _)
  refine zv_istore_n (lv' := [(2, za_I 0), (1, za_I 0), (0, za_O 19 93)]) G dX10_fitting_3 rfl (by decide) rfl ?_
  refine zv_sub [2, 1, 0] (lv' := [(0, za_O 19 93), (1, za_I 0), (2, za_I 0)]) rfl ?_
  exact J_4 _ (0 : Int32) (0 : Int32) σ (zq_m hz (by first | decide | omega | (have hL := z_lits; omega))) (by decide) (by decide) (Nat.lt_succ_self _)
set_option maxHeartbeats 4000000 in
set_option maxRecDepth 100000 in
theorem zc_X10_highest (l : Launch) (E : za_E) (a1 : Int32) (σ : za_S)  : zMi l E yX10_highest cX10_highest 1 (Option.some Jvm.ClassFile.FieldType.int) 1 21 [za_I a1] σ (fun r σ' => ((0 ≤ r.toInt ∧ r.toInt ≤ 9) ∧ ((a1.toInt = 3 ∧ r.toInt = 1) ∨ (¬ a1.toInt = 3 ∧ r.toInt = 9))) ∧ σ' = σ) := by
  refine zMi_of [(0, za_I a1)] (by decide) rfl rfl (Nat.le_of_ble_eq_true rfl) ?_
  intro ho p e s m args below meth c G hr
  refine zv_iload_n (j := 0) G dX10_highest_0 rfl rfl ?_
  refine zv_iconst (v := 3) G dX10_highest_1 (by decide) ?_
  refine zv_icmp_ne (tgt := 9) G dX10_highest_2 (by decide) (fun c_2 => ?_) (fun c_2 => ?_)
  · have k_2 := z_cne c_2 (a := a1.toInt) (b := 3) rfl rfl
    refine zv_bipush (v := 9) G dX10_highest_9 (by decide) ?_
    exact zv_iret G hr dX10_highest_11 ⟨⟨by decide, Or.inr ⟨k_2, by decide⟩⟩, rfl⟩
  · have k_2 := z_ceq c_2 (a := a1.toInt) (b := 3) rfl rfl
    refine zv_iconst (v := 1) G dX10_highest_5 (by decide) ?_
    refine zv_goto (tgt := 11) G dX10_highest_6 (by decide) ?_
    exact zv_iret G hr dX10_highest_11 ⟨⟨by decide, Or.inl ⟨k_2, by decide⟩⟩, rfl⟩
set_option maxHeartbeats 4000000 in
set_option maxRecDepth 100000 in
theorem zc_X10_fits (l : Launch) (E : za_E)  (σ0 : za_S) (hJ : zJ σ0) : zMi l E yX10_fits cX10_fits 2 (Option.some Jvm.ClassFile.FieldType.int) 8 182 [za_O 19 93] σ0 (fun r σ' => zq 12 σ0 σ') := by
  refine zMi_of [(0, za_O 19 93)] (by decide) rfl rfl (Nat.le_of_ble_eq_true rfl) ?_
  intro ho p e s m args below meth c G hr
  refine zv_gen (R9 := zq 12 σ0) (zq_0 hJ) (fun σ hz => ?_)
  refine zv_aload_n (j := 0) G dX10_fits_0 rfl rfl ?_
  refine zv_iconst (v := 0) G dX10_fits_1 (by decide) ?_
  refine zp_X10_3 G dX10_fits_2 ?_
  refine zv_gen (R9 := zq 12 σ0) (zq_93 hz (by decide)) (fun σ hz => ?_)
  refine zv_aload_n (j := 0) G dX10_fits_5 rfl rfl ?_
  refine zv_callVi (as := []) G (by decide) rfl rfl (zc_X10_fitting l E  σ (zq_J hJ (zq_m hz (by first | decide | omega)))) zk_X10_fitting zm_1689 rfl ⟨(Nat.le_of_ble_eq_true rfl), (Nat.le_of_ble_eq_true rfl)⟩ ⟨Nat.zero_le _, Nat.zero_le _⟩ (Nat.le_of_ble_eq_true rfl) dX10_fits_6 (fun r_6 σ h_6 => ?_)
  have hz9 := h_6
  have hz : zq 12 σ0 σ := zq_tr hz hz9
  refine zv_istore_n (lv' := [(1, za_I r_6), (0, za_O 19 93)]) G dX10_fits_9 rfl (by decide) rfl ?_
  refine zv_aload_n (j := 1) G dX10_fits_10 rfl rfl ?_
  refine zv_iconst (v := 0) G dX10_fits_11 (by decide) ?_
  refine zp_X10_15 G dX10_fits_12 ?_
  refine zv_gen (R9 := zq 0 σ0) (zq_t0 hz) (fun σ hz => ?_)
  refine zv_aload_n (j := 1) G dX10_fits_15 rfl rfl ?_
  refine zv_iload_n (j := 0) G dX10_fits_16 rfl rfl ?_
  refine zv_callSi (as := [za_I r_6]) G (zc_J6_bitCount_0f7a4 l E r_6 σ ) zk_J6_bitCount_0f7a4 zm_1669 rfl ⟨(Nat.le_of_ble_eq_true rfl), (Nat.le_of_ble_eq_true rfl)⟩ ⟨Nat.zero_le _, Nat.zero_le _⟩ (Nat.le_of_ble_eq_true rfl) dX10_fits_17 (fun r_17 σ h_17 => ?_)
  subst h_17
  refine zv_i2l G dX10_fits_20 ?_
  refine zv_callVv (as := [za_L r_17.toInt64]) G (by decide) rfl rfl (zc_X10_enters l E r_17.toInt64 σ (zq_p hz (by first | decide | omega))) zk_X10_enters zm_1418 rfl ⟨(Nat.le_of_ble_eq_true rfl), (Nat.le_of_ble_eq_true rfl)⟩ ⟨Nat.zero_le _, Nat.zero_le _⟩ (Nat.le_of_ble_eq_true rfl) dX10_fits_21 (fun σ h_21 => ?_)
  have hz : zq 1 σ0 σ := zq_e hz h_21
  refine zv_iload_n (j := 0) G dX10_fits_24 rfl rfl ?_
  exact zv_iret G hr dX10_fits_25 (zq_m hz (by first | decide | omega | (have hL := z_lits; omega)))
set_option maxHeartbeats 4000000 in
set_option maxRecDepth 100000 in
theorem zc_X10_asks (l : Launch) (E : za_E)  (σ0 : za_S) (hJ : zJ σ0) : zMi l E yX10_asks cX10_asks 8 (Option.some Jvm.ClassFile.FieldType.int) 8 182 [za_O 19 93] σ0 (fun r σ' => zq 12 σ0 σ') := by
  refine zMi_of [(0, za_O 19 93)] (by decide) rfl rfl (Nat.le_of_ble_eq_true rfl) ?_
  intro ho p e s m args below meth c G hr
  refine zv_gen (R9 := zq 12 σ0) (zq_0 hJ) (fun σ hz => ?_)
  refine zv_aload_n (j := 0) G dX10_asks_0 rfl rfl ?_
  refine zv_iconst (v := 0) G dX10_asks_1 (by decide) ?_
  refine zp_X10_3 G dX10_asks_2 ?_
  refine zv_gen (R9 := zq 12 σ0) (zq_93 hz (by decide)) (fun σ hz => ?_)
  refine zv_aload_n (j := 0) G dX10_asks_5 rfl rfl ?_
  refine zv_callVi (as := []) G (by decide) rfl rfl (zc_X10_fitting l E  σ (zq_J hJ (zq_m hz (by first | decide | omega)))) zk_X10_fitting zm_1689 rfl ⟨(Nat.le_of_ble_eq_true rfl), (Nat.le_of_ble_eq_true rfl)⟩ ⟨Nat.zero_le _, Nat.zero_le _⟩ (Nat.le_of_ble_eq_true rfl) dX10_asks_6 (fun r_6 σ h_6 => ?_)
  have hz9 := h_6
  have hz : zq 12 σ0 σ := zq_tr hz hz9
  refine zv_istore_n (lv' := [(1, za_I r_6), (0, za_O 19 93)]) G dX10_asks_9 rfl (by decide) rfl ?_
  refine zv_iload_n (j := 0) G dX10_asks_10 rfl rfl ?_
  refine zv_if_ne (tgt := 17) G dX10_asks_11 (by decide) (fun c_11 => ?_) (fun c_11 => ?_)
  · refine zv_iconst (v := (-1)) G dX10_asks_17 (by decide) ?_
    refine zv_istore_n (lv' := [(2, za_I (-1)), (1, za_I r_6), (0, za_O 19 93)]) G dX10_asks_18 rfl (by decide) rfl ?_
    refine zv_ldc_w (v := 1000000) G dX10_asks_19 zm_1701 ?_
    refine zv_istore_n (lv' := [(3, za_I 1000000), (2, za_I (-1)), (1, za_I r_6), (0, za_O 19 93)]) G dX10_asks_22 rfl (by decide) rfl ?_
    refine zv_iconst (v := 0) G dX10_asks_23 (by decide) ?_
    have J_26 : ∀ (n : Nat) (y2_26 : Int32) (y3_26 : Int32) (y4_26 : Int32) (σ : za_S) (hz : zq 12 σ0 σ) (i4_26 : 0 ≤ y4_26.toInt) (u4_26 : y4_26.toInt ≤ 4) (hn_26 : (2147483648 - y4_26.toInt).toNat < n), zV p l e (zRm 8 182) s m args below meth c E (za_A E) 8 0 0 (MQ below (va_Qi (fun r σ' => zq 12 σ0 σ') (zB E) (za_A E)) args s 0 0 (za_A E)) 26 [(0, za_O 19 93), (1, za_I r_6), (2, za_I y2_26), (3, za_I y3_26), (4, za_I y4_26)] [] σ := by
      intro n
      induction n with
      | zero => intro y2_26 y3_26 y4_26 σ hz i4_26 u4_26 hn; exact absurd hn (Nat.not_lt_zero _)
      | succ n ih_26 =>
        intro y2_26 y3_26 y4_26 σ hz i4_26 u4_26 hn_26
        refine zv_iload (j := 4) G dX10_asks_26 rfl ?_
        refine zv_iconst (v := 4) G dX10_asks_28 (by decide) ?_
        refine zv_icmp_ge (tgt := 163) G dX10_asks_29 (by decide) (fun c_29 => ?_) (fun c_29 => ?_)
        · have k_29 := z_cle c_29 (a := 4) (b := y4_26.toInt) rfl rfl
          refine zv_aload_n (j := 0) G dX10_asks_163 rfl rfl ?_
          refine zv_iconst (v := 0) G dX10_asks_164 (by decide) ?_
          refine zp_X10_15 G dX10_asks_165 ?_
          refine zv_gen (R9 := zq 0 σ0) (zq_t0 hz) (fun σ hz => ?_)
          refine zv_aload_n (j := 0) G dX10_asks_168 rfl rfl ?_
          refine zv_iload_n (j := 3) G dX10_asks_169 rfl rfl ?_
          refine zv_i2l G dX10_asks_170 ?_
          refine zv_callVv (as := [za_L y3_26.toInt64]) G (by decide) rfl rfl (zc_X10_enters l E y3_26.toInt64 σ (zq_p hz (by first | decide | omega))) zk_X10_enters zm_1418 rfl ⟨(Nat.le_of_ble_eq_true rfl), (Nat.le_of_ble_eq_true rfl)⟩ ⟨Nat.zero_le _, Nat.zero_le _⟩ (Nat.le_of_ble_eq_true rfl) dX10_asks_171 (fun σ h_171 => ?_)
          have hz : zq 1 σ0 σ := zq_e hz h_171
          refine zv_iload_n (j := 2) G dX10_asks_174 rfl rfl ?_
          exact zv_iret G hr dX10_asks_175 (zq_m hz (by first | decide | omega | (have hL := z_lits; omega)))
        · have b_29 : 0 ≤ y4_26.toInt ∧ y4_26.toInt < 4 := ⟨i4_26, z_ltk c_29 rfl⟩
          have k_29 := z_cnle c_29 (a := 4) (b := y4_26.toInt) rfl rfl
          refine zv_iconst (v := 0) G dX10_asks_32 (by decide) ?_
          have J_35 : ∀ (n : Nat) (y2_35 : Int32) (y3_35 : Int32) (y5_35 : Int32) (σ : za_S) (hz : zq 12 σ0 σ) (l_35 : y5_35.toInt ≤ 10) (i5_35 : 0 ≤ y5_35.toInt) (hn_35 : (10 - y5_35.toInt).toNat < n), zV p l e (zRm 8 182) s m args below meth c E (za_A E) 8 0 0 (MQ below (va_Qi (fun r σ' => zq 12 σ0 σ') (zB E) (za_A E)) args s 0 0 (za_A E)) 35 [(0, za_O 19 93), (1, za_I r_6), (2, za_I y2_35), (3, za_I y3_35), (4, za_I y4_26), (5, za_I y5_35)] [] σ := by
            intro n
            induction n with
            | zero => intro y2_35 y3_35 y5_35 σ hz l_35 i5_35 hn; exact absurd hn (Nat.not_lt_zero _)
            | succ n ih_35 =>
              intro y2_35 y3_35 y5_35 σ hz l_35 i5_35 hn_35
              refine zv_iload (j := 5) G dX10_asks_35 rfl ?_
              refine zv_iload (j := 4) G dX10_asks_37 rfl ?_
              refine zv_callSi (as := [za_I y4_26]) G (zc_X10_highest l E y4_26 σ ) zk_X10_highest zm_1678 rfl ⟨(Nat.le_of_ble_eq_true rfl), (Nat.le_of_ble_eq_true rfl)⟩ ⟨Nat.zero_le _, Nat.zero_le _⟩ (Nat.le_of_ble_eq_true rfl) dX10_asks_39 (fun r_39 σ h_39 => ?_)
              obtain ⟨h_39, rfl⟩ := h_39
              refine zv_icmp_gt (tgt := 157) G dX10_asks_42 (by decide) (fun c_42 => ?_) (fun c_42 => ?_)
              · have k_42 := z_clt c_42 (a := r_39.toInt) (b := y5_35.toInt) rfl rfl
                obtain ⟨x_157, e_157⟩ : ∃ y : Int32, y = y4_26 + 1 := ⟨_, rfl⟩
                refine zv_iinc (j := 4) (v := x_157) (lv' := [(4, za_I x_157), (0, za_O 19 93), (1, za_I r_6), (2, za_I y2_35), (3, za_I y3_35), (5, za_I y5_35)]) G dX10_asks_157 rfl (by rw [e_157]; rfl) (by decide) rfl ?_
                first | have q_157 := z_inc9 (by omega) e_157 | skip
                refine zv_goto (tgt := 26) G dX10_asks_160 (by decide) ?_
                refine zv_sub [1, 2, 3, 4, 0] (lv' := [(0, za_O 19 93), (1, za_I r_6), (2, za_I y2_35), (3, za_I y3_35), (4, za_I x_157)]) rfl ?_
                exact ih_26 y2_35 y3_35 x_157 σ (zq_m hz (by first | decide | omega | (have hL := z_lits; omega))) (by have := z_inc c_29 e_157; omega) (by have := z_inc9 (by omega) e_157; omega) (z_meas c_29 e_157 hn_26)
              · have k_42 := z_cnlt c_42 (a := r_39.toInt) (b := y5_35.toInt) rfl rfl
                refine zv_iconst (v := 0) G dX10_asks_45 (by decide) ?_
                refine zv_istore (lv' := [(6, za_I 0), (0, za_O 19 93), (1, za_I r_6), (2, za_I y2_35), (3, za_I y3_35), (4, za_I y4_26), (5, za_I y5_35)]) G dX10_asks_46 (by decide) rfl ?_
                refine zv_iconst (v := 0) G dX10_asks_48 (by decide) ?_
                have J_51 : ∀ (n : Nat) (y6_51 : Int32) (y7_51 : Int32) (σ : za_S) (hz : zq 12 σ0 σ) (i7_51 : 0 ≤ y7_51.toInt) (u7_51 : y7_51.toInt ≤ 20) (hn_51 : (2147483648 - y7_51.toInt).toNat < n), zV p l e (zRm 8 182) s m args below meth c E (za_A E) 8 0 0 (MQ below (va_Qi (fun r σ' => zq 12 σ0 σ') (zB E) (za_A E)) args s 0 0 (za_A E)) 51 [(0, za_O 19 93), (1, za_I r_6), (2, za_I y2_35), (3, za_I y3_35), (4, za_I y4_26), (5, za_I y5_35), (6, za_I y6_51), (7, za_I y7_51)] [] σ := by
                  intro n
                  induction n with
                  | zero => intro y6_51 y7_51 σ hz i7_51 u7_51 hn; exact absurd hn (Nat.not_lt_zero _)
                  | succ n ih_51 =>
                    intro y6_51 y7_51 σ hz i7_51 u7_51 hn_51
                    refine zv_iload (j := 7) G dX10_asks_51 rfl ?_
                    refine zv_bipush (v := 20) G dX10_asks_53 (by decide) ?_
                    refine zv_icmp_ge (tgt := 111) G dX10_asks_55 (by decide) (fun c_55 => ?_) (fun c_55 => ?_)
                    · have k_55 := z_cle c_55 (a := 20) (b := y7_51.toInt) rfl rfl
                      refine zv_iload (j := 6) G dX10_asks_111 rfl ?_
                      refine zv_iload_n (j := 1) G dX10_asks_113 rfl rfl ?_
                      refine zv_callSi (as := [za_I r_6]) G (zc_J6_bitCount_0f7a4 l E r_6 σ ) zk_J6_bitCount_0f7a4 zm_1669 rfl ⟨(Nat.le_of_ble_eq_true rfl), (Nat.le_of_ble_eq_true rfl)⟩ ⟨Nat.zero_le _, Nat.zero_le _⟩ (Nat.le_of_ble_eq_true rfl) dX10_asks_114 (fun r_114 σ h_114 => ?_)
                      subst h_114
                      refine zv_iload (j := 6) G dX10_asks_117 rfl ?_
                      refine zv_isub G dX10_asks_119 ?_
                      refine zv_mmax G zm_1355 zm_395 zm_147 zm_396 (Nat.le_of_ble_eq_true rfl) (Nat.le_of_ble_eq_true rfl) (Nat.zero_le _) (Nat.zero_le _) dX10_asks_120 ?_
                      refine zv_top (fun x_120 e_120 => ?_)
                      refine zv_istore (lv' := [(7, za_I x_120), (0, za_O 19 93), (1, za_I r_6), (2, za_I y2_35), (3, za_I y3_35), (4, za_I y4_26), (5, za_I y5_35), (6, za_I y6_51)]) G dX10_asks_123 (by decide) rfl ?_
                      refine zv_iload (j := 0) G dX10_asks_125 rfl ?_
                      refine zv_iload_n (j := 4) G dX10_asks_127 rfl rfl ?_
                      refine zv_icmp_ge (tgt := 142) G dX10_asks_128 (by decide) (fun c_128 => ?_) (fun c_128 => ?_)
                      · have k_128 := z_cle c_128 (a := y3_35.toInt) (b := x_120.toInt) rfl rfl
                        refine zv_iload_n (j := 3) G dX10_asks_142 rfl rfl ?_
                        refine zv_istore_n (lv' := [(2, za_I y2_35), (7, za_I x_120), (0, za_O 19 93), (1, za_I r_6), (3, za_I y3_35), (4, za_I y4_26), (5, za_I y5_35), (6, za_I y6_51)]) G dX10_asks_143 rfl (by decide) rfl ?_
                        refine zv_iload_n (j := 4) G dX10_asks_144 rfl rfl ?_
                        refine zv_iload (j := 1) G dX10_asks_145 rfl ?_
                        refine zv_mmin G zm_1354 zm_392 zm_147 zm_393 (Nat.le_of_ble_eq_true rfl) (Nat.le_of_ble_eq_true rfl) (Nat.zero_le _) (Nat.zero_le _) dX10_asks_147 ?_
                        refine zv_top (fun x_147 e_147 => ?_)
                        refine zv_istore_n (lv' := [(3, za_I x_147), (2, za_I y2_35), (7, za_I x_120), (0, za_O 19 93), (1, za_I r_6), (4, za_I y4_26), (5, za_I y5_35), (6, za_I y6_51)]) G dX10_asks_150 rfl (by decide) rfl ?_
                        obtain ⟨x_151, e_151⟩ : ∃ y : Int32, y = y5_35 + 1 := ⟨_, rfl⟩
                        refine zv_iinc (j := 6) (v := x_151) (lv' := [(5, za_I x_151), (3, za_I x_147), (2, za_I y2_35), (7, za_I x_120), (0, za_O 19 93), (1, za_I r_6), (4, za_I y4_26), (6, za_I y6_51)]) G dX10_asks_151 rfl (by rw [e_151]; rfl) (by decide) rfl ?_
                        first | have q_151 := z_inc9 (by omega) e_151 | skip
                        refine zv_goto (tgt := 35) G dX10_asks_154 (by decide) ?_
                        refine zv_sub [4, 5, 2, 1, 6, 0] (lv' := [(0, za_O 19 93), (1, za_I r_6), (2, za_I y2_35), (3, za_I x_147), (4, za_I y4_26), (5, za_I x_151)]) rfl ?_
                        exact ih_35 y2_35 x_147 x_151 σ (zq_m hz (by first | decide | omega | (have hL := z_lits; omega))) (by have hL := z_lits; omega) (by have := z_inc9 (by omega) e_151; omega) (by omega)
                      · have k_128 := z_cnle c_128 (a := y3_35.toInt) (b := x_120.toInt) rfl rfl
                        refine zv_bipush (v := 10) G dX10_asks_131 (by decide) ?_
                        refine zv_iload (j := 5) G dX10_asks_133 rfl ?_
                        refine zv_imul G dX10_asks_135 ?_
                        refine zv_iload (j := 6) G dX10_asks_136 rfl ?_
                        refine zv_iadd G dX10_asks_138 ?_
                        refine zv_goto (tgt := 143) G dX10_asks_139 (by decide) ?_
                        refine zv_top (fun x_143 e_143 => ?_)
                        first | have q_143 := z_addf e_143 (a := (10 * y4_26).toInt) (b := y5_35.toInt) rfl rfl (by omega) (by omega) | skip
                        refine zv_istore_n (lv' := [(2, za_I x_143), (7, za_I x_120), (0, za_O 19 93), (1, za_I r_6), (3, za_I y3_35), (4, za_I y4_26), (5, za_I y5_35), (6, za_I y6_51)]) G dX10_asks_143 rfl (by decide) rfl ?_
                        refine zv_iload_n (j := 4) G dX10_asks_144 rfl rfl ?_
                        refine zv_iload (j := 1) G dX10_asks_145 rfl ?_
                        refine zv_mmin G zm_1354 zm_392 zm_147 zm_393 (Nat.le_of_ble_eq_true rfl) (Nat.le_of_ble_eq_true rfl) (Nat.zero_le _) (Nat.zero_le _) dX10_asks_147 ?_
                        refine zv_top (fun x_147 e_147 => ?_)
                        refine zv_istore_n (lv' := [(3, za_I x_147), (2, za_I x_143), (7, za_I x_120), (0, za_O 19 93), (1, za_I r_6), (4, za_I y4_26), (5, za_I y5_35), (6, za_I y6_51)]) G dX10_asks_150 rfl (by decide) rfl ?_
                        obtain ⟨x_151, e_151⟩ : ∃ y : Int32, y = y5_35 + 1 := ⟨_, rfl⟩
                        refine zv_iinc (j := 6) (v := x_151) (lv' := [(5, za_I x_151), (3, za_I x_147), (2, za_I x_143), (7, za_I x_120), (0, za_O 19 93), (1, za_I r_6), (4, za_I y4_26), (6, za_I y6_51)]) G dX10_asks_151 rfl (by rw [e_151]; rfl) (by decide) rfl ?_
                        first | have q_151 := z_inc9 (by omega) e_151 | skip
                        refine zv_goto (tgt := 35) G dX10_asks_154 (by decide) ?_
                        refine zv_sub [4, 5, 2, 1, 6, 0] (lv' := [(0, za_O 19 93), (1, za_I r_6), (2, za_I x_143), (3, za_I x_147), (4, za_I y4_26), (5, za_I x_151)]) rfl ?_
                        exact ih_35 x_143 x_147 x_151 σ (zq_m hz (by first | decide | omega | (have hL := z_lits; omega))) (by have hL := z_lits; omega) (by have := z_inc9 (by omega) e_151; omega) (by omega)
                    · have b_55 : 0 ≤ y7_51.toInt ∧ y7_51.toInt < 20 := ⟨i7_51, z_ltk c_55 rfl⟩
                      have k_55 := z_cnle c_55 (a := 20) (b := y7_51.toInt) rfl rfl
                      refine zv_iload (j := 6) G dX10_asks_58 rfl ?_
                      refine zv_iload_n (j := 1) G dX10_asks_60 rfl rfl ?_
                      refine zv_iload (j := 7) G dX10_asks_61 rfl ?_
                      refine zv_callSi (as := [za_I r_6, za_I y7_51]) G (zc_X10_has l E r_6 y7_51 σ ) zk_X10_has zm_1702 rfl ⟨(Nat.le_of_ble_eq_true rfl), (Nat.le_of_ble_eq_true rfl)⟩ ⟨Nat.zero_le _, Nat.zero_le _⟩ (Nat.le_of_ble_eq_true rfl) dX10_asks_63 (fun r_63 σ h_63 => ?_)
                      obtain ⟨h_63, rfl⟩ := h_63
                      refine zv_if_eq (tgt := 98) G dX10_asks_66 (by decide) (fun c_66 => ?_) (fun c_66 => ?_)
                      · refine zv_iconst (v := 0) G dX10_asks_98 (by decide) ?_
                        refine zv_callSi (as := [za_I 0]) G (zc_X10_flag l E (0 : Int32) σ ) zk_X10_flag zm_1351 rfl ⟨(Nat.le_of_ble_eq_true rfl), (Nat.le_of_ble_eq_true rfl)⟩ ⟨Nat.zero_le _, Nat.zero_le _⟩ (Nat.le_of_ble_eq_true rfl) dX10_asks_99 (fun r_99 σ h_99 => ?_)
                        obtain ⟨h_99, rfl⟩ := h_99
                        have g_99 := z_flagT h_99.2 (a := 0) rfl
                        refine zv_iadd G dX10_asks_102 ?_
                        refine zv_top (fun x_103 e_103 => ?_)
                        first | have q_103 := z_addf e_103 (a := y6_51.toInt) (b := r_99.toInt) rfl rfl (by omega) (by omega) | skip
                        refine zv_istore (lv' := [(6, za_I x_103), (0, za_O 19 93), (1, za_I r_6), (2, za_I y2_35), (3, za_I y3_35), (4, za_I y4_26), (5, za_I y5_35), (7, za_I y7_51)]) G dX10_asks_103 (by decide) rfl ?_
                        obtain ⟨x_105, e_105⟩ : ∃ y : Int32, y = y7_51 + 1 := ⟨_, rfl⟩
                        refine zv_iinc (j := 7) (v := x_105) (lv' := [(7, za_I x_105), (6, za_I x_103), (0, za_O 19 93), (1, za_I r_6), (2, za_I y2_35), (3, za_I y3_35), (4, za_I y4_26), (5, za_I y5_35)]) G dX10_asks_105 rfl (by rw [e_105]; rfl) (by decide) rfl ?_
                        first | have q_105 := z_inc9 (by omega) e_105 | skip
                        refine zv_goto (tgt := 51) G dX10_asks_108 (by decide) ?_
                        refine zv_sub [2, 3, 4, 5, 6, 7, 1, 0] (lv' := [(0, za_O 19 93), (1, za_I r_6), (2, za_I y2_35), (3, za_I y3_35), (4, za_I y4_26), (5, za_I y5_35), (6, za_I x_103), (7, za_I x_105)]) rfl ?_
                        exact ih_51 x_103 x_105 σ (zq_m hz (by first | decide | omega | (have hL := z_lits; omega))) (by have := z_inc c_55 e_105; omega) (by have := z_inc9 (by omega) e_105; omega) (z_meas c_55 e_105 hn_51)
                      · refine zv_aload_n (j := 0) G dX10_asks_69 rfl rfl ?_
                        refine zv_aload_n (j := 0) G dX10_asks_70 rfl rfl ?_
                        refine zg_X10_118 G dX10_asks_71 ?_
                        refine zv_iconst (v := 0) G dX10_asks_74 (by decide) ?_
                        refine zv_iload (j := 7) G dX10_asks_75 rfl ?_
                        refine zv_callVi (as := [za_O 22 99, za_I 0, za_I y7_51]) G (by decide) rfl rfl (zc_X10_seeks l E 99 (0 : Int32) y7_51 σ (by first | assumption | decide | omega | exact hz.2.1.1 | exact hz.2.1.2) (by first | assumption | decide | omega | exact hz.2.1.1 | exact hz.2.1.2)) zk_X10_seeks zm_1313 rfl ⟨(Nat.le_of_ble_eq_true rfl), (Nat.le_of_ble_eq_true rfl)⟩ ⟨Nat.zero_le _, Nat.zero_le _⟩ (Nat.le_of_ble_eq_true rfl) dX10_asks_77 (fun r_77 σ h_77 => ?_)
                        obtain ⟨h_77, s_77⟩ := h_77
                        have n_77 := zq_n hz s_77
                        have hz : zq 12 σ0 σ := zq_s hz s_77
                        refine zv_if_eq (tgt := 98) G dX10_asks_80 (by decide) (fun c_80 => ?_) (fun c_80 => ?_)
                        · refine zv_iconst (v := 0) G dX10_asks_98 (by decide) ?_
                          refine zv_callSi (as := [za_I 0]) G (zc_X10_flag l E (0 : Int32) σ ) zk_X10_flag zm_1351 rfl ⟨(Nat.le_of_ble_eq_true rfl), (Nat.le_of_ble_eq_true rfl)⟩ ⟨Nat.zero_le _, Nat.zero_le _⟩ (Nat.le_of_ble_eq_true rfl) dX10_asks_99 (fun r_99 σ h_99 => ?_)
                          obtain ⟨h_99, rfl⟩ := h_99
                          have g_99 := z_flagT h_99.2 (a := 0) rfl
                          refine zv_iadd G dX10_asks_102 ?_
                          refine zv_top (fun x_103 e_103 => ?_)
                          first | have q_103 := z_addf e_103 (a := y6_51.toInt) (b := r_99.toInt) rfl rfl (by omega) (by omega) | skip
                          refine zv_istore (lv' := [(6, za_I x_103), (0, za_O 19 93), (1, za_I r_6), (2, za_I y2_35), (3, za_I y3_35), (4, za_I y4_26), (5, za_I y5_35), (7, za_I y7_51)]) G dX10_asks_103 (by decide) rfl ?_
                          obtain ⟨x_105, e_105⟩ : ∃ y : Int32, y = y7_51 + 1 := ⟨_, rfl⟩
                          refine zv_iinc (j := 7) (v := x_105) (lv' := [(7, za_I x_105), (6, za_I x_103), (0, za_O 19 93), (1, za_I r_6), (2, za_I y2_35), (3, za_I y3_35), (4, za_I y4_26), (5, za_I y5_35)]) G dX10_asks_105 rfl (by rw [e_105]; rfl) (by decide) rfl ?_
                          first | have q_105 := z_inc9 (by omega) e_105 | skip
                          refine zv_goto (tgt := 51) G dX10_asks_108 (by decide) ?_
                          refine zv_sub [2, 3, 4, 5, 6, 7, 1, 0] (lv' := [(0, za_O 19 93), (1, za_I r_6), (2, za_I y2_35), (3, za_I y3_35), (4, za_I y4_26), (5, za_I y5_35), (6, za_I x_103), (7, za_I x_105)]) rfl ?_
                          exact ih_51 x_103 x_105 σ (zq_m hz (by first | decide | omega | (have hL := z_lits; omega))) (by have := z_inc c_55 e_105; omega) (by have := z_inc9 (by omega) e_105; omega) (z_meas c_55 e_105 hn_51)
                        · refine zv_aload_n (j := 0) G dX10_asks_83 rfl rfl ?_
                          refine zv_iload (j := 4) G dX10_asks_84 rfl ?_
                          refine zv_iload (j := 5) G dX10_asks_86 rfl ?_
                          refine zv_callVi (as := [za_I y4_26, za_I y5_35]) G (by decide) rfl rfl (zc_X10_isSo l E y4_26 y5_35 σ (zq_J hJ (zq_m hz (by first | decide | omega)))) zk_X10_isSo zm_1693 rfl ⟨(Nat.le_of_ble_eq_true rfl), (Nat.le_of_ble_eq_true rfl)⟩ ⟨Nat.zero_le _, Nat.zero_le _⟩ (Nat.le_of_ble_eq_true rfl) dX10_asks_88 (fun r_88 σ h_88 => ?_)
                          obtain ⟨h_88, hz9⟩ := h_88
                          have hz : zq 12 σ0 σ := zq_tr hz hz9
                          refine zv_if_eq (tgt := 98) G dX10_asks_91 (by decide) (fun c_91 => ?_) (fun c_91 => ?_)
                          · refine zv_iconst (v := 0) G dX10_asks_98 (by decide) ?_
                            refine zv_callSi (as := [za_I 0]) G (zc_X10_flag l E (0 : Int32) σ ) zk_X10_flag zm_1351 rfl ⟨(Nat.le_of_ble_eq_true rfl), (Nat.le_of_ble_eq_true rfl)⟩ ⟨Nat.zero_le _, Nat.zero_le _⟩ (Nat.le_of_ble_eq_true rfl) dX10_asks_99 (fun r_99 σ h_99 => ?_)
                            obtain ⟨h_99, rfl⟩ := h_99
                            have g_99 := z_flagT h_99.2 (a := 0) rfl
                            refine zv_iadd G dX10_asks_102 ?_
                            refine zv_top (fun x_103 e_103 => ?_)
                            first | have q_103 := z_addf e_103 (a := y6_51.toInt) (b := r_99.toInt) rfl rfl (by omega) (by omega) | skip
                            refine zv_istore (lv' := [(6, za_I x_103), (0, za_O 19 93), (1, za_I r_6), (2, za_I y2_35), (3, za_I y3_35), (4, za_I y4_26), (5, za_I y5_35), (7, za_I y7_51)]) G dX10_asks_103 (by decide) rfl ?_
                            obtain ⟨x_105, e_105⟩ : ∃ y : Int32, y = y7_51 + 1 := ⟨_, rfl⟩
                            refine zv_iinc (j := 7) (v := x_105) (lv' := [(7, za_I x_105), (6, za_I x_103), (0, za_O 19 93), (1, za_I r_6), (2, za_I y2_35), (3, za_I y3_35), (4, za_I y4_26), (5, za_I y5_35)]) G dX10_asks_105 rfl (by rw [e_105]; rfl) (by decide) rfl ?_
                            first | have q_105 := z_inc9 (by omega) e_105 | skip
                            refine zv_goto (tgt := 51) G dX10_asks_108 (by decide) ?_
                            refine zv_sub [2, 3, 4, 5, 6, 7, 1, 0] (lv' := [(0, za_O 19 93), (1, za_I r_6), (2, za_I y2_35), (3, za_I y3_35), (4, za_I y4_26), (5, za_I y5_35), (6, za_I x_103), (7, za_I x_105)]) rfl ?_
                            exact ih_51 x_103 x_105 σ (zq_m hz (by first | decide | omega | (have hL := z_lits; omega))) (by have := z_inc c_55 e_105; omega) (by have := z_inc9 (by omega) e_105; omega) (z_meas c_55 e_105 hn_51)
                          · refine zv_iconst (v := 1) G dX10_asks_94 (by decide) ?_
                            refine zv_goto (tgt := 99) G dX10_asks_95 (by decide) ?_
                            refine zv_callSi (as := [za_I 1]) G (zc_X10_flag l E (1 : Int32) σ ) zk_X10_flag zm_1351 rfl ⟨(Nat.le_of_ble_eq_true rfl), (Nat.le_of_ble_eq_true rfl)⟩ ⟨Nat.zero_le _, Nat.zero_le _⟩ (Nat.le_of_ble_eq_true rfl) dX10_asks_99 (fun r_99 σ h_99 => ?_)
                            obtain ⟨h_99, rfl⟩ := h_99
                            have g_99 := z_flagT h_99.2 (a := 1) rfl
                            refine zv_iadd G dX10_asks_102 ?_
                            refine zv_top (fun x_103 e_103 => ?_)
                            first | have q_103 := z_addf e_103 (a := y6_51.toInt) (b := r_99.toInt) rfl rfl (by omega) (by omega) | skip
                            refine zv_istore (lv' := [(6, za_I x_103), (0, za_O 19 93), (1, za_I r_6), (2, za_I y2_35), (3, za_I y3_35), (4, za_I y4_26), (5, za_I y5_35), (7, za_I y7_51)]) G dX10_asks_103 (by decide) rfl ?_
                            obtain ⟨x_105, e_105⟩ : ∃ y : Int32, y = y7_51 + 1 := ⟨_, rfl⟩
                            refine zv_iinc (j := 7) (v := x_105) (lv' := [(7, za_I x_105), (6, za_I x_103), (0, za_O 19 93), (1, za_I r_6), (2, za_I y2_35), (3, za_I y3_35), (4, za_I y4_26), (5, za_I y5_35)]) G dX10_asks_105 rfl (by rw [e_105]; rfl) (by decide) rfl ?_
                            first | have q_105 := z_inc9 (by omega) e_105 | skip
                            refine zv_goto (tgt := 51) G dX10_asks_108 (by decide) ?_
                            refine zv_sub [2, 3, 4, 5, 6, 7, 1, 0] (lv' := [(0, za_O 19 93), (1, za_I r_6), (2, za_I y2_35), (3, za_I y3_35), (4, za_I y4_26), (5, za_I y5_35), (6, za_I x_103), (7, za_I x_105)]) rfl ?_
                            exact ih_51 x_103 x_105 σ (zq_m hz (by first | decide | omega | (have hL := z_lits; omega))) (by have := z_inc c_55 e_105; omega) (by have := z_inc9 (by omega) e_105; omega) (z_meas c_55 e_105 hn_51)
                refine zv_istore (lv' := [(7, za_I 0), (6, za_I 0), (0, za_O 19 93), (1, za_I r_6), (2, za_I y2_35), (3, za_I y3_35), (4, za_I y4_26), (5, za_I y5_35)]) G dX10_asks_49 (by decide) rfl ?_
                refine zv_sub [2, 3, 4, 5, 6, 7, 1, 0] (lv' := [(0, za_O 19 93), (1, za_I r_6), (2, za_I y2_35), (3, za_I y3_35), (4, za_I y4_26), (5, za_I y5_35), (6, za_I 0), (7, za_I 0)]) rfl ?_
                exact J_51 _ (0 : Int32) (0 : Int32) σ (zq_m hz (by first | decide | omega | (have hL := z_lits; omega))) (by decide) (by decide) (Nat.lt_succ_self _)
          refine zv_istore (lv' := [(5, za_I 0), (0, za_O 19 93), (1, za_I r_6), (2, za_I y2_26), (3, za_I y3_26), (4, za_I y4_26)]) G dX10_asks_33 (by decide) rfl ?_
          refine zv_sub [1, 2, 3, 4, 5, 0] (lv' := [(0, za_O 19 93), (1, za_I r_6), (2, za_I y2_26), (3, za_I y3_26), (4, za_I y4_26), (5, za_I 0)]) rfl ?_
          exact J_35 _ y2_26 y3_26 (0 : Int32) σ (zq_m hz (by first | decide | omega | (have hL := z_lits; omega))) (by have hL := z_lits; omega) (by decide) (Nat.lt_succ_self _)
    refine zv_istore (lv' := [(4, za_I 0), (3, za_I 1000000), (2, za_I (-1)), (1, za_I r_6), (0, za_O 19 93)]) G dX10_asks_24 (by decide) rfl ?_
    refine zv_sub [4, 3, 2, 1, 0] (lv' := [(0, za_O 19 93), (1, za_I r_6), (2, za_I (-1)), (3, za_I 1000000), (4, za_I 0)]) rfl ?_
    exact J_26 _ (-1) (1000000 : Int32) (0 : Int32) σ (zq_m hz (by first | decide | omega | (have hL := z_lits; omega))) (by decide) (by decide) (Nat.lt_succ_self _)
  · refine zv_bipush (v := (-2)) G dX10_asks_14 (by decide) ?_
    exact zv_iret G hr dX10_asks_16 (zq_m hz (by first | decide | omega | (have hL := z_lits; omega)))
set_option maxHeartbeats 4000000 in
set_option maxRecDepth 100000 in
theorem zc_X10_count (l : Launch) (E : za_E) (a1 : Int32) (σ0 : za_S) (hJ : zJ σ0) : zMi l E yX10_count cX10_count 5 (Option.some Jvm.ClassFile.FieldType.int) 6 136 [za_O 19 93, za_I a1] σ0 (fun r σ' => zq 12 σ0 σ') := by
  refine zMi_of [(0, za_O 19 93), (1, za_I a1)] (by decide) rfl rfl (Nat.le_of_ble_eq_true rfl) ?_
  intro ho p e s m args below meth c G hr
  refine zv_gen (R9 := zq 12 σ0) (zq_0 hJ) (fun σ hz => ?_)
  refine zv_aload_n (j := 0) G dX10_count_0 rfl rfl ?_
  refine zv_iconst (v := 0) G dX10_count_1 (by decide) ?_
  refine zp_X10_3 G dX10_count_2 ?_
  refine zv_gen (R9 := zq 12 σ0) (zq_93 hz (by decide)) (fun σ hz => ?_)
  refine zv_iconst (v := 0) G dX10_count_5 (by decide) ?_
  refine zv_istore_n (lv' := [(2, za_I 0), (0, za_O 19 93), (1, za_I a1)]) G dX10_count_6 rfl (by decide) rfl ?_
  refine zv_iconst (v := 0) G dX10_count_7 (by decide) ?_
  have J_9 : ∀ (n : Nat) (y2_9 : Int32) (y3_9 : Int32) (σ : za_S) (hz : zq 12 σ0 σ) (i3_9 : 0 ≤ y3_9.toInt) (u3_9 : y3_9.toInt ≤ 10) (hn_9 : (2147483648 - y3_9.toInt).toNat < n), zV p l e (zRm 6 136) s m args below meth c E (za_A E) 5 0 0 (MQ below (va_Qi (fun r σ' => zq 12 σ0 σ') (zB E) (za_A E)) args s 0 0 (za_A E)) 9 [(0, za_O 19 93), (1, za_I a1), (2, za_I y2_9), (3, za_I y3_9)] [] σ := by
    intro n
    induction n with
    | zero => intro y2_9 y3_9 σ hz i3_9 u3_9 hn; exact absurd hn (Nat.not_lt_zero _)
    | succ n ih_9 =>
      intro y2_9 y3_9 σ hz i3_9 u3_9 hn_9
      refine zv_iload_n (j := 3) G dX10_count_9 rfl rfl ?_
      refine zv_bipush (v := 10) G dX10_count_10 (by decide) ?_
      refine zv_icmp_ge (tgt := 78) G dX10_count_12 (by decide) (fun c_12 => ?_) (fun c_12 => ?_)
      · have k_12 := z_cle c_12 (a := 10) (b := y3_9.toInt) rfl rfl
        refine zv_iload_n (j := 1) G dX10_count_78 rfl rfl ?_
        rcases Decidable.em (a1 = 0) with q_79_0 | q_79_0
        · refine zv_tabIn (off := 53) (tgt := 132) G dX10_count_79 (by rw [q_79_0]; decide) (by rw [q_79_0]; decide) (by rw [q_79_0]; rfl) (by decide) ?_
          refine zv_aload_n (j := 0) G dX10_count_132 rfl rfl ?_
          refine zg_X10_118 G dX10_count_133 ?_
          refine zv_iconst (v := 0) G dX10_count_136 (by decide) ?_
          refine zv_callSi (as := [za_O 22 99, za_I 0]) G (zc_X10_rowsOf l E 99 (0 : Int32) σ (by first | assumption | decide | omega | exact hz.2.1.1 | exact hz.2.1.2)) zk_X10_rowsOf zm_1348 rfl ⟨(Nat.le_of_ble_eq_true rfl), (Nat.le_of_ble_eq_true rfl)⟩ ⟨Nat.zero_le _, Nat.zero_le _⟩ (Nat.le_of_ble_eq_true rfl) dX10_count_137 (fun r_137 σ h_137 => ?_)
          obtain ⟨h_137, rfl⟩ := h_137
          exact zv_iret G hr dX10_count_140 (zq_m hz (by first | decide | omega | (have hL := z_lits; omega)))
        rcases Decidable.em (a1 = 1) with q_79_1 | q_79_1
        · refine zv_tabIn (off := 62) (tgt := 141) G dX10_count_79 (by rw [q_79_1]; decide) (by rw [q_79_1]; decide) (by rw [q_79_1]; rfl) (by decide) ?_
          refine zv_aload_n (j := 0) G dX10_count_141 rfl rfl ?_
          refine zg_X10_118 G dX10_count_142 ?_
          refine zv_iconst (v := 1) G dX10_count_145 (by decide) ?_
          refine zv_callSi (as := [za_O 22 99, za_I 1]) G (zc_X10_rowsOf l E 99 (1 : Int32) σ (by first | assumption | decide | omega | exact hz.2.1.1 | exact hz.2.1.2)) zk_X10_rowsOf zm_1348 rfl ⟨(Nat.le_of_ble_eq_true rfl), (Nat.le_of_ble_eq_true rfl)⟩ ⟨Nat.zero_le _, Nat.zero_le _⟩ (Nat.le_of_ble_eq_true rfl) dX10_count_146 (fun r_146 σ h_146 => ?_)
          obtain ⟨h_146, rfl⟩ := h_146
          exact zv_iret G hr dX10_count_149 (zq_m hz (by first | decide | omega | (have hL := z_lits; omega)))
        rcases Decidable.em (a1 = 2) with q_79_2 | q_79_2
        · refine zv_tabIn (off := 71) (tgt := 150) G dX10_count_79 (by rw [q_79_2]; decide) (by rw [q_79_2]; decide) (by rw [q_79_2]; rfl) (by decide) ?_
          refine zv_aload_n (j := 0) G dX10_count_150 rfl rfl ?_
          refine zg_X10_118 G dX10_count_151 ?_
          refine zv_sipush (v := 2000) G dX10_count_154 (by decide) ?_
          refine zv_iald G (by decide) rfl (z_in (by decide) (by decide)) dX10_count_157 ?_
          exact zv_iret G hr dX10_count_158 (zq_m hz (by first | decide | omega | (have hL := z_lits; omega)))
        rcases Decidable.em (a1 = 3) with q_79_3 | q_79_3
        · refine zv_tabIn (off := 80) (tgt := 159) G dX10_count_79 (by rw [q_79_3]; decide) (by rw [q_79_3]; decide) (by rw [q_79_3]; rfl) (by decide) ?_
          refine zv_aload_n (j := 0) G dX10_count_159 rfl rfl ?_
          refine zg_X10_118 G dX10_count_160 ?_
          refine zv_iconst (v := 0) G dX10_count_163 (by decide) ?_
          refine zv_callSi (as := [za_O 22 99, za_I 0]) G (zc_X10_daysOf l E 99 (0 : Int32) σ (by first | assumption | decide | omega | exact hz.2.1.1 | exact hz.2.1.2)) zk_X10_daysOf zm_1560 rfl ⟨(Nat.le_of_ble_eq_true rfl), (Nat.le_of_ble_eq_true rfl)⟩ ⟨Nat.zero_le _, Nat.zero_le _⟩ (Nat.le_of_ble_eq_true rfl) dX10_count_164 (fun r_164 σ h_164 => ?_)
          subst h_164
          exact zv_iret G hr dX10_count_167 (zq_m hz (by first | decide | omega | (have hL := z_lits; omega)))
        rcases Decidable.em (a1 = 4) with q_79_4 | q_79_4
        · refine zv_tabIn (off := 89) (tgt := 168) G dX10_count_79 (by rw [q_79_4]; decide) (by rw [q_79_4]; decide) (by rw [q_79_4]; rfl) (by decide) ?_
          refine zv_aload_n (j := 0) G dX10_count_168 rfl rfl ?_
          refine zg_X10_118 G dX10_count_169 ?_
          refine zv_iconst (v := 1) G dX10_count_172 (by decide) ?_
          refine zv_callSi (as := [za_O 22 99, za_I 1]) G (zc_X10_daysOf l E 99 (1 : Int32) σ (by first | assumption | decide | omega | exact hz.2.1.1 | exact hz.2.1.2)) zk_X10_daysOf zm_1560 rfl ⟨(Nat.le_of_ble_eq_true rfl), (Nat.le_of_ble_eq_true rfl)⟩ ⟨Nat.zero_le _, Nat.zero_le _⟩ (Nat.le_of_ble_eq_true rfl) dX10_count_173 (fun r_173 σ h_173 => ?_)
          subst h_173
          exact zv_iret G hr dX10_count_176 (zq_m hz (by first | decide | omega | (have hL := z_lits; omega)))
        rcases Decidable.em (a1 = 5) with q_79_5 | q_79_5
        · refine zv_tabIn (off := 98) (tgt := 177) G dX10_count_79 (by rw [q_79_5]; decide) (by rw [q_79_5]; decide) (by rw [q_79_5]; rfl) (by decide) ?_
          refine zv_iload_n (j := 2) G dX10_count_177 rfl rfl ?_
          exact zv_iret G hr dX10_count_178 (zq_m hz (by first | decide | omega | (have hL := z_lits; omega)))
        rcases Decidable.em (a1 = 6) with q_79_6 | q_79_6
        · refine zv_tabIn (off := 100) (tgt := 179) G dX10_count_79 (by rw [q_79_6]; decide) (by rw [q_79_6]; decide) (by rw [q_79_6]; rfl) (by decide) ?_
          refine zv_aload_n (j := 0) G dX10_count_179 rfl rfl ?_
          refine zg_X10_406 G dX10_count_180 ?_
          exact zv_iret G hr dX10_count_183 (zq_m hz (by first | decide | omega | (have hL := z_lits; omega)))
        rcases Decidable.em (a1 = 7) with q_79_7 | q_79_7
        · refine zv_tabIn (off := 105) (tgt := 184) G dX10_count_79 (by rw [q_79_7]; decide) (by rw [q_79_7]; decide) (by rw [q_79_7]; rfl) (by decide) ?_
          refine zv_aload_n (j := 0) G dX10_count_184 rfl rfl ?_
          refine zg_X10_205 G dX10_count_185 ?_
          exact zv_iret G hr dX10_count_188 (zq_m hz (by first | decide | omega | (have hL := z_lits; omega)))
        rcases Decidable.em (a1 = 8) with q_79_8 | q_79_8
        · refine zv_tabIn (off := 110) (tgt := 189) G dX10_count_79 (by rw [q_79_8]; decide) (by rw [q_79_8]; decide) (by rw [q_79_8]; rfl) (by decide) ?_
          refine zv_aload_n (j := 0) G dX10_count_189 rfl rfl ?_
          refine zg_X10_15 G dX10_count_190 ?_
          exact zv_iret G hr dX10_count_193 (zq_m hz (by first | decide | omega | (have hL := z_lits; omega)))
        rcases Decidable.em (a1 = 9) with q_79_9 | q_79_9
        · refine zv_tabIn (off := 115) (tgt := 194) G dX10_count_79 (by rw [q_79_9]; decide) (by rw [q_79_9]; decide) (by rw [q_79_9]; rfl) (by decide) ?_
          refine zv_aload_n (j := 0) G dX10_count_194 rfl rfl ?_
          refine zg_X10_18 G dX10_count_195 ?_
          exact zv_iret G hr dX10_count_198 (zq_m hz (by first | decide | omega | (have hL := z_lits; omega)))
        have n_79_0 := lv_neT q_79_0 (a := 0) rfl
        have n_79_1 := lv_neT q_79_1 (a := 1) rfl
        have n_79_2 := lv_neT q_79_2 (a := 2) rfl
        have n_79_3 := lv_neT q_79_3 (a := 3) rfl
        have n_79_4 := lv_neT q_79_4 (a := 4) rfl
        have n_79_5 := lv_neT q_79_5 (a := 5) rfl
        have n_79_6 := lv_neT q_79_6 (a := 6) rfl
        have n_79_7 := lv_neT q_79_7 (a := 7) rfl
        have n_79_8 := lv_neT q_79_8 (a := 8) rfl
        have n_79_9 := lv_neT q_79_9 (a := 9) rfl
        refine zv_tabOut (tgt := 199) G dX10_count_79 (by omega) (by decide) ?_
        refine zv_bipush (v := (-100)) G dX10_count_199 (by decide) ?_
        exact zv_iret G hr dX10_count_201 (zq_m hz (by first | decide | omega | (have hL := z_lits; omega)))
      · have b_12 : 0 ≤ y3_9.toInt ∧ y3_9.toInt < 10 := ⟨i3_9, z_ltk c_12 rfl⟩
        have k_12 := z_cnle c_12 (a := 10) (b := y3_9.toInt) rfl rfl
        refine zv_iconst (v := 0) G dX10_count_15 (by decide) ?_
        have J_18 : ∀ (n : Nat) (y2_18 : Int32) (y4_18 : Int32) (σ : za_S) (hz : zq 12 σ0 σ) (i4_18 : 0 ≤ y4_18.toInt) (u4_18 : y4_18.toInt ≤ 100) (hn_18 : (2147483648 - y4_18.toInt).toNat < n), zV p l e (zRm 6 136) s m args below meth c E (za_A E) 5 0 0 (MQ below (va_Qi (fun r σ' => zq 12 σ0 σ') (zB E) (za_A E)) args s 0 0 (za_A E)) 18 [(0, za_O 19 93), (1, za_I a1), (2, za_I y2_18), (3, za_I y3_9), (4, za_I y4_18)] [] σ := by
          intro n
          induction n with
          | zero => intro y2_18 y4_18 σ hz i4_18 u4_18 hn; exact absurd hn (Nat.not_lt_zero _)
          | succ n ih_18 =>
            intro y2_18 y4_18 σ hz i4_18 u4_18 hn_18
            refine zv_iload (j := 4) G dX10_count_18 rfl ?_
            refine zv_bipush (v := 100) G dX10_count_20 (by decide) ?_
            refine zv_icmp_ge (tgt := 72) G dX10_count_22 (by decide) (fun c_22 => ?_) (fun c_22 => ?_)
            · have k_22 := z_cle c_22 (a := 100) (b := y4_18.toInt) rfl rfl
              obtain ⟨x_72, e_72⟩ : ∃ y : Int32, y = y3_9 + 1 := ⟨_, rfl⟩
              refine zv_iinc (j := 3) (v := x_72) (lv' := [(3, za_I x_72), (0, za_O 19 93), (1, za_I a1), (2, za_I y2_18), (4, za_I y4_18)]) G dX10_count_72 rfl (by rw [e_72]; rfl) (by decide) rfl ?_
              first | have q_72 := z_inc9 (by omega) e_72 | skip
              refine zv_goto (tgt := 9) G dX10_count_75 (by decide) ?_
              refine zv_sub [1, 2, 3, 0] (lv' := [(0, za_O 19 93), (1, za_I a1), (2, za_I y2_18), (3, za_I x_72)]) rfl ?_
              exact ih_9 y2_18 x_72 σ (zq_m hz (by first | decide | omega | (have hL := z_lits; omega))) (by have := z_inc c_12 e_72; omega) (by have := z_inc9 (by omega) e_72; omega) (z_meas c_12 e_72 hn_9)
            · have b_22 : 0 ≤ y4_18.toInt ∧ y4_18.toInt < 100 := ⟨i4_18, z_ltk c_22 rfl⟩
              have k_22 := z_cnle c_22 (a := 100) (b := y4_18.toInt) rfl rfl
              refine zv_iload_n (j := 2) G dX10_count_25 rfl rfl ?_
              refine zv_aload_n (j := 0) G dX10_count_26 rfl rfl ?_
              refine zg_X10_118 G dX10_count_27 ?_
              refine zv_iconst (v := 0) G dX10_count_30 (by decide) ?_
              refine zv_iload_n (j := 3) G dX10_count_31 rfl rfl ?_
              refine zv_iload (j := 4) G dX10_count_32 rfl ?_
              refine zv_callSi (as := [za_O 22 99, za_I 0, za_I y3_9, za_I y4_18]) G (zc_X10_begins l E 99 (0 : Int32) y3_9 y4_18 σ (by first | assumption | decide | omega | exact hz.2.1.1 | exact hz.2.1.2) (by first | assumption | decide | omega | exact hz.2.1.1 | exact hz.2.1.2)) zk_X10_begins zm_1317 rfl ⟨(Nat.le_of_ble_eq_true rfl), (Nat.le_of_ble_eq_true rfl)⟩ ⟨Nat.zero_le _, Nat.zero_le _⟩ (Nat.le_of_ble_eq_true rfl) dX10_count_34 (fun r_34 σ h_34 => ?_)
              obtain ⟨h_34, rfl⟩ := h_34
              refine zv_if_eq (tgt := 60) G dX10_count_37 (by decide) (fun c_37 => ?_) (fun c_37 => ?_)
              · have f_34 := fun q9 => (h_34.2.mpr q9) c_37
                refine zv_iconst (v := 0) G dX10_count_60 (by decide) ?_
                refine zv_callSi (as := [za_I 0]) G (zc_X10_flag l E (0 : Int32) σ ) zk_X10_flag zm_1351 rfl ⟨(Nat.le_of_ble_eq_true rfl), (Nat.le_of_ble_eq_true rfl)⟩ ⟨Nat.zero_le _, Nat.zero_le _⟩ (Nat.le_of_ble_eq_true rfl) dX10_count_61 (fun r_61 σ h_61 => ?_)
                obtain ⟨h_61, rfl⟩ := h_61
                have g_61 := z_flagT h_61.2 (a := 0) rfl
                refine zv_iadd G dX10_count_64 ?_
                refine zv_top (fun x_65 e_65 => ?_)
                first | have q_65 := z_addf e_65 (a := y2_18.toInt) (b := r_61.toInt) rfl rfl (by omega) (by omega) | skip
                refine zv_istore_n (lv' := [(2, za_I x_65), (0, za_O 19 93), (1, za_I a1), (3, za_I y3_9), (4, za_I y4_18)]) G dX10_count_65 rfl (by decide) rfl ?_
                obtain ⟨x_66, e_66⟩ : ∃ y : Int32, y = y4_18 + 1 := ⟨_, rfl⟩
                refine zv_iinc (j := 4) (v := x_66) (lv' := [(4, za_I x_66), (2, za_I x_65), (0, za_O 19 93), (1, za_I a1), (3, za_I y3_9)]) G dX10_count_66 rfl (by rw [e_66]; rfl) (by decide) rfl ?_
                first | have q_66 := z_inc9 (by omega) e_66 | skip
                refine zv_goto (tgt := 18) G dX10_count_69 (by decide) ?_
                refine zv_sub [2, 3, 1, 4, 0] (lv' := [(0, za_O 19 93), (1, za_I a1), (2, za_I x_65), (3, za_I y3_9), (4, za_I x_66)]) rfl ?_
                exact ih_18 x_65 x_66 σ (zq_m hz (by first | decide | omega | (have hL := z_lits; omega))) (by have := z_inc c_22 e_66; omega) (by have := z_inc9 (by omega) e_66; omega) (z_meas c_22 e_66 hn_18)
              · have t_34 := h_34.2.mp c_37
                refine zv_aload_n (j := 0) G dX10_count_40 rfl rfl ?_
                refine zg_X10_118 G dX10_count_41 ?_
                refine zv_iconst (v := 0) G dX10_count_44 (by decide) ?_
                refine zv_iload_n (j := 3) G dX10_count_45 rfl rfl ?_
                refine zv_iload (j := 4) G dX10_count_46 rfl ?_
                refine zv_callSi (as := [za_O 22 99, za_I 0, za_I y3_9, za_I y4_18]) G (zc_X10_refOn l E 99 (0 : Int32) y3_9 y4_18 σ (by first | assumption | decide | omega | exact hz.2.1.1 | exact hz.2.1.2) (by first | assumption | decide | omega | exact hz.2.1.1 | exact hz.2.1.2) (by first | assumption | decide | omega | exact hz.2.1.1 | exact hz.2.1.2)) zk_X10_refOn zm_1340 rfl ⟨(Nat.le_of_ble_eq_true rfl), (Nat.le_of_ble_eq_true rfl)⟩ ⟨Nat.zero_le _, Nat.zero_le _⟩ (Nat.le_of_ble_eq_true rfl) dX10_count_48 (fun r_48 σ h_48 => ?_)
                obtain ⟨h_48, rfl⟩ := h_48
                refine zv_bipush (v := 10) G dX10_count_51 (by decide) ?_
                refine zv_icmp_ge (tgt := 60) G dX10_count_53 (by decide) (fun c_53 => ?_) (fun c_53 => ?_)
                · have k_53 := z_cle c_53 (a := 10) (b := r_48.toInt) rfl rfl
                  refine zv_iconst (v := 0) G dX10_count_60 (by decide) ?_
                  refine zv_callSi (as := [za_I 0]) G (zc_X10_flag l E (0 : Int32) σ ) zk_X10_flag zm_1351 rfl ⟨(Nat.le_of_ble_eq_true rfl), (Nat.le_of_ble_eq_true rfl)⟩ ⟨Nat.zero_le _, Nat.zero_le _⟩ (Nat.le_of_ble_eq_true rfl) dX10_count_61 (fun r_61 σ h_61 => ?_)
                  obtain ⟨h_61, rfl⟩ := h_61
                  have g_61 := z_flagT h_61.2 (a := 0) rfl
                  refine zv_iadd G dX10_count_64 ?_
                  refine zv_top (fun x_65 e_65 => ?_)
                  first | have q_65 := z_addf e_65 (a := y2_18.toInt) (b := r_61.toInt) rfl rfl (by omega) (by omega) | skip
                  refine zv_istore_n (lv' := [(2, za_I x_65), (0, za_O 19 93), (1, za_I a1), (3, za_I y3_9), (4, za_I y4_18)]) G dX10_count_65 rfl (by decide) rfl ?_
                  obtain ⟨x_66, e_66⟩ : ∃ y : Int32, y = y4_18 + 1 := ⟨_, rfl⟩
                  refine zv_iinc (j := 4) (v := x_66) (lv' := [(4, za_I x_66), (2, za_I x_65), (0, za_O 19 93), (1, za_I a1), (3, za_I y3_9)]) G dX10_count_66 rfl (by rw [e_66]; rfl) (by decide) rfl ?_
                  first | have q_66 := z_inc9 (by omega) e_66 | skip
                  refine zv_goto (tgt := 18) G dX10_count_69 (by decide) ?_
                  refine zv_sub [2, 3, 1, 4, 0] (lv' := [(0, za_O 19 93), (1, za_I a1), (2, za_I x_65), (3, za_I y3_9), (4, za_I x_66)]) rfl ?_
                  exact ih_18 x_65 x_66 σ (zq_m hz (by first | decide | omega | (have hL := z_lits; omega))) (by have := z_inc c_22 e_66; omega) (by have := z_inc9 (by omega) e_66; omega) (z_meas c_22 e_66 hn_18)
                · have k_53 := z_cnle c_53 (a := 10) (b := r_48.toInt) rfl rfl
                  refine zv_iconst (v := 1) G dX10_count_56 (by decide) ?_
                  refine zv_goto (tgt := 61) G dX10_count_57 (by decide) ?_
                  refine zv_callSi (as := [za_I 1]) G (zc_X10_flag l E (1 : Int32) σ ) zk_X10_flag zm_1351 rfl ⟨(Nat.le_of_ble_eq_true rfl), (Nat.le_of_ble_eq_true rfl)⟩ ⟨Nat.zero_le _, Nat.zero_le _⟩ (Nat.le_of_ble_eq_true rfl) dX10_count_61 (fun r_61 σ h_61 => ?_)
                  obtain ⟨h_61, rfl⟩ := h_61
                  have g_61 := z_flagT h_61.2 (a := 1) rfl
                  refine zv_iadd G dX10_count_64 ?_
                  refine zv_top (fun x_65 e_65 => ?_)
                  first | have q_65 := z_addf e_65 (a := y2_18.toInt) (b := r_61.toInt) rfl rfl (by omega) (by omega) | skip
                  refine zv_istore_n (lv' := [(2, za_I x_65), (0, za_O 19 93), (1, za_I a1), (3, za_I y3_9), (4, za_I y4_18)]) G dX10_count_65 rfl (by decide) rfl ?_
                  obtain ⟨x_66, e_66⟩ : ∃ y : Int32, y = y4_18 + 1 := ⟨_, rfl⟩
                  refine zv_iinc (j := 4) (v := x_66) (lv' := [(4, za_I x_66), (2, za_I x_65), (0, za_O 19 93), (1, za_I a1), (3, za_I y3_9)]) G dX10_count_66 rfl (by rw [e_66]; rfl) (by decide) rfl ?_
                  first | have q_66 := z_inc9 (by omega) e_66 | skip
                  refine zv_goto (tgt := 18) G dX10_count_69 (by decide) ?_
                  refine zv_sub [2, 3, 1, 4, 0] (lv' := [(0, za_O 19 93), (1, za_I a1), (2, za_I x_65), (3, za_I y3_9), (4, za_I x_66)]) rfl ?_
                  exact ih_18 x_65 x_66 σ (zq_m hz (by first | decide | omega | (have hL := z_lits; omega))) (by have := z_inc c_22 e_66; omega) (by have := z_inc9 (by omega) e_66; omega) (z_meas c_22 e_66 hn_18)
        refine zv_istore (lv' := [(4, za_I 0), (0, za_O 19 93), (1, za_I a1), (2, za_I y2_9), (3, za_I y3_9)]) G dX10_count_16 (by decide) rfl ?_
        refine zv_sub [1, 2, 3, 4, 0] (lv' := [(0, za_O 19 93), (1, za_I a1), (2, za_I y2_9), (3, za_I y3_9), (4, za_I 0)]) rfl ?_
        exact J_18 _ y2_9 (0 : Int32) σ (zq_m hz (by first | decide | omega | (have hL := z_lits; omega))) (by decide) (by decide) (Nat.lt_succ_self _)
  refine zv_istore_n (lv' := [(3, za_I 0), (2, za_I 0), (0, za_O 19 93), (1, za_I a1)]) G dX10_count_8 rfl (by decide) rfl ?_
  refine zv_sub [2, 3, 1, 0] (lv' := [(0, za_O 19 93), (1, za_I a1), (2, za_I 0), (3, za_I 0)]) rfl ?_
  exact J_9 _ (0 : Int32) (0 : Int32) σ (zq_m hz (by first | decide | omega | (have hL := z_lits; omega))) (by decide) (by decide) (Nat.lt_succ_self _)
set_option maxHeartbeats 4000000 in
set_option maxRecDepth 100000 in
theorem zc_X10_row (l : Launch) (E : za_E) (a1 : Int32) (σ0 : za_S) (hJ : zJ σ0) : zMl l E yX10_row cX10_row 2 (Option.some Jvm.ClassFile.FieldType.long) 2 46 [za_O 19 93, za_I a1] σ0 (fun r σ' => zq 12 σ0 σ') := by
  refine zMl_of [(0, za_O 19 93), (1, za_I a1)] (by decide) rfl rfl (Nat.le_of_ble_eq_true rfl) ?_
  intro ho p e s m args below meth c G hr
  refine zv_gen (R9 := zq 12 σ0) (zq_0 hJ) (fun σ hz => ?_)
  refine zv_aload_n (j := 0) G dX10_row_0 rfl rfl ?_
  refine zv_iconst (v := 0) G dX10_row_1 (by decide) ?_
  refine zp_X10_3 G dX10_row_2 ?_
  refine zv_gen (R9 := zq 12 σ0) (zq_93 hz (by decide)) (fun σ hz => ?_)
  refine zv_iload_n (j := 1) G dX10_row_5 rfl rfl ?_
  refine zv_i2l G dX10_row_6 ?_
  refine zv_lconst (v := 0) G dX10_row_7 (by decide) ?_
  refine zv_aload_n (j := 0) G dX10_row_8 rfl rfl ?_
  refine zg_X10_15 G dX10_row_9 ?_
  refine zv_iconst (v := 1) G dX10_row_12 (by decide) ?_
  refine zv_isub G dX10_row_13 ?_
  refine zv_i2l G dX10_row_14 ?_
  refine zv_callSi (as := [za_L a1.toInt64, za_L 0, za_L (((σ.1 93 1) - 1).toInt64)]) G (zc_X10_in l E a1.toInt64 0 (((σ.1 93 1) - 1).toInt64) σ ) zk_X10_in zm_1180 rfl ⟨(Nat.le_of_ble_eq_true rfl), (Nat.le_of_ble_eq_true rfl)⟩ ⟨Nat.zero_le _, Nat.zero_le _⟩ (Nat.le_of_ble_eq_true rfl) dX10_row_15 (fun r_15 σ h_15 => ?_)
  obtain ⟨h_15, rfl⟩ := h_15
  refine zv_if_ne (tgt := 28) G dX10_row_18 (by decide) (fun c_18 => ?_) (fun c_18 => ?_)
  · have t_15 := h_15.2.mp c_18
    refine zv_aload_n (j := 0) G dX10_row_28 rfl rfl ?_
    refine zg_X10_11 G dX10_row_29 ?_
    refine zv_iload_n (j := 1) G dX10_row_32 rfl rfl ?_
    refine zv_lald G (by decide) rfl (z_rowx hz t_15) dX10_row_33 ?_
    exact zv_lret G hr dX10_row_34 (zq_m hz (by first | decide | omega | (have hL := z_lits; omega)))
  · have f_15 := fun q9 => (h_15.2.mpr q9) c_18
    refine zv_aload_n (j := 0) G dX10_row_21 rfl rfl ?_
    refine zv_iconst (v := 1) G dX10_row_22 (by decide) ?_
    refine zp_X10_3 G dX10_row_23 ?_
    refine zv_gen (R9 := zq 12 σ0) (zq_93 hz (by decide)) (fun σ hz => ?_)
    refine zv_lconst (v := 0) G dX10_row_26 (by decide) ?_
    exact zv_lret G hr dX10_row_27 (zq_m hz (by first | decide | omega | (have hL := z_lits; omega)))
