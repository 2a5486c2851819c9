/-! ===== what signs, ends, hears, denies, keeps ===== -/
def zft (σ0 σ : za_S) : Prop := (∀ w, w ≠ 93 → w ≠ 95 → σ.1 w = σ0.1 w) ∧ σ.2 = σ0.2 ∧ ∀ j, j ≠ 0 → j ≠ 4 → σ.1 93 j = σ0.1 93 j
def ztp (k : Int) (σ0 σ : za_S) : Prop := zft σ0 σ ∧ (σ.1 93 4).toInt = (σ0.1 93 4).toInt + k
theorem ztp_r (σ : za_S) : ztp 0 σ σ := ⟨⟨fun _ _ _ => rfl, rfl, fun _ _ _ => rfl⟩, by omega⟩
theorem zft_j {σ0 σ : za_S} {j : Nat} {x : Int32} (h : zft σ0 σ) (hj : j = 0 ∨ j = 4) : zft σ0 (za_si σ 93 j x) := by
  refine ⟨fun w h1 h2 => ?_, h.2.1, fun i h1 h2 => ?_⟩
  · rw [(za_si_off w h1).1]; exact h.1 w h1 h2
  · rw [za_si_ne _ _ (Or.inr (by omega))]; exact h.2.2 i h1 h2
theorem ztp_0 {k : Int} {σ0 σ : za_S} {x : Int32} (h : ztp k σ0 σ) : ztp k σ0 (za_si σ 93 0 x) := ⟨zft_j h.1 (Or.inl rfl), by rw [za_si_ne _ _ (Or.inr (by decide))]; exact h.2⟩
theorem ztp_c {k : Int} {σ0 σ : za_S} {j : Nat} {x : Int32} (h : ztp k σ0 σ) : ztp k σ0 (za_si σ 95 j x) := by
  refine ⟨⟨fun w h1 h2 => ?_, h.1.2.1, fun i h1 h2 => ?_⟩, ?_⟩
  · rw [(za_si_off w h2).1]; exact h.1.1 w h1 h2
  · rw [za_si_ne _ _ (Or.inl (by decide))]; exact h.1.2.2 i h1 h2
  · rw [za_si_ne _ _ (Or.inl (by decide))]; exact h.2
theorem ztp_4 {σ0 σ : za_S} (h : ztp 0 σ0 σ) (h0 : 0 ≤ (σ0.1 93 4).toInt ∧ (σ0.1 93 4).toInt ≤ 80) : ztp 4 σ0 (za_si σ 93 4 (σ.1 93 4 + 4)) := by
  refine ⟨zft_j h.1 (Or.inr rfl), ?_⟩
  have h9 := h.2
  have h4 : (4 : Int32).toInt = 4 := by decide
  rw [za_si_same, z_add (by rw [h4]; omega) (by rw [h4]; omega), h4]
  omega
theorem z_inA {a b : Int32} {n : Nat} (h1 : 0 ≤ a.toInt + b.toInt) (h2 : a.toInt + b.toInt < n) (hn : n ≤ 100000) : vp_in (a + b) n := by
  have h3 : (a + b).toInt = a.toInt + b.toInt := z_add (by omega) (by omega)
  exact z_in (by omega) (by omega)
def zfh (σ0 σ : za_S) : Prop := (∀ w, w ≠ 93 → w ≠ 191 → w ≠ 192 → σ.1 w = σ0.1 w) ∧ σ.2 = σ0.2 ∧ ∀ j, j ≠ 0 → j ≠ 32 → σ.1 93 j = σ0.1 93 j
def zhm (k : Int) (σ0 σ : za_S) : Prop := zfh σ0 σ ∧ (σ.1 93 32).toInt = (σ0.1 93 32).toInt + k
theorem zhm_r (σ : za_S) : zhm 0 σ σ := ⟨⟨fun _ _ _ _ => rfl, rfl, fun _ _ _ => rfl⟩, by omega⟩
theorem zfh_j {σ0 σ : za_S} {j : Nat} {x : Int32} (h : zfh σ0 σ) (hj : j = 0 ∨ j = 32) : zfh σ0 (za_si σ 93 j x) := by
  refine ⟨fun w h1 h2 h3 => ?_, h.2.1, fun i h1 h2 => ?_⟩
  · rw [(za_si_off w h1).1]; exact h.1 w h1 h2 h3
  · rw [za_si_ne _ _ (Or.inr (by omega))]; exact h.2.2 i h1 h2
theorem zhm_0 {k : Int} {σ0 σ : za_S} {x : Int32} (h : zhm k σ0 σ) : zhm k σ0 (za_si σ 93 0 x) := ⟨zfh_j h.1 (Or.inl rfl), by rw [za_si_ne _ _ (Or.inr (by decide))]; exact h.2⟩
theorem zhm_c {k : Int} {σ0 σ : za_S} {w j : Nat} {x : Int32} (hw : w = 191 ∨ w = 192) (h : zhm k σ0 σ) : zhm k σ0 (za_si σ w j x) := by
  refine ⟨⟨fun w' h1 h2 h3 => ?_, h.1.2.1, fun i h1 h2 => ?_⟩, ?_⟩
  · rw [(za_si_off w' (by omega)).1]; exact h.1.1 w' h1 h2 h3
  · rw [za_si_ne _ _ (Or.inl (by omega))]; exact h.1.2.2 i h1 h2
  · rw [za_si_ne _ _ (Or.inl (by omega))]; exact h.2
theorem zhm_1 {σ0 σ : za_S} (h : zhm 0 σ0 σ) (h0 : 0 ≤ (σ0.1 93 32).toInt ∧ (σ0.1 93 32).toInt ≤ 12) : zhm 1 σ0 (za_si σ 93 32 (σ.1 93 32 + 1)) := by
  refine ⟨zfh_j h.1 (Or.inr rfl), ?_⟩
  have h9 := h.2
  rw [za_si_same, z_add (by rw [z_one]; omega) (by rw [z_one]; omega), z_one]
  omega
def zfk (σ0 σ : za_S) : Prop := (∀ w, w ≠ 93 → w ≠ 189 → w ≠ 190 → σ.1 w = σ0.1 w) ∧ σ.2 = σ0.2 ∧ ∀ j, j ≠ 0 → σ.1 93 j = σ0.1 93 j
def zKs (σ : za_S) : Prop := ∀ k, k < 2 → zG (fun i => σ.1 190 (2001 * k + i))
theorem z_kp {σ0 σ : za_S} {a : Int32} {n : Nat} (hJ : zJ σ0) (ha : 0 ≤ a.toInt ∧ a.toInt ≤ 1) (h : σ = zrw (za_si (za_si σ0 93 0 0) 189 a.toNatClampNeg 1) 190 (2001 * a.toInt.toNat) n (σ0.1 99)) (hn : n = 2001) : zfk σ0 σ ∧ (∀ j, j < 2 → σ.1 189 j = if j = a.toNatClampNeg then 1 else σ0.1 189 j) ∧ zKs σ := by
  have ea : a.toNatClampNeg = a.toInt.toNat := rfl
  rw [h, hn, ea]
  refine ⟨⟨fun w h1 h2 h3 => ?_, rfl, fun j h1 => ?_⟩, fun j hj => ?_, fun k hk => ?_⟩
  · rw [zrw_o h3, (za_si_off w h2).1, (za_si_off w h1).1]
  · rw [zrw_o (by decide), za_si_ne _ _ (Or.inl (by decide)), za_si_ne _ _ (Or.inr h1)]
  · rw [zrw_o (by decide)]
    by_cases c : j = a.toInt.toNat
    · rw [if_pos c, c, za_si_same]
    · rw [if_neg c, za_si_ne _ _ (Or.inr c), za_si_ne _ _ (Or.inl (by decide))]
  · by_cases c : k = a.toInt.toNat
    · refine zG_cong (fun i hi => ?_) hJ.2.2.2.2.2.2.1
      show (zrw _ 190 _ 2001 (σ0.1 99)).1 190 (2001 * k + i) = _
      rw [zrw_i, if_pos (by omega), show 2001 * k + i - 2001 * a.toInt.toNat = i by omega]
    · refine zG_cong (fun i hi => ?_) (hJ.2.2.2.2.2.2.2.2 k hk)
      show (zrw _ 190 _ 2001 (σ0.1 99)).1 190 (2001 * k + i) = _
      rw [zrw_i, if_neg (by omega), (za_si_off 190 (by decide)).1, (za_si_off 190 (by decide)).1]
/-! a sheet: rows stay where they are -/
def zsh (f g : Nat → Int32) : Prop := ∀ i, i < 2000 → zok1 (g i) ∧ (zT (g i) ↔ zT (f i)) ∧ (zBg (g i) ↔ zBg (f i))
theorem zsh_G {f g : Nat → Int32} (h : zsh f g) (G9 : zG f) : zG g := by
  refine ⟨fun i hi => (h i hi).1, fun i hi ht => ?_, ?_, ?_⟩
  · rcases G9.2.1 i hi ((h i hi).2.1.mp ht) with q | ⟨q1, q2⟩
    · exact Or.inl ((h i hi).2.2.mpr q)
    · exact Or.inr ⟨q1, (h (i - 1) (by omega)).2.1.mpr q2⟩
  · exact Nat.le_trans (fb_ct_sub (fun j hj hp => zbB_iff.mpr ((h _ (by omega)).2.2.mp (zbB_iff.mp hp)))) G9.2.2.1
  · exact Nat.le_trans (fb_ct_sub (fun j hj hp => zbB_iff.mpr ((h _ (by omega)).2.2.mp (zbB_iff.mp hp)))) G9.2.2.2
theorem zsh_c {f g : Nat → Int32} {t : Nat} (ht : t ≤ 1) (h : zsh f g) : zcn f t ≤ zcn g t := fb_ct_sub (fun j hj hp => zbB_iff.mpr ((h _ (by omega)).2.2.mpr (zbB_iff.mp hp)))
theorem zsh_e {f g : Nat → Int32} {t : Nat} (ht : t ≤ 1) (h : zsh f g) : zcn g t = zcn f t := Nat.le_antisymm (fb_ct_sub (fun j hj hp => zbB_iff.mpr ((h _ (by omega)).2.2.mp (zbB_iff.mp hp)))) (zsh_c ht h)
def zms (σ0 σ : za_S) : Prop := zm 12 10 σ0 σ ∧ zsh (σ0.1 99) (σ.1 99)
theorem zms_z {σ : za_S} (hJ : zJ σ) : zms σ σ := ⟨zmz hJ, fun i hi => ⟨hJ.2.2.2.2.2.2.1.1 i hi, Iff.rfl, Iff.rfl⟩⟩
theorem zms_f {σ0 σ : za_S} {x : Int32} (h : zms σ0 σ) : zms σ0 (za_si σ 93 0 x) := ⟨zm_f93 h.1 (by decide), by rw [(za_si_off 99 (by decide)).1]; exact h.2⟩
theorem zms_s {σ0 σ σ' : za_S} {i r : Int32} (h : zms σ0 σ) (hi : i.toInt < (zcn (σ0.1 99) 0 : Nat)) (k : (r = 1 ∧ i.toInt < (zcn (σ.1 99) (0 : Int32).toInt.toNat : Nat) ∧ ∃ k d, zsk (σ.1 99) 0 i k d ∧ σ' = za_si (za_si σ 93 15 k) 93 16 d) ∨ (r = 0 ∧ ¬ i.toInt < (zcn (σ.1 99) (0 : Int32).toInt.toNat : Nat) ∧ σ' = σ)) : zms σ0 σ' ∧ zbg (σ0.1 99) 0 (σ'.1 93 15) (σ'.1 93 16) := by
  have hm := zm_q h.1 (zq_s (zm_qq h.1) k)
  have e0 : (0 : Int32).toInt.toNat = 0 := by decide
  rcases k with ⟨-, -, k, d, h1, h2⟩ | ⟨-, h2, -⟩
  · have e9 : σ'.1 99 = σ.1 99 := by rw [h2, (za_si_off 99 (by decide)).1, (za_si_off 99 (by decide)).1]
    refine ⟨⟨hm, by rw [e9]; exact h.2⟩, ?_⟩
    have e15 : σ'.1 93 15 = k := by rw [h2, za_si_ne _ _ (Or.inr (by decide)), za_si_same]
    have e16 : σ'.1 93 16 = d := by rw [h2, za_si_same]
    rw [e15, e16]
    have hx := zix_lt (t := 0) (by decide) h1.1 h1.2.1.1
    exact ⟨h1.2.1.1, (h.2 _ hx.1).2.2.mp h1.2.1.2⟩
  · have h3 := zsh_c (t := 0) (by omega) h.2
    rw [e0] at h2
    omega
theorem zms_l {σ0 σ σ' : za_S} {k d v f b : Int32} (h : zms σ0 σ) (hk : 0 ≤ k.toInt ∧ k.toInt ≤ 9) (ht : zth (σ0.1 99) 0 k d) (hb : b = 0 ∨ b = 1) (hbg : zbg (σ0.1 99) 0 k d ↔ b = 1) (hv : 0 ≤ v.toInt ∧ v.toInt ≤ 99) (hf : f = zrf (σ.1 99 (zix 0 k d))) (e : σ' = za_si σ 99 (zix 0 k d) (zly v f (if b = 0 then 0 else 1))) : zms σ0 σ' := by
  have hb9 : (if b = 0 then (0 : Int32) else 1) = b := by rcases hb with rfl | rfl <;> rfl
  have hx := zix_lt (t := 0) (by decide) hk ht.1
  have hT := (h.2 _ hx.1).2.1.mpr ht.2
  have hl := z_lyB hv (z_rf hT) hb
  rw [e, hb9, hf]
  have hsh : zsh (σ0.1 99) ((za_si σ 99 (zix 0 k d) (zly v (zrf (σ.1 99 (zix 0 k d))) b)).1 99) := by
    intro i hi
    rw [za_si_w]
    by_cases c : i = zix 0 k d
    · rw [c, zupd_s]
      exact ⟨⟨by omega, hl.1.2⟩, ⟨fun _ => ht.2, fun _ => hl.1.1⟩, ⟨fun z => (hbg.mpr (hl.2.mp z)).2, fun z => hl.2.mpr (hbg.mp ⟨ht.1, z⟩)⟩⟩
    · rw [zupd_n c]
      exact h.2 i hi
  refine ⟨zm_fa h.1 ⟨fun w h1 _ h3 => (za_si_off w h1).1, rfl, fun j _ _ => za_si_ne _ _ (Or.inl (by decide)), ?_⟩, hsh⟩
  have hG := zm_G h.1
  refine zsh_G (f := σ.1 99) (fun i hi => ?_) hG
  have h1 := hsh i hi
  have h2 := h.2 i hi
  exact ⟨h1.1, h1.2.1.trans h2.2.1.symm, h1.2.2.trans h2.2.2.symm⟩
theorem z_mm {x y a : Int32} (e1 : x = if a < (99 : Int32) then a else 99) (e2 : y = if (0 : Int32) < x then x else 0) : 0 ≤ y.toInt ∧ y.toInt ≤ 99 := by
  have h99 : (99 : Int32).toInt = 99 := by decide
  have h0 : (0 : Int32).toInt = 0 := by decide
  rw [e2]
  split
  · rename_i h
    rw [z_lt] at h
    rw [e1] at h ⊢
    split at h
    · rename_i h8; rw [if_pos h8]; rw [z_lt] at h8; omega
    · rename_i h8; rw [if_neg h8]; omega
  · omega
/-- the row of a day: begun at that day alone -/
def zrg (f : Nat → Int32) (k d e : Int32) : Prop := ∀ x : Int32, d.toInt ≤ x.toInt → x.toInt ≤ e.toInt → zth f 0 k x ∧ (zbg f 0 k x ↔ x.toInt = d.toInt)
theorem z_rg {f g : Nat → Int32} {k d r x : Int32} (h : zsh f g) (hk : 0 ≤ k.toInt ∧ k.toInt ≤ 9) (hb : zbg f 0 k d) (u : d.toInt < r.toInt ∧ r.toInt ≤ 100 ∧ ∀ x : Int32, d.toInt < x.toInt → x.toInt < r.toInt → zth g 0 k x ∧ ¬ zbg g 0 k x) (e : x.toInt = r.toInt - 1) : zrg f k d x := by
  intro y h1 h2
  by_cases c : y.toInt = d.toInt
  · have e9 : y = d := (z_eq y d).mpr c
    rw [e9]
    exact ⟨⟨hb.1, hb.2.1⟩, ⟨fun _ => rfl, fun _ => hb⟩⟩
  · have h3 := u.2.2 y (by omega) (by omega)
    have hx := zix_lt (t := 0) (by decide) hk h3.1.1
    exact ⟨⟨h3.1.1, (h _ hx.1).2.1.mp h3.1.2⟩, ⟨fun z => absurd ⟨z.1, (h _ hx.1).2.2.mpr z.2⟩ h3.2, fun z => absurd z c⟩⟩
theorem z_lz {b : Int64} (h : ¬ lg_cmp b 0 = 0) : ¬ b = 0 := fun e => h (by rw [e]; decide)
set_option maxHeartbeats 4000000 in
set_option maxRecDepth 100000 in
theorem zc_X10_sign (l : Launch) (E : za_E) (a1 : Int32) (σ0 : za_S) (h0 : 0 ≤ (σ0.1 93 4).toInt ∧ (σ0.1 93 4).toInt ≤ 80) : zMi l E yX10_sign cX10_sign 3 (Option.some Jvm.ClassFile.FieldType.int) 1 21 [za_O 19 93, za_I a1] σ0 (fun r σ' => zft σ0 σ' ∧ zsg (σ0.1 93 4).toInt r.toInt (σ'.1 93 4).toInt) := by
  refine zMi_of [(0, za_O 19 93), (1, za_I a1)] (by decide) rfl rfl (Nat.le_of_ble_eq_true rfl) ?_
  intro ho p e s m args below meth c G hr
  refine zv_gen (R9 := ztp 0 σ0) (ztp_r σ0) (fun σ hz => ?_)
  refine zv_aload_n (j := 0) G dX10_sign_0 rfl rfl ?_
  refine zv_iconst (v := 0) G dX10_sign_1 (by decide) ?_
  refine zp_X10_3 G dX10_sign_2 ?_
  refine zv_gen (R9 := ztp 0 σ0) (ztp_0 hz) (fun σ hz => ?_)
  refine zv_aload_n (j := 0) G dX10_sign_5 rfl rfl ?_
  refine zg_X10_18 G dX10_sign_6 ?_
  refine zv_bipush (v := 76) G dX10_sign_9 (by decide) ?_
  refine zv_icmp_le (tgt := 16) G dX10_sign_11 (by decide) (fun c_11 => ?_) (fun c_11 => ?_)
  · have k_11 := z_cle c_11 (a := (σ.1 93 4).toInt) (b := 76) rfl rfl
    refine zv_iconst (v := 0) G dX10_sign_16 (by decide) ?_
    have J_18 : ∀ (n : Nat) (y2_18 : Int32) (σ : za_S) (hz : ztp 0 σ0 σ) (g_18 : (σ0.1 93 4).toInt ≤ 76) (i2_18 : 0 ≤ y2_18.toInt) (u2_18 : y2_18.toInt ≤ 4) (hn_18 : (2147483648 - y2_18.toInt).toNat < n), zV p l e (zRm 1 21) s m args below meth c E (za_A E) 3 0 0 (MQ below (va_Qi (fun r σ' => zft σ0 σ' ∧ zsg (σ0.1 93 4).toInt r.toInt (σ'.1 93 4).toInt) (zB E) (za_A E)) args s 0 0 (za_A E)) 18 [(0, za_O 19 93), (1, za_I a1), (2, za_I y2_18)] [] σ := by
      intro n
      induction n with
      | zero => intro y2_18 σ hz g_18 i2_18 u2_18 hn; exact absurd hn (Nat.not_lt_zero _)
      | succ n ih_18 =>
        intro y2_18 σ hz g_18 i2_18 u2_18 hn_18
        refine zv_iload_n (j := 2) G dX10_sign_18 rfl rfl ?_
        refine zv_iconst (v := 4) G dX10_sign_19 (by decide) ?_
        refine zv_icmp_ge (tgt := 53) G dX10_sign_20 (by decide) (fun c_20 => ?_) (fun c_20 => ?_)
        · have k_20 := z_cle c_20 (a := 4) (b := y2_18.toInt) rfl rfl
          refine zv_aload_n (j := 0) G dX10_sign_53 rfl rfl ?_
          refine zv_dupO G dX10_sign_54 ?_
          refine zg_X10_18 G dX10_sign_55 ?_
          refine zv_iconst (v := 4) G dX10_sign_58 (by decide) ?_
          refine zv_iadd G dX10_sign_59 ?_
          refine zp_X10_18 G dX10_sign_60 ?_
          refine zv_gen (R9 := ztp 4 σ0) (ztp_4 hz h0) (fun σ hz => ?_)
          refine zv_aload_n (j := 0) G dX10_sign_63 rfl rfl ?_
          refine zg_X10_18 G dX10_sign_64 ?_
          exact zv_iret G hr dX10_sign_67 ⟨hz.1, Or.inr ⟨g_18, hz.2, hz.2⟩⟩
        · have b_20 : 0 ≤ y2_18.toInt ∧ y2_18.toInt < 4 := ⟨i2_18, z_ltk c_20 rfl⟩
          have k_20 := z_cnle c_20 (a := 4) (b := y2_18.toInt) rfl rfl
          refine zv_aload_n (j := 0) G dX10_sign_23 rfl rfl ?_
          refine zg_X10_21 G dX10_sign_24 ?_
          refine zv_aload_n (j := 0) G dX10_sign_27 rfl rfl ?_
          refine zg_X10_18 G dX10_sign_28 ?_
          refine zv_iload_n (j := 2) G dX10_sign_31 rfl rfl ?_
          refine zv_iadd G dX10_sign_32 ?_
          refine zv_iload_n (j := 1) G dX10_sign_33 rfl rfl ?_
          refine zv_bipush (v := 24) G dX10_sign_34 (by decide) ?_
          refine zv_bipush (v := 8) G dX10_sign_36 (by decide) ?_
          refine zv_iload_n (j := 2) G dX10_sign_38 rfl rfl ?_
          refine zv_imul G dX10_sign_39 ?_
          refine zv_isub G dX10_sign_40 ?_
          refine zv_ishr G dX10_sign_41 ?_
          refine zv_sipush (v := 255) G dX10_sign_42 (by decide) ?_
          refine zv_iand G dX10_sign_45 ?_
          refine zv_iast G (by decide) rfl (fun _ => rfl) (z_inA (by have h9 := hz.2; omega) (by have h9 := hz.2; omega) (by decide)) dX10_sign_46 ?_
          refine zv_gen (R9 := ztp 0 σ0) (ztp_c hz) (fun σ hz => ?_)
          obtain ⟨x_47, e_47⟩ : ∃ y : Int32, y = y2_18 + 1 := ⟨_, rfl⟩
          refine zv_iinc (j := 2) (v := x_47) (lv' := [(2, za_I x_47), (0, za_O 19 93), (1, za_I a1)]) G dX10_sign_47 rfl (by rw [e_47]; rfl) (by decide) rfl ?_
          first | have q_47 := z_inc9 (by omega) e_47 | skip
          refine zv_goto (tgt := 18) G dX10_sign_50 (by decide) ?_
          refine zv_sub [1, 2, 0] (lv' := [(0, za_O 19 93), (1, za_I a1), (2, za_I x_47)]) rfl ?_
          exact ih_18 x_47 σ hz (by have h9 := hz.2; omega) (by have := z_inc c_20 e_47; omega) (by have := z_inc9 (by omega) e_47; omega) (z_meas c_20 e_47 hn_18)
    refine zv_istore_n (lv' := [(2, za_I 0), (0, za_O 19 93), (1, za_I a1)]) G dX10_sign_17 rfl (by decide) rfl ?_
    refine zv_sub [1, 2, 0] (lv' := [(0, za_O 19 93), (1, za_I a1), (2, za_I 0)]) rfl ?_
    exact J_18 _ (0 : Int32) σ hz (by have h9 := hz.2; omega) (by decide) (by decide) (Nat.lt_succ_self _)
  · have k_11 := z_cnle c_11 (a := (σ.1 93 4).toInt) (b := 76) rfl rfl
    refine zv_iconst (v := (-1)) G dX10_sign_14 (by decide) ?_
    exact zv_iret G hr dX10_sign_15 ⟨hz.1, Or.inl ⟨by have h9 := hz.2; omega, by decide, by have h9 := hz.2; omega⟩⟩
set_option maxHeartbeats 4000000 in
set_option maxRecDepth 100000 in
theorem zc_X10_end (l : Launch) (E : za_E) (a1 : Int32) (σ0 : za_S)  : zMi l E yX10_end cX10_end 2 (Option.some Jvm.ClassFile.FieldType.boolean) 2 46 [za_O 19 93, za_I a1] σ0 (fun r σ' => (r = 0 ∨ r = 1) ∧ zft σ0 σ' ∧ zen (σ0.1 93 4).toInt a1.toInt r (σ'.1 93 4).toInt) := by
  refine zMi_of [(0, za_O 19 93), (1, za_I a1)] (by decide) rfl rfl (Nat.le_of_ble_eq_true rfl) ?_
  intro ho p e s m args below meth c G hr
  refine zv_gen (R9 := ztp 0 σ0) (ztp_r σ0) (fun σ hz => ?_)
  refine zv_aload_n (j := 0) G dX10_end_0 rfl rfl ?_
  refine zv_iconst (v := 0) G dX10_end_1 (by decide) ?_
  refine zp_X10_3 G dX10_end_2 ?_
  refine zv_gen (R9 := ztp 0 σ0) (ztp_0 hz) (fun σ hz => ?_)
  refine zv_iload_n (j := 1) G dX10_end_5 rfl rfl ?_
  refine zv_i2l G dX10_end_6 ?_
  refine zv_lconst (v := 0) G dX10_end_7 (by decide) ?_
  refine zv_aload_n (j := 0) G dX10_end_8 rfl rfl ?_
  refine zg_X10_18 G dX10_end_9 ?_
  refine zv_i2l G dX10_end_12 ?_
  refine zv_callSi (as := [za_L a1.toInt64, za_L 0, za_L ((σ.1 93 4).toInt64)]) G (zc_X10_in l E a1.toInt64 0 ((σ.1 93 4).toInt64) σ ) zk_X10_in zm_1180 rfl ⟨(Nat.le_of_ble_eq_true rfl), (Nat.le_of_ble_eq_true rfl)⟩ ⟨Nat.zero_le _, Nat.zero_le _⟩ (Nat.le_of_ble_eq_true rfl) dX10_end_13 (fun r_13 σ h_13 => ?_)
  obtain ⟨h_13, rfl⟩ := h_13
  refine zv_if_ne (tgt := 21) G dX10_end_16 (by decide) (fun c_16 => ?_) (fun c_16 => ?_)
  · have t_13 := h_13.2.mp c_16
    have w9 : 0 ≤ a1.toInt ∧ a1.toInt ≤ (σ0.1 93 4).toInt := by have hL := z_lL; have h9 := hz.2; rw [z_w, z_w] at t_13; omega
    refine zv_aload_n (j := 0) G dX10_end_21 rfl rfl ?_
    refine zv_iload_n (j := 1) G dX10_end_22 rfl rfl ?_
    refine zp_X10_18 G dX10_end_23 ?_
    refine zv_gen (R9 := (fun σ => zft σ0 σ ∧ σ.1 93 4 = a1)) ⟨zft_j hz.1 (Or.inr rfl), za_si_same _ _ _ _⟩ (fun σ hz => ?_)
    refine zv_iconst (v := 1) G dX10_end_26 (by decide) ?_
    exact zv_zret G hr dX10_end_27 (by decide) ⟨Or.inr rfl, hz.1, Or.inl ⟨w9.1, w9.2, rfl, by rw [hz.2]⟩⟩
  · have f_13 := fun q9 => (h_13.2.mpr q9) c_16
    have w9 : ¬ (0 ≤ a1.toInt ∧ a1.toInt ≤ (σ0.1 93 4).toInt) := fun c9 => f_13 (by have hL := z_lL; have h9 := hz.2; rw [z_w, z_w]; omega)
    refine zv_iconst (v := 0) G dX10_end_19 (by decide) ?_
    exact zv_zret G hr dX10_end_20 (by decide) ⟨Or.inl rfl, hz.1, Or.inr ⟨w9, rfl, by have h9 := hz.2; omega⟩⟩
set_option maxHeartbeats 4000000 in
set_option maxRecDepth 100000 in
theorem zc_X10_heard (l : Launch) (E : za_E) (a1 : Int32) (a2 : Int32) (σ0 : za_S) (h0 : 0 ≤ (σ0.1 93 32).toInt ∧ (σ0.1 93 32).toInt ≤ 12) : zMi l E yX10_heard cX10_heard 3 (Option.some Jvm.ClassFile.FieldType.int) 2 46 [za_O 19 93, za_I a1, za_I a2] σ0 (fun r σ' => zfh σ0 σ' ∧ ((((a1.toInt = 3 ∧ (a2.toInt = 0 ∨ a2.toInt = 1)) ∨ ((0 ≤ a1.toInt ∧ a1.toInt ≤ 2) ∧ 0 ≤ a2.toInt ∧ a2.toInt ≤ 9)) ∧ (σ0.1 93 32).toInt < 12 ∧ r.toInt = (σ0.1 93 32).toInt + 1 ∧ (σ'.1 93 32).toInt = (σ0.1 93 32).toInt + 1) ∨ (¬ (((a1.toInt = 3 ∧ (a2.toInt = 0 ∨ a2.toInt = 1)) ∨ ((0 ≤ a1.toInt ∧ a1.toInt ≤ 2) ∧ 0 ≤ a2.toInt ∧ a2.toInt ≤ 9)) ∧ (σ0.1 93 32).toInt < 12) ∧ r = -1 ∧ (σ'.1 93 32).toInt = (σ0.1 93 32).toInt))) := by
  refine zMi_of [(0, za_O 19 93), (1, za_I a1), (2, za_I a2)] (by decide) rfl rfl (Nat.le_of_ble_eq_true rfl) ?_
  intro ho p e s m args below meth c G hr
  refine zv_gen (R9 := zhm 0 σ0) (zhm_r σ0) (fun σ hz => ?_)
  refine zv_aload_n (j := 0) G dX10_heard_0 rfl rfl ?_
  refine zv_iconst (v := 0) G dX10_heard_1 (by decide) ?_
  refine zp_X10_3 G dX10_heard_2 ?_
  refine zv_gen (R9 := zhm 0 σ0) (zhm_0 hz) (fun σ hz => ?_)
  refine zv_iload_n (j := 1) G dX10_heard_5 rfl rfl ?_
  refine zv_i2l G dX10_heard_6 ?_
  refine zv_lconst (v := 0) G dX10_heard_7 (by decide) ?_
  refine zv_ldc2 (v := 3) G dX10_heard_8 zm_1347 ?_
  refine zv_callSi (as := [za_L a1.toInt64, za_L 0, za_L 3]) G (zc_X10_in l E a1.toInt64 0 3 σ ) zk_X10_in zm_1180 rfl ⟨(Nat.le_of_ble_eq_true rfl), (Nat.le_of_ble_eq_true rfl)⟩ ⟨Nat.zero_le _, Nat.zero_le _⟩ (Nat.le_of_ble_eq_true rfl) dX10_heard_11 (fun r_11 σ h_11 => ?_)
  obtain ⟨h_11, rfl⟩ := h_11
  refine zv_if_eq (tgt := 40) G dX10_heard_14 (by decide) (fun c_14 => ?_) (fun c_14 => ?_)
  · have f_11 := fun q9 => (h_11.2.mpr q9) c_14
    refine zv_iconst (v := (-1)) G dX10_heard_40 (by decide) ?_
    exact zv_iret G hr dX10_heard_41 (by first | exact ⟨hz.1, Or.inr ⟨fun c9 => f_11 (by have hL := z_lL; have h9 := hz.2; have u9 := z_w a1; omega), rfl, by have h9 := hz.2; omega⟩⟩ | exact ⟨hz.1, Or.inr ⟨fun c9 => f_25 (by have hL := z_lL; have h9 := hz.2; have u9 := z_w a1; have u8 := z_w a2; have u7 := z_w r_21; omega), rfl, by have h9 := hz.2; omega⟩⟩ | exact ⟨hz.1, Or.inr ⟨fun c9 => by have hL := z_lL; have h9 := hz.2; have u9 := z_w a1; have u8 := z_w a2; have u7 := z_w r_21; omega, rfl, by have h9 := hz.2; omega⟩⟩)
  · have t_11 := h_11.2.mp c_14
    refine zv_iload_n (j := 2) G dX10_heard_17 rfl rfl ?_
    refine zv_i2l G dX10_heard_18 ?_
    refine zv_lconst (v := 0) G dX10_heard_19 (by decide) ?_
    refine zv_iload_n (j := 1) G dX10_heard_20 rfl rfl ?_
    refine zv_callSi (as := [za_I a1]) G (zc_X10_highest l E a1 σ ) zk_X10_highest zm_1678 rfl ⟨(Nat.le_of_ble_eq_true rfl), (Nat.le_of_ble_eq_true rfl)⟩ ⟨Nat.zero_le _, Nat.zero_le _⟩ (Nat.le_of_ble_eq_true rfl) dX10_heard_21 (fun r_21 σ h_21 => ?_)
    obtain ⟨h_21, rfl⟩ := h_21
    refine zv_i2l G dX10_heard_24 ?_
    refine zv_callSi (as := [za_L a2.toInt64, za_L 0, za_L r_21.toInt64]) G (zc_X10_in l E a2.toInt64 0 r_21.toInt64 σ ) zk_X10_in zm_1180 rfl ⟨(Nat.le_of_ble_eq_true rfl), (Nat.le_of_ble_eq_true rfl)⟩ ⟨Nat.zero_le _, Nat.zero_le _⟩ (Nat.le_of_ble_eq_true rfl) dX10_heard_25 (fun r_25 σ h_25 => ?_)
    obtain ⟨h_25, rfl⟩ := h_25
    refine zv_if_eq (tgt := 40) G dX10_heard_28 (by decide) (fun c_28 => ?_) (fun c_28 => ?_)
    · have f_25 := fun q9 => (h_25.2.mpr q9) c_28
      refine zv_iconst (v := (-1)) G dX10_heard_40 (by decide) ?_
      exact zv_iret G hr dX10_heard_41 (by first | exact ⟨hz.1, Or.inr ⟨fun c9 => f_11 (by have hL := z_lL; have h9 := hz.2; have u9 := z_w a1; omega), rfl, by have h9 := hz.2; omega⟩⟩ | exact ⟨hz.1, Or.inr ⟨fun c9 => f_25 (by have hL := z_lL; have h9 := hz.2; have u9 := z_w a1; have u8 := z_w a2; have u7 := z_w r_21; omega), rfl, by have h9 := hz.2; omega⟩⟩ | exact ⟨hz.1, Or.inr ⟨fun c9 => by have hL := z_lL; have h9 := hz.2; have u9 := z_w a1; have u8 := z_w a2; have u7 := z_w r_21; omega, rfl, by have h9 := hz.2; omega⟩⟩)
    · have t_25 := h_25.2.mp c_28
      refine zv_aload_n (j := 0) G dX10_heard_31 rfl rfl ?_
      refine zg_X10_406 G dX10_heard_32 ?_
      refine zv_bipush (v := 12) G dX10_heard_35 (by decide) ?_
      refine zv_icmp_ne (tgt := 42) G dX10_heard_37 (by decide) (fun c_37 => ?_) (fun c_37 => ?_)
      · have k_37 := z_cne c_37 (a := (σ.1 93 32).toInt) (b := 12) rfl rfl
        have w9 : ((a1.toInt = 3 ∧ (a2.toInt = 0 ∨ a2.toInt = 1)) ∨ ((0 ≤ a1.toInt ∧ a1.toInt ≤ 2) ∧ 0 ≤ a2.toInt ∧ a2.toInt ≤ 9)) ∧ (σ0.1 93 32).toInt < 12 := by have hL := z_lL; have h9 := hz.2; have u9 := z_w a1; have u8 := z_w a2; have u7 := z_w r_21; omega
        refine zv_aload_n (j := 0) G dX10_heard_42 rfl rfl ?_
        refine zg_X10_157 G dX10_heard_43 ?_
        refine zv_aload_n (j := 0) G dX10_heard_46 rfl rfl ?_
        refine zg_X10_406 G dX10_heard_47 ?_
        refine zv_iload_n (j := 1) G dX10_heard_50 rfl rfl ?_
        refine zv_iast G (by decide) rfl (fun _ => rfl) (z_in (by have h9 := hz.2; omega) (by have h9 := hz.2; omega)) dX10_heard_51 ?_
        refine zv_gen (R9 := zhm 0 σ0) (zhm_c (by decide) hz) (fun σ hz => ?_)
        refine zv_aload_n (j := 0) G dX10_heard_52 rfl rfl ?_
        refine zg_X10_160 G dX10_heard_53 ?_
        refine zv_aload_n (j := 0) G dX10_heard_56 rfl rfl ?_
        refine zg_X10_406 G dX10_heard_57 ?_
        refine zv_iload_n (j := 2) G dX10_heard_60 rfl rfl ?_
        refine zv_iast G (by decide) rfl (fun _ => rfl) (z_in (by have h9 := hz.2; omega) (by have h9 := hz.2; omega)) dX10_heard_61 ?_
        refine zv_gen (R9 := zhm 0 σ0) (zhm_c (by decide) hz) (fun σ hz => ?_)
        refine zv_aload_n (j := 0) G dX10_heard_62 rfl rfl ?_
        refine zv_dupO G dX10_heard_63 ?_
        refine zg_X10_406 G dX10_heard_64 ?_
        refine zv_iconst (v := 1) G dX10_heard_67 (by decide) ?_
        refine zv_iadd G dX10_heard_68 ?_
        refine zp_X10_406 G dX10_heard_69 ?_
        refine zv_gen (R9 := zhm 1 σ0) (zhm_1 hz h0) (fun σ hz => ?_)
        refine zv_aload_n (j := 0) G dX10_heard_72 rfl rfl ?_
        refine zg_X10_406 G dX10_heard_73 ?_
        exact zv_iret G hr dX10_heard_76 ⟨hz.1, Or.inl ⟨w9.1, w9.2, hz.2, hz.2⟩⟩
      · have k_37 := z_ceq c_37 (a := (σ.1 93 32).toInt) (b := 12) rfl rfl
        refine zv_iconst (v := (-1)) G dX10_heard_40 (by decide) ?_
        exact zv_iret G hr dX10_heard_41 (by first | exact ⟨hz.1, Or.inr ⟨fun c9 => f_11 (by have hL := z_lL; have h9 := hz.2; have u9 := z_w a1; omega), rfl, by have h9 := hz.2; omega⟩⟩ | exact ⟨hz.1, Or.inr ⟨fun c9 => f_25 (by have hL := z_lL; have h9 := hz.2; have u9 := z_w a1; have u8 := z_w a2; have u7 := z_w r_21; omega), rfl, by have h9 := hz.2; omega⟩⟩ | exact ⟨hz.1, Or.inr ⟨fun c9 => by have hL := z_lL; have h9 := hz.2; have u9 := z_w a1; have u8 := z_w a2; have u7 := z_w r_21; omega, rfl, by have h9 := hz.2; omega⟩⟩)
set_option maxHeartbeats 4000000 in
set_option maxRecDepth 100000 in
theorem zc_X10_denies (l : Launch) (E : za_E)  (σ0 : za_S)  : zMi l E yX10_denies cX10_denies 2 (Option.some Jvm.ClassFile.FieldType.int) 1 21 [za_O 19 93] σ0 (fun r σ' => zfh σ0 σ' ∧ r = σ0.1 93 32 ∧ σ'.1 93 32 = 0) := by
  refine zMi_of [(0, za_O 19 93)] (by decide) rfl rfl (Nat.le_of_ble_eq_true rfl) ?_
  intro ho p e s m args below meth c G hr
  refine zv_aload_n (j := 0) G dX10_denies_0 rfl rfl ?_
  refine zv_iconst (v := 0) G dX10_denies_1 (by decide) ?_
  refine zp_X10_3 G dX10_denies_2 ?_
  refine zv_aload_n (j := 0) G dX10_denies_5 rfl rfl ?_
  refine zg_X10_406 G dX10_denies_6 ?_
  refine zv_top (fun x_9 e_9 => ?_)
  refine zv_istore_n (lv' := [(1, za_I x_9), (0, za_O 19 93)]) G dX10_denies_9 rfl (by decide) rfl ?_
  refine zv_aload_n (j := 1) G dX10_denies_10 rfl rfl ?_
  refine zv_iconst (v := 0) G dX10_denies_11 (by decide) ?_
  refine zp_X10_406 G dX10_denies_12 ?_
  refine zv_iload_n (j := 0) G dX10_denies_15 rfl rfl ?_
  exact zv_iret G hr dX10_denies_16 ⟨zfh_j (zfh_j (zhm_r σ0).1 (Or.inl rfl)) (Or.inr rfl), by rw [e_9, za_si_ne _ _ (Or.inr (by decide))], za_si_same _ _ _ _⟩
set_option maxHeartbeats 4000000 in
set_option maxRecDepth 100000 in
theorem zc_X10_keep (l : Launch) (E : za_E) (a1 : Int32) (σ0 : za_S) (hJ : zJ σ0) : zMi l E yX10_keep cX10_keep 3 (Option.some Jvm.ClassFile.FieldType.boolean) 2 46 [za_O 19 93, za_I a1] σ0 (fun r σ' => (r = 0 ∨ r = 1) ∧ ((r = 1 ∧ (0 ≤ a1.toInt ∧ a1.toInt < 2) ∧ zfk σ0 σ' ∧ (∀ j, j < 2 → σ'.1 189 j = if j = a1.toNatClampNeg then 1 else σ0.1 189 j) ∧ zKs σ') ∨ (r = 0 ∧ ¬ (0 ≤ a1.toInt ∧ a1.toInt < 2) ∧ σ' = za_si σ0 93 0 0))) := by
  refine zMi_of [(0, za_O 19 93), (1, za_I a1)] (by decide) rfl rfl (Nat.le_of_ble_eq_true rfl) ?_
  intro ho p e s m args below meth c G hr
  refine zv_gen (R9 := (fun σ => σ = σ0)) rfl (fun σ hz => ?_)
  refine zv_aload_n (j := 0) G dX10_keep_0 rfl rfl ?_
  refine zv_iconst (v := 0) G dX10_keep_1 (by decide) ?_
  refine zp_X10_3 G dX10_keep_2 ?_
  refine zv_gen (R9 := (fun σ => σ = za_si σ0 93 0 0)) (by rw [hz]) (fun σ hz => ?_)
  refine zv_iload_n (j := 1) G dX10_keep_5 rfl rfl ?_
  refine zv_i2l G dX10_keep_6 ?_
  refine zv_lconst (v := 0) G dX10_keep_7 (by decide) ?_
  refine zv_lconst (v := 1) G dX10_keep_8 (by decide) ?_
  refine zv_callSi (as := [za_L a1.toInt64, za_L 0, za_L 1]) G (zc_X10_in l E a1.toInt64 0 1 σ ) zk_X10_in zm_1180 rfl ⟨(Nat.le_of_ble_eq_true rfl), (Nat.le_of_ble_eq_true rfl)⟩ ⟨Nat.zero_le _, Nat.zero_le _⟩ (Nat.le_of_ble_eq_true rfl) dX10_keep_9 (fun r_9 σ h_9 => ?_)
  obtain ⟨h_9, rfl⟩ := h_9
  refine zv_if_ne (tgt := 17) G dX10_keep_12 (by decide) (fun c_12 => ?_) (fun c_12 => ?_)
  · have t_9 := h_9.2.mp c_12
    have w9 := z_i2 t_9
    refine zv_aload_n (j := 0) G dX10_keep_17 rfl rfl ?_
    refine zg_X10_150 G dX10_keep_18 ?_
    refine zv_iload_n (j := 1) G dX10_keep_21 rfl rfl ?_
    refine zv_iconst (v := 1) G dX10_keep_22 (by decide) ?_
    refine zv_zast G (by decide) rfl (fun _ => rfl) (z_in w9.1 (by omega)) dX10_keep_23 ?_
    refine zv_gen (R9 := (fun σ => σ = za_si (za_si σ0 93 0 0) 189 a1.toNatClampNeg 1)) (by rw [hz]; rfl) (fun σ hz => ?_)
    refine zv_iconst (v := 0) G dX10_keep_24 (by decide) ?_
    have J_26 : ∀ (n : Nat) (y2_26 : Int32) (σ : za_S) (hz : σ = zrw (za_si (za_si σ0 93 0 0) 189 a1.toNatClampNeg 1) 190 (2001 * a1.toInt.toNat) y2_26.toInt.toNat (σ0.1 99)) (i2_26 : 0 ≤ y2_26.toInt) (u2_26 : y2_26.toInt ≤ 2001) (hn_26 : (2147483648 - y2_26.toInt).toNat < n), zV p l e (zRm 2 46) s m args below meth c E (za_A E) 3 0 0 (MQ below (va_Qi (fun r σ' => (r = 0 ∨ r = 1) ∧ ((r = 1 ∧ (0 ≤ a1.toInt ∧ a1.toInt < 2) ∧ zfk σ0 σ' ∧ (∀ j, j < 2 → σ'.1 189 j = if j = a1.toNatClampNeg then 1 else σ0.1 189 j) ∧ zKs σ') ∨ (r = 0 ∧ ¬ (0 ≤ a1.toInt ∧ a1.toInt < 2) ∧ σ' = za_si σ0 93 0 0))) (zB E) (za_A E)) args s 0 0 (za_A E)) 26 [(0, za_O 19 93), (1, za_I a1), (2, za_I y2_26)] [] σ := by
      intro n
      induction n with
      | zero => intro y2_26 σ hz i2_26 u2_26 hn; exact absurd hn (Nat.not_lt_zero _)
      | succ n ih_26 =>
        intro y2_26 σ hz i2_26 u2_26 hn_26
        refine zv_iload_n (j := 2) G dX10_keep_26 rfl rfl ?_
        refine zv_sipush (v := 2001) G dX10_keep_27 (by decide) ?_
        refine zv_icmp_ge (tgt := 57) G dX10_keep_30 (by decide) (fun c_30 => ?_) (fun c_30 => ?_)
        · have k_30 := z_cle c_30 (a := 2001) (b := y2_26.toInt) rfl rfl
          refine zv_iconst (v := 1) G dX10_keep_57 (by decide) ?_
          exact zv_zret G hr dX10_keep_58 (by decide) ⟨Or.inr rfl, Or.inl ⟨rfl, by omega, z_kp hJ w9 hz (by omega)⟩⟩
        · have b_30 : 0 ≤ y2_26.toInt ∧ y2_26.toInt < 2001 := ⟨i2_26, z_ltk c_30 rfl⟩
          have k_30 := z_cnle c_30 (a := 2001) (b := y2_26.toInt) rfl rfl
          have hx9 := z_kx2 w9 b_30
          refine zv_aload_n (j := 0) G dX10_keep_33 rfl rfl ?_
          refine zg_X10_154 G dX10_keep_34 ?_
          refine zv_sipush (v := 2001) G dX10_keep_37 (by decide) ?_
          refine zv_iload_n (j := 1) G dX10_keep_40 rfl rfl ?_
          refine zv_imul G dX10_keep_41 ?_
          refine zv_iload_n (j := 2) G dX10_keep_42 rfl rfl ?_
          refine zv_iadd G dX10_keep_43 ?_
          refine zv_aload_n (j := 0) G dX10_keep_44 rfl rfl ?_
          refine zg_X10_118 G dX10_keep_45 ?_
          refine zv_iload_n (j := 2) G dX10_keep_48 rfl rfl ?_
          refine zv_iald G (by decide) rfl (z_in (by omega) (by omega)) dX10_keep_49 ?_
          refine zv_iast G (by decide) rfl (fun _ => rfl) hx9.1 dX10_keep_50 ?_
          refine zv_gen (R9 := (fun σ => σ = zrw (za_si (za_si σ0 93 0 0) 189 a1.toNatClampNeg 1) 190 (2001 * a1.toInt.toNat) (y2_26.toInt.toNat + 1) (σ0.1 99))) (zrw_s hz hx9.2 (by rw [hz, zrw_o (by decide), (za_si_off 99 (by decide)).1, (za_si_off 99 (by decide)).1]; rfl)) (fun σ hz => ?_)
          obtain ⟨x_51, e_51⟩ : ∃ y : Int32, y = y2_26 + 1 := ⟨_, rfl⟩
          refine zv_iinc (j := 2) (v := x_51) (lv' := [(2, za_I x_51), (0, za_O 19 93), (1, za_I a1)]) G dX10_keep_51 rfl (by rw [e_51]; rfl) (by decide) rfl ?_
          first | have q_51 := z_inc9 (by omega) e_51 | skip
          refine zv_goto (tgt := 26) G dX10_keep_54 (by decide) ?_
          refine zv_sub [1, 2, 0] (lv' := [(0, za_O 19 93), (1, za_I a1), (2, za_I x_51)]) rfl ?_
          exact ih_26 x_51 σ (zrw_n hz (by omega)) (by have := z_inc c_30 e_51; omega) (by have := z_inc9 (by omega) e_51; omega) (z_meas c_30 e_51 hn_26)
    refine zv_istore_n (lv' := [(2, za_I 0), (0, za_O 19 93), (1, za_I a1)]) G dX10_keep_25 rfl (by decide) rfl ?_
    refine zv_sub [1, 2, 0] (lv' := [(0, za_O 19 93), (1, za_I a1), (2, za_I 0)]) rfl ?_
    exact J_26 _ (0 : Int32) σ (by rw [hz]; exact (zrw_0 _ 190 _ _).symm) (by decide) (by decide) (Nat.lt_succ_self _)
  · have f_9 := fun q9 => (h_9.2.mpr q9) c_12
    have w8 : ¬ (0 ≤ a1.toInt ∧ a1.toInt < 2) := fun c9 => f_9 (by have hL := z_lL; rw [z_w]; omega)
    refine zv_iconst (v := 0) G dX10_keep_15 (by decide) ?_
    exact zv_zret G hr dX10_keep_16 (by decide) ⟨Or.inl rfl, Or.inr ⟨rfl, w8, hz⟩⟩
set_option maxHeartbeats 4000000 in
set_option maxRecDepth 100000 in
theorem zc_X10_again (l : Launch) (E : za_E) (a1 : Int32) (σ0 : za_S) (hJ : zJ σ0) : zMi l E yX10_again cX10_again 3 (Option.some Jvm.ClassFile.FieldType.boolean) 2 46 [za_O 19 93, za_I a1] σ0 (fun r σ' => (r = 0 ∨ r = 1) ∧ zm 12 10 σ0 σ' ∧ (r = 1 ↔ (0 ≤ a1.toInt ∧ a1.toInt < 2) ∧ ¬ σ0.1 189 a1.toNatClampNeg = 0)) := by
  refine zMi_of [(0, za_O 19 93), (1, za_I a1)] (by decide) rfl rfl (Nat.le_of_ble_eq_true rfl) ?_
  intro ho p e s m args below meth c G hr
  refine zv_gen (R9 := zm 12 10 σ0) (zmz hJ) (fun σ hz => ?_)
  refine zv_aload_n (j := 0) G dX10_again_0 rfl rfl ?_
  refine zv_iconst (v := 0) G dX10_again_1 (by decide) ?_
  refine zp_X10_3 G dX10_again_2 ?_
  refine zv_gen (R9 := zm 12 10 σ0) (zm_f93 hz (by decide)) (fun σ hz => ?_)
  refine zv_iload_n (j := 1) G dX10_again_5 rfl rfl ?_
  refine zv_i2l G dX10_again_6 ?_
  refine zv_lconst (v := 0) G dX10_again_7 (by decide) ?_
  refine zv_lconst (v := 1) G dX10_again_8 (by decide) ?_
  refine zv_callSi (as := [za_L a1.toInt64, za_L 0, za_L 1]) G (zc_X10_in l E a1.toInt64 0 1 σ ) zk_X10_in zm_1180 rfl ⟨(Nat.le_of_ble_eq_true rfl), (Nat.le_of_ble_eq_true rfl)⟩ ⟨Nat.zero_le _, Nat.zero_le _⟩ (Nat.le_of_ble_eq_true rfl) dX10_again_9 (fun r_9 σ h_9 => ?_)
  obtain ⟨h_9, rfl⟩ := h_9
  refine zv_if_eq (tgt := 24) G dX10_again_12 (by decide) (fun c_12 => ?_) (fun c_12 => ?_)
  · have f_9 := fun q9 => (h_9.2.mpr q9) c_12
    have w8 : ¬ (0 ≤ a1.toInt ∧ a1.toInt < 2) := fun c9 => f_9 (by have hL := z_lL; rw [z_w]; omega)
    refine zv_iconst (v := 0) G dX10_again_24 (by decide) ?_
    exact zv_zret G hr dX10_again_25 (by decide) (by first | exact ⟨Or.inl rfl, hz, z_aga0 c_21⟩ | exact ⟨Or.inl rfl, hz, z_agaN w8⟩)
  · have t_9 := h_9.2.mp c_12
    have w9 := z_i2 t_9
    have e189 : σ.1 189 = σ0.1 189 := (hz.1.1.1 189 (by decide)).1
    refine zv_aload_n (j := 0) G dX10_again_15 rfl rfl ?_
    refine zg_X10_150 G dX10_again_16 ?_
    refine zv_iload_n (j := 1) G dX10_again_19 rfl rfl ?_
    refine zv_zald G (by decide) rfl (z_in w9.1 (by omega)) dX10_again_20 ?_
    refine zv_if_ne (tgt := 26) G dX10_again_21 (by decide) (fun c_21 => ?_) (fun c_21 => ?_)
    · have k_21 := z_cne c_21 (a := (σ.1 189 a1.toNatClampNeg).toInt) (b := 0) rfl rfl
      rw [e189] at c_21
      refine zv_iconst (v := 0) G dX10_again_26 (by decide) ?_
      have J_28 : ∀ (n : Nat) (y2_28 : Int32) (σ1 : za_S) (σ : za_S) (h1 : zm 12 10 σ0 σ1) (hz : σ = zrw σ1 99 0 y2_28.toInt.toNat (fun i => σ1.1 190 (2001 * a1.toInt.toNat + i))) (i2_28 : 0 ≤ y2_28.toInt) (u2_28 : y2_28.toInt ≤ 2001) (hn_28 : (2147483648 - y2_28.toInt).toNat < n), zV p l e (zRm 2 46) s m args below meth c E (za_A E) 3 0 0 (MQ below (va_Qi (fun r σ' => (r = 0 ∨ r = 1) ∧ zm 12 10 σ0 σ' ∧ (r = 1 ↔ (0 ≤ a1.toInt ∧ a1.toInt < 2) ∧ ¬ σ0.1 189 a1.toNatClampNeg = 0)) (zB E) (za_A E)) args s 0 0 (za_A E)) 28 [(0, za_O 19 93), (1, za_I a1), (2, za_I y2_28)] [] σ := by
        intro n
        induction n with
        | zero => intro y2_28 σ1 σ h1 hz i2_28 u2_28 hn; exact absurd hn (Nat.not_lt_zero _)
        | succ n ih_28 =>
          intro y2_28 σ1 σ h1 hz i2_28 u2_28 hn_28
          refine zv_iload_n (j := 2) G dX10_again_28 rfl rfl ?_
          refine zv_sipush (v := 2001) G dX10_again_29 (by decide) ?_
          refine zv_icmp_ge (tgt := 59) G dX10_again_32 (by decide) (fun c_32 => ?_) (fun c_32 => ?_)
          · have k_32 := z_cle c_32 (a := 2001) (b := y2_28.toInt) rfl rfl
            have hz := zm_ag hJ h1 (by omega) hz (by omega)
            refine zv_aload_n (j := 0) G dX10_again_59 rfl rfl ?_
            refine zv_iconst (v := 0) G dX10_again_60 (by decide) ?_
            refine zp_X10_205 G dX10_again_61 ?_
            refine zv_gen (R9 := zm 12 10 σ0) (zm_u hz (by decide)) (fun σ hz => ?_)
            refine zv_iconst (v := 1) G dX10_again_64 (by decide) ?_
            exact zv_zret G hr dX10_again_65 (by decide) ⟨Or.inr rfl, hz, z_aga1 (by omega) c_21⟩
          · have b_32 : 0 ≤ y2_28.toInt ∧ y2_28.toInt < 2001 := ⟨i2_28, z_ltk c_32 rfl⟩
            have k_32 := z_cnle c_32 (a := 2001) (b := y2_28.toInt) rfl rfl
            have hx9 := z_kx2 w9 b_32
            refine zv_aload_n (j := 0) G dX10_again_35 rfl rfl ?_
            refine zg_X10_118 G dX10_again_36 ?_
            refine zv_iload_n (j := 2) G dX10_again_39 rfl rfl ?_
            refine zv_aload_n (j := 0) G dX10_again_40 rfl rfl ?_
            refine zg_X10_154 G dX10_again_41 ?_
            refine zv_sipush (v := 2001) G dX10_again_44 (by decide) ?_
            refine zv_iload_n (j := 1) G dX10_again_47 rfl rfl ?_
            refine zv_imul G dX10_again_48 ?_
            refine zv_iload_n (j := 2) G dX10_again_49 rfl rfl ?_
            refine zv_iadd G dX10_again_50 ?_
            refine zv_iald G (by decide) rfl hx9.1 dX10_again_51 ?_
            refine zv_iast G (by decide) rfl (fun _ => rfl) (z_in (by omega) (by omega)) dX10_again_52 ?_
            refine zv_gen (R9 := (fun σ => σ = zrw σ1 99 0 (y2_28.toInt.toNat + 1) (fun i => σ1.1 190 (2001 * a1.toInt.toNat + i)))) (zrw_s hz (by show y2_28.toInt.toNat = _; omega) (by rw [hx9.2, hz, zrw_o (by decide)])) (fun σ hz => ?_)
            obtain ⟨x_53, e_53⟩ : ∃ y : Int32, y = y2_28 + 1 := ⟨_, rfl⟩
            refine zv_iinc (j := 2) (v := x_53) (lv' := [(2, za_I x_53), (0, za_O 19 93), (1, za_I a1)]) G dX10_again_53 rfl (by rw [e_53]; rfl) (by decide) rfl ?_
            first | have q_53 := z_inc9 (by omega) e_53 | skip
            refine zv_goto (tgt := 28) G dX10_again_56 (by decide) ?_
            refine zv_sub [1, 2, 0] (lv' := [(0, za_O 19 93), (1, za_I a1), (2, za_I x_53)]) rfl ?_
            exact ih_28 x_53 σ1 σ h1 (zrw_n hz (by omega)) (by have := z_inc c_32 e_53; omega) (by have := z_inc9 (by omega) e_53; omega) (z_meas c_32 e_53 hn_28)
      refine zv_istore_n (lv' := [(2, za_I 0), (0, za_O 19 93), (1, za_I a1)]) G dX10_again_27 rfl (by decide) rfl ?_
      refine zv_sub [1, 2, 0] (lv' := [(0, za_O 19 93), (1, za_I a1), (2, za_I 0)]) rfl ?_
      exact J_28 _ (0 : Int32) σ σ hz (zrw_0 σ 99 0 _).symm (by decide) (by decide) (Nat.lt_succ_self _)
    · have k_21 := z_ceq c_21 (a := (σ.1 189 a1.toNatClampNeg).toInt) (b := 0) rfl rfl
      rw [e189] at c_21
      refine zv_iconst (v := 0) G dX10_again_24 (by decide) ?_
      exact zv_zret G hr dX10_again_25 (by decide) (by first | exact ⟨Or.inl rfl, hz, z_aga0 c_21⟩ | exact ⟨Or.inl rfl, hz, z_agaN w8⟩)
set_option maxHeartbeats 4000000 in
set_option maxRecDepth 100000 in
theorem zc_X10_refuse (l : Launch) (E : za_E)  (σ0 : za_S) (hJ : zJ σ0) : zMi l E yX10_refuse cX10_refuse 1 (Option.some Jvm.ClassFile.FieldType.int) 1 21 [za_O 19 93] σ0 (fun r σ' => zq 12 σ0 σ') := by
  refine zMi_of [(0, za_O 19 93)] (by decide) rfl rfl (Nat.le_of_ble_eq_true rfl) ?_
  intro ho p e s m args below meth c G hr
  refine zv_gen (R9 := zq 12 σ0) (zq_0 hJ) (fun σ hz => ?_)
  refine zv_aload_n (j := 0) G dX10_refuse_0 rfl rfl ?_
  refine zv_iconst (v := 1) G dX10_refuse_1 (by decide) ?_
  refine zp_X10_3 G dX10_refuse_2 ?_
  refine zv_gen (R9 := zq 12 σ0) (zq_93 hz (by decide)) (fun σ hz => ?_)
  refine zv_iconst (v := 0) G dX10_refuse_5 (by decide) ?_
  exact zv_iret G hr dX10_refuse_6 (zq_m hz (by first | decide | omega | (have hL := z_lits; omega)))
set_option maxHeartbeats 4000000 in
set_option maxRecDepth 100000 in
theorem zc_X10_entry (l : Launch) (E : za_E) (t : Int32) (i9 : Int32) (wh : Int32) (σ0 : za_S) (hJ : zJ σ0) : zMi l E yX10_entry cX10_entry 4 (Option.some Jvm.ClassFile.FieldType.int) 6 138 [za_O 19 93, za_I t, za_I i9, za_I wh] σ0 (fun r σ' => zq 12 σ0 σ') := by
  refine zMi_of [(0, za_O 19 93), (1, za_I t), (2, za_I i9), (3, za_I wh)] (by decide) rfl rfl (Nat.le_of_ble_eq_true rfl) ?_
  intro ho p e s m args below meth c G hr
  refine zv_gen (R9 := zq 12 σ0) (zq_0 hJ) (fun σ hz => ?_)
  refine zv_aload_n (j := 0) G dX10_entry_0 rfl rfl ?_
  refine zv_iconst (v := 0) G dX10_entry_1 (by decide) ?_
  refine zp_X10_3 G dX10_entry_2 ?_
  refine zv_gen (R9 := zq 12 σ0) (zq_93 hz (by decide)) (fun σ hz => ?_)
  refine zv_iload_n (j := 1) G dX10_entry_5 rfl rfl ?_
  refine zv_callSi (as := [za_I t]) G (zc_X10_isTable l E t σ ) zk_X10_isTable zm_1309 rfl ⟨(Nat.le_of_ble_eq_true rfl), (Nat.le_of_ble_eq_true rfl)⟩ ⟨Nat.zero_le _, Nat.zero_le _⟩ (Nat.le_of_ble_eq_true rfl) dX10_entry_6 (fun r_6 σ h_6 => ?_)
  obtain ⟨h_6, rfl⟩ := h_6
  refine zv_if_eq (tgt := 41) G dX10_entry_9 (by decide) (fun c_9 => ?_) (fun c_9 => ?_)
  · have f_6 := fun q9 => (h_6.2.mpr q9) c_9
    refine zv_aload_n (j := 0) G dX10_entry_41 rfl rfl ?_
    refine zv_callVi (as := []) G (by decide) rfl rfl (zc_X10_refuse l E  σ (zq_J hJ (zq_m hz (by first | decide | omega)))) zk_X10_refuse zm_1330 rfl ⟨(Nat.le_of_ble_eq_true rfl), (Nat.le_of_ble_eq_true rfl)⟩ ⟨Nat.zero_le _, Nat.zero_le _⟩ (Nat.le_of_ble_eq_true rfl) dX10_entry_42 (fun r_42 σ h_42 => ?_)
    have hz9 := h_42
    have hz : zq 12 σ0 σ := zq_tr hz hz9
    exact zv_iret G hr dX10_entry_45 (zq_m hz (by first | decide | omega | (have hL := z_lits; omega)))
  · have t_6 := h_6.2.mp c_9
    refine zv_iload_n (j := 2) G dX10_entry_12 rfl rfl ?_
    refine zv_if_lt (tgt := 41) G dX10_entry_13 (by decide) (fun c_13 => ?_) (fun c_13 => ?_)
    · have k_13 := z_clt c_13 (a := i9.toInt) (b := 0) rfl rfl
      refine zv_aload_n (j := 0) G dX10_entry_41 rfl rfl ?_
      refine zv_callVi (as := []) G (by decide) rfl rfl (zc_X10_refuse l E  σ (zq_J hJ (zq_m hz (by first | decide | omega)))) zk_X10_refuse zm_1330 rfl ⟨(Nat.le_of_ble_eq_true rfl), (Nat.le_of_ble_eq_true rfl)⟩ ⟨Nat.zero_le _, Nat.zero_le _⟩ (Nat.le_of_ble_eq_true rfl) dX10_entry_42 (fun r_42 σ h_42 => ?_)
      have hz9 := h_42
      have hz : zq 12 σ0 σ := zq_tr hz hz9
      exact zv_iret G hr dX10_entry_45 (zq_m hz (by first | decide | omega | (have hL := z_lits; omega)))
    · have k_13 := z_cnlt c_13 (a := i9.toInt) (b := 0) rfl rfl
      refine zv_iload_n (j := 3) G dX10_entry_16 rfl rfl ?_
      refine zv_i2l G dX10_entry_17 ?_
      refine zv_lconst (v := 0) G dX10_entry_18 (by decide) ?_
      refine zv_ldc2 (v := 4) G dX10_entry_19 zm_1312 ?_
      refine zv_callSi (as := [za_L wh.toInt64, za_L 0, za_L 4]) G (zc_X10_in l E wh.toInt64 0 4 σ ) zk_X10_in zm_1180 rfl ⟨(Nat.le_of_ble_eq_true rfl), (Nat.le_of_ble_eq_true rfl)⟩ ⟨Nat.zero_le _, Nat.zero_le _⟩ (Nat.le_of_ble_eq_true rfl) dX10_entry_22 (fun r_22 σ h_22 => ?_)
      obtain ⟨h_22, rfl⟩ := h_22
      refine zv_if_eq (tgt := 41) G dX10_entry_25 (by decide) (fun c_25 => ?_) (fun c_25 => ?_)
      · have f_22 := fun q9 => (h_22.2.mpr q9) c_25
        refine zv_aload_n (j := 0) G dX10_entry_41 rfl rfl ?_
        refine zv_callVi (as := []) G (by decide) rfl rfl (zc_X10_refuse l E  σ (zq_J hJ (zq_m hz (by first | decide | omega)))) zk_X10_refuse zm_1330 rfl ⟨(Nat.le_of_ble_eq_true rfl), (Nat.le_of_ble_eq_true rfl)⟩ ⟨Nat.zero_le _, Nat.zero_le _⟩ (Nat.le_of_ble_eq_true rfl) dX10_entry_42 (fun r_42 σ h_42 => ?_)
        have hz9 := h_42
        have hz : zq 12 σ0 σ := zq_tr hz hz9
        exact zv_iret G hr dX10_entry_45 (zq_m hz (by first | decide | omega | (have hL := z_lits; omega)))
      · have t_22 := h_22.2.mp c_25
        refine zv_aload_n (j := 0) G dX10_entry_28 rfl rfl ?_
        refine zv_aload_n (j := 0) G dX10_entry_29 rfl rfl ?_
        refine zg_X10_118 G dX10_entry_30 ?_
        refine zv_iload_n (j := 1) G dX10_entry_33 rfl rfl ?_
        refine zv_iload_n (j := 2) G dX10_entry_34 rfl rfl ?_
        refine zv_callVi (as := [za_O 22 99, za_I t, za_I i9]) G (by decide) rfl rfl (zc_X10_seeks l E 99 t i9 σ (by first | assumption | decide | omega | exact hz.2.1.1 | exact hz.2.1.2) (by first | assumption | decide | omega | exact hz.2.1.1 | exact hz.2.1.2)) zk_X10_seeks zm_1313 rfl ⟨(Nat.le_of_ble_eq_true rfl), (Nat.le_of_ble_eq_true rfl)⟩ ⟨Nat.zero_le _, Nat.zero_le _⟩ (Nat.le_of_ble_eq_true rfl) dX10_entry_35 (fun r_35 σ h_35 => ?_)
        obtain ⟨h_35, s_35⟩ := h_35
        have n_35 := zq_n hz s_35
        have hz : zq 12 σ0 σ := zq_s hz s_35
        refine zv_if_ne (tgt := 46) G dX10_entry_38 (by decide) (fun c_38 => ?_) (fun c_38 => ?_)
        · refine zv_iload_n (j := 3) G dX10_entry_46 rfl rfl ?_
          rcases Decidable.em (wh = 0) with q_47_0 | q_47_0
          · refine zv_tabIn (off := 29) (tgt := 76) G dX10_entry_47 (by rw [q_47_0]; decide) (by rw [q_47_0]; decide) (by rw [q_47_0]; rfl) (by decide) ?_
            refine zv_aload_n (j := 0) G dX10_entry_76 rfl rfl ?_
            refine zg_X10_191 G dX10_entry_77 ?_
            exact zv_iret G hr dX10_entry_80 (zq_m hz (by first | decide | omega | (have hL := z_lits; omega)))
          rcases Decidable.em (wh = 1) with q_47_1 | q_47_1
          · refine zv_tabIn (off := 34) (tgt := 81) G dX10_entry_47 (by rw [q_47_1]; decide) (by rw [q_47_1]; decide) (by rw [q_47_1]; rfl) (by decide) ?_
            refine zv_aload_n (j := 0) G dX10_entry_81 rfl rfl ?_
            refine zg_X10_118 G dX10_entry_82 ?_
            refine zv_iload_n (j := 1) G dX10_entry_85 rfl rfl ?_
            refine zv_aload_n (j := 0) G dX10_entry_86 rfl rfl ?_
            refine zg_X10_191 G dX10_entry_87 ?_
            refine zv_aload_n (j := 0) G dX10_entry_90 rfl rfl ?_
            refine zg_X10_194 G dX10_entry_91 ?_
            refine zv_callSi (as := [za_O 22 99, za_I t, za_I (σ.1 93 15), za_I (σ.1 93 16)]) G (zc_X10_valueOn l E 99 t (σ.1 93 15) (σ.1 93 16) σ (by first | assumption | decide | omega | exact hz.2.1.1 | exact hz.2.1.2) (by first | assumption | decide | omega | exact hz.2.1.1 | exact hz.2.1.2) (by first | assumption | decide | omega | exact hz.2.1.1 | exact hz.2.1.2)) zk_X10_valueOn zm_1334 rfl ⟨(Nat.le_of_ble_eq_true rfl), (Nat.le_of_ble_eq_true rfl)⟩ ⟨Nat.zero_le _, Nat.zero_le _⟩ (Nat.le_of_ble_eq_true rfl) dX10_entry_94 (fun r_94 σ h_94 => ?_)
            obtain ⟨h_94, rfl⟩ := h_94
            exact zv_iret G hr dX10_entry_97 (zq_m hz (by first | decide | omega | (have hL := z_lits; omega)))
          rcases Decidable.em (wh = 2) with q_47_2 | q_47_2
          · refine zv_tabIn (off := 51) (tgt := 98) G dX10_entry_47 (by rw [q_47_2]; decide) (by rw [q_47_2]; decide) (by rw [q_47_2]; rfl) (by decide) ?_
            refine zv_aload_n (j := 0) G dX10_entry_98 rfl rfl ?_
            refine zg_X10_194 G dX10_entry_99 ?_
            exact zv_iret G hr dX10_entry_102 (zq_m hz (by first | decide | omega | (have hL := z_lits; omega)))
          rcases Decidable.em (wh = 3) with q_47_3 | q_47_3
          · refine zv_tabIn (off := 56) (tgt := 103) G dX10_entry_47 (by rw [q_47_3]; decide) (by rw [q_47_3]; decide) (by rw [q_47_3]; rfl) (by decide) ?_
            refine zv_aload_n (j := 0) G dX10_entry_103 rfl rfl ?_
            refine zg_X10_118 G dX10_entry_104 ?_
            refine zv_iload_n (j := 1) G dX10_entry_107 rfl rfl ?_
            refine zv_aload_n (j := 0) G dX10_entry_108 rfl rfl ?_
            refine zg_X10_191 G dX10_entry_109 ?_
            refine zv_aload_n (j := 0) G dX10_entry_112 rfl rfl ?_
            refine zg_X10_194 G dX10_entry_113 ?_
            refine zv_callSi (as := [za_O 22 99, za_I t, za_I (σ.1 93 15), za_I (σ.1 93 16)]) G (zc_X10_toOf l E 99 t (σ.1 93 15) (σ.1 93 16) σ (by first | assumption | decide | omega | exact hz.2.1.1 | exact hz.2.1.2) (by first | assumption | decide | omega | exact hz.2.1.1 | exact hz.2.1.2) (by first | assumption | decide | omega | exact hz.2.1.1 | exact hz.2.1.2)) zk_X10_toOf zm_1337 rfl ⟨(Nat.le_of_ble_eq_true rfl), (Nat.le_of_ble_eq_true rfl)⟩ ⟨Nat.zero_le _, Nat.zero_le _⟩ (Nat.le_of_ble_eq_true rfl) dX10_entry_116 (fun r_116 σ h_116 => ?_)
            obtain ⟨h_116, rfl⟩ := h_116
            exact zv_iret G hr dX10_entry_119 (zq_m hz (by first | decide | omega | (have hL := z_lits; omega)))
          have n_47_0 := lv_neT q_47_0 (a := 0) rfl
          have n_47_1 := lv_neT q_47_1 (a := 1) rfl
          have n_47_2 := lv_neT q_47_2 (a := 2) rfl
          have n_47_3 := lv_neT q_47_3 (a := 3) rfl
          refine zv_tabOut (tgt := 120) G dX10_entry_47 (by omega) (by decide) ?_
          refine zv_aload_n (j := 0) G dX10_entry_120 rfl rfl ?_
          refine zg_X10_118 G dX10_entry_121 ?_
          refine zv_iload_n (j := 1) G dX10_entry_124 rfl rfl ?_
          refine zv_aload_n (j := 0) G dX10_entry_125 rfl rfl ?_
          refine zg_X10_191 G dX10_entry_126 ?_
          refine zv_aload_n (j := 0) G dX10_entry_129 rfl rfl ?_
          refine zg_X10_194 G dX10_entry_130 ?_
          refine zv_callSi (as := [za_O 22 99, za_I t, za_I (σ.1 93 15), za_I (σ.1 93 16)]) G (zc_X10_refOn l E 99 t (σ.1 93 15) (σ.1 93 16) σ (by first | assumption | decide | omega | exact hz.2.1.1 | exact hz.2.1.2) (by first | assumption | decide | omega | exact hz.2.1.1 | exact hz.2.1.2) (by first | assumption | decide | omega | exact hz.2.1.1 | exact hz.2.1.2)) zk_X10_refOn zm_1340 rfl ⟨(Nat.le_of_ble_eq_true rfl), (Nat.le_of_ble_eq_true rfl)⟩ ⟨Nat.zero_le _, Nat.zero_le _⟩ (Nat.le_of_ble_eq_true rfl) dX10_entry_133 (fun r_133 σ h_133 => ?_)
          obtain ⟨h_133, rfl⟩ := h_133
          exact zv_iret G hr dX10_entry_136 (zq_m hz (by first | decide | omega | (have hL := z_lits; omega)))
        · refine zv_aload_n (j := 0) G dX10_entry_41 rfl rfl ?_
          refine zv_callVi (as := []) G (by decide) rfl rfl (zc_X10_refuse l E  σ (zq_J hJ (zq_m hz (by first | decide | omega)))) zk_X10_refuse zm_1330 rfl ⟨(Nat.le_of_ble_eq_true rfl), (Nat.le_of_ble_eq_true rfl)⟩ ⟨Nat.zero_le _, Nat.zero_le _⟩ (Nat.le_of_ble_eq_true rfl) dX10_entry_42 (fun r_42 σ h_42 => ?_)
          have hz9 := h_42
          have hz : zq 12 σ0 σ := zq_tr hz hz9
          exact zv_iret G hr dX10_entry_45 (zq_m hz (by first | decide | omega | (have hL := z_lits; omega)))
set_option maxHeartbeats 4000000 in
set_option maxRecDepth 100000 in
theorem zc_X10_sheet (l : Launch) (E : za_E) (a1 : Int32) (a2 : Int32) (a3 : Int32) (a4 : Int32) (σ0 : za_S) (hJ : zJ σ0) : zMi l E yX10_sheet cX10_sheet 12 (Option.some Jvm.ClassFile.FieldType.int) 6 138 [za_O 19 93, za_I a1, za_I a2, za_I a3, za_I a4] σ0 (fun r σ' => zm 12 10 σ0 σ') := by
  refine zMi_of [(0, za_O 19 93), (1, za_I a1), (2, za_I a2), (3, za_I a3), (4, za_I a4)] (by decide) rfl rfl (Nat.le_of_ble_eq_true rfl) ?_
  intro ho p e s m args below meth c G hr
  refine zv_gen (R9 := zms σ0) (zms_z hJ) (fun σ hz => ?_)
  refine zv_aload_n (j := 0) G dX10_sheet_0 rfl rfl ?_
  refine zv_iconst (v := 0) G dX10_sheet_1 (by decide) ?_
  refine zp_X10_3 G dX10_sheet_2 ?_
  refine zv_gen (R9 := zms σ0) (zms_f hz) (fun σ hz => ?_)
  refine zv_iload_n (j := 1) G dX10_sheet_5 rfl rfl ?_
  refine zv_i2l G dX10_sheet_6 ?_
  refine zv_lconst (v := 0) G dX10_sheet_7 (by decide) ?_
  refine zv_ldc2 (v := 3) G dX10_sheet_8 zm_1347 ?_
  refine zv_callSi (as := [za_L a1.toInt64, za_L 0, za_L 3]) G (zc_X10_in l E a1.toInt64 0 3 σ ) zk_X10_in zm_1180 rfl ⟨(Nat.le_of_ble_eq_true rfl), (Nat.le_of_ble_eq_true rfl)⟩ ⟨Nat.zero_le _, Nat.zero_le _⟩ (Nat.le_of_ble_eq_true rfl) dX10_sheet_11 (fun r_11 σ h_11 => ?_)
  obtain ⟨h_11, rfl⟩ := h_11
  refine zv_if_eq (tgt := 23) G dX10_sheet_14 (by decide) (fun c_14 => ?_) (fun c_14 => ?_)
  · have f_11 := fun q9 => (h_11.2.mpr q9) c_14
    refine zv_iconst (v := (-1)) G dX10_sheet_23 (by decide) ?_
    exact zv_iret G hr dX10_sheet_24 hz.1
  · have t_11 := h_11.2.mp c_14
    refine zv_iload_n (j := 2) G dX10_sheet_17 rfl rfl ?_
    refine zv_bipush (v := 20) G dX10_sheet_18 (by decide) ?_
    refine zv_icmp_le (tgt := 25) G dX10_sheet_20 (by decide) (fun c_20 => ?_) (fun c_20 => ?_)
    · have k_20 := z_cle c_20 (a := a2.toInt) (b := 20) rfl rfl
      refine zv_iload_n (j := 1) G dX10_sheet_25 rfl rfl ?_
      refine zv_iconst (v := 3) G dX10_sheet_26 (by decide) ?_
      refine zv_icmp_eq (tgt := 37) G dX10_sheet_27 (by decide) (fun c_27 => ?_) (fun c_27 => ?_)
      · have k_27 := z_ceq c_27 (a := a1.toInt) (b := 3) rfl rfl
        refine zv_iconst (v := 0) G dX10_sheet_37 (by decide) ?_
        refine zv_istore (lv' := [(5, za_I 0), (0, za_O 19 93), (1, za_I a1), (2, za_I a2), (3, za_I a3), (4, za_I a4)]) G dX10_sheet_38 (by decide) rfl ?_
        refine zv_aload_n (j := 1) G dX10_sheet_40 rfl rfl ?_
        refine zg_X10_118 G dX10_sheet_41 ?_
        refine zv_iconst (v := 0) G dX10_sheet_44 (by decide) ?_
        refine zv_callSi (as := [za_O 22 99, za_I 0]) G (zc_X10_rowsOf l E 99 (0 : Int32) σ (by first | assumption | decide | omega)) zk_X10_rowsOf zm_1348 rfl ⟨(Nat.le_of_ble_eq_true rfl), (Nat.le_of_ble_eq_true rfl)⟩ ⟨Nat.zero_le _, Nat.zero_le _⟩ (Nat.le_of_ble_eq_true rfl) dX10_sheet_45 (fun r_45 σ h_45 => ?_)
        obtain ⟨h_45, rfl⟩ := h_45
        have m_45 : r_45.toInt = (zcn (σ0.1 99) 0 : Nat) := by rw [h_45, show (0 : Int32).toInt.toNat = 0 by decide, zsh_e (t := 0) (by decide) hz.2]
        refine zv_istore (lv' := [(6, za_I r_45), (5, za_I 0), (0, za_O 19 93), (1, za_I a1), (2, za_I a2), (3, za_I a3), (4, za_I a4)]) G dX10_sheet_48 (by decide) rfl ?_
        refine zv_iconst (v := 0) G dX10_sheet_50 (by decide) ?_
        have J_53 : ∀ (n : Nat) (y5_53 : Int32) (y7_53 : Int32) (σ : za_S) (hz : zms σ0 σ) (i7_53 : 0 ≤ y7_53.toInt) (hn_53 : (2147483648 - y7_53.toInt).toNat < n), zV p l e (zRm 6 138) s m args below meth c E (za_A E) 12 0 0 (MQ below (va_Qi (fun r σ' => zm 12 10 σ0 σ') (zB E) (za_A E)) args s 0 0 (za_A E)) 53 [(0, za_O 19 93), (1, za_I a1), (2, za_I a2), (3, za_I a3), (4, za_I a4), (5, za_I y5_53), (6, za_I r_45), (7, za_I y7_53)] [] σ := by
          intro n
          induction n with
          | zero => intro y5_53 y7_53 σ hz i7_53 hn; exact absurd hn (Nat.not_lt_zero _)
          | succ n ih_53 =>
            intro y5_53 y7_53 σ hz i7_53 hn_53
            refine zv_iload (j := 7) G dX10_sheet_53 rfl ?_
            refine zv_iload (j := 6) G dX10_sheet_55 rfl ?_
            refine zv_icmp_ge (tgt := 226) G dX10_sheet_57 (by decide) (fun c_57 => ?_) (fun c_57 => ?_)
            · have k_57 := z_cle c_57 (a := r_45.toInt) (b := y7_53.toInt) rfl rfl
              refine zv_iload_n (j := 1) G dX10_sheet_226 rfl rfl ?_
              refine zv_iconst (v := 3) G dX10_sheet_227 (by decide) ?_
              refine zv_icmp_ne (tgt := 236) G dX10_sheet_228 (by decide) (fun c_228 => ?_) (fun c_228 => ?_)
              · have k_228 := z_cne c_228 (a := a1.toInt) (b := 3) rfl rfl
                refine zv_iload (j := 5) G dX10_sheet_236 rfl ?_
                exact zv_iret G hr dX10_sheet_238 hz.1
              · have k_228 := z_ceq c_228 (a := a1.toInt) (b := 3) rfl rfl
                refine zv_bipush (v := (-3)) G dX10_sheet_231 (by decide) ?_
                refine zv_goto (tgt := 238) G dX10_sheet_233 (by decide) ?_
                exact zv_iret G hr dX10_sheet_238 hz.1
            · have k_57 := z_cnle c_57 (a := r_45.toInt) (b := y7_53.toInt) rfl rfl
              refine zv_iload_n (j := 3) G dX10_sheet_60 rfl rfl ?_
              refine zv_iload (j := 7) G dX10_sheet_61 rfl ?_
              refine zv_iload (j := 4) G dX10_sheet_63 rfl ?_
              refine zv_imul G dX10_sheet_65 ?_
              refine zv_iadd G dX10_sheet_66 ?_
              refine zv_top (fun x_67 e_67 => ?_)
              first | have q_67 := z_addf e_67 (a := a3.toInt) (b := (y7_53 * a4).toInt) rfl rfl (by omega) (by omega) | skip
              refine zv_istore (lv' := [(8, za_I x_67), (0, za_O 19 93), (1, za_I a1), (2, za_I a2), (3, za_I a3), (4, za_I a4), (5, za_I y5_53), (6, za_I r_45), (7, za_I y7_53)]) G dX10_sheet_67 (by decide) rfl ?_
              refine zv_iload_n (j := 2) G dX10_sheet_69 rfl rfl ?_
              have J_92 : ∀ (s0_92 : Int32) (σ : za_S) (hz : zms σ0 σ), zV p l e (zRm 6 138) s m args below meth c E (za_A E) 12 0 0 (MQ below (va_Qi (fun r σ' => zm 12 10 σ0 σ') (zB E) (za_A E)) args s 0 0 (za_A E)) 92 [(0, za_O 19 93), (1, za_I a1), (2, za_I a2), (3, za_I a3), (4, za_I a4), (5, za_I y5_53), (6, za_I r_45), (7, za_I y7_53)] [za_I s0_92] σ := by
                intro s0_92 σ hz
                refine zv_istore (lv' := [(9, za_I s0_92), (0, za_O 19 93), (1, za_I a1), (2, za_I a2), (3, za_I a3), (4, za_I a4), (5, za_I y5_53), (6, za_I r_45), (7, za_I y7_53)]) G dX10_sheet_92 (by decide) rfl ?_
                refine zv_iload_n (j := 2) G dX10_sheet_94 rfl rfl ?_
                refine zv_iconst (v := 3) G dX10_sheet_95 (by decide) ?_
                have J_120 : ∀ (s0_120 : Int32) (σ : za_S) (hz : zms σ0 σ) (v_120 : 0 ≤ s0_120.toInt ∧ s0_120.toInt ≤ 99), zV p l e (zRm 6 138) s m args below meth c E (za_A E) 12 0 0 (MQ below (va_Qi (fun r σ' => zm 12 10 σ0 σ') (zB E) (za_A E)) args s 0 0 (za_A E)) 120 [(0, za_O 19 93), (1, za_I a1), (2, za_I a2), (3, za_I a3), (4, za_I a4), (5, za_I y5_53), (6, za_I r_45), (7, za_I y7_53)] [za_I s0_120] σ := by
                  intro s0_120 σ hz v_120
                  refine zv_istore (lv' := [(10, za_I s0_120), (0, za_O 19 93), (1, za_I a1), (2, za_I a2), (3, za_I a3), (4, za_I a4), (5, za_I y5_53), (6, za_I r_45), (7, za_I y7_53)]) G dX10_sheet_120 (by decide) rfl ?_
                  refine zv_aload_n (j := 1) G dX10_sheet_122 rfl rfl ?_
                  refine zv_aload_n (j := 1) G dX10_sheet_123 rfl rfl ?_
                  refine zg_X10_118 G dX10_sheet_124 ?_
                  refine zv_iconst (v := 0) G dX10_sheet_127 (by decide) ?_
                  refine zv_iload (j := 8) G dX10_sheet_128 rfl ?_
                  refine zv_callVi (as := [za_O 22 99, za_I 0, za_I y7_53]) G (by decide) rfl rfl (zc_X10_seeks l E 99 (0 : Int32) y7_53 σ (by decide) (by omega)) zk_X10_seeks zm_1313 rfl ⟨(Nat.le_of_ble_eq_true rfl), (Nat.le_of_ble_eq_true rfl)⟩ ⟨Nat.zero_le _, Nat.zero_le _⟩ (Nat.le_of_ble_eq_true rfl) dX10_sheet_130 (fun r_130 σ h_130 => ?_)
                  obtain ⟨h_130, s_130⟩ := h_130
                  have w_130 := zms_s hz (by omega) s_130
                  have hz := w_130.1
                  refine zv_popI G dX10_sheet_133 ?_
                  refine zv_aload_n (j := 1) G dX10_sheet_134 rfl rfl ?_
                  refine zg_X10_118 G dX10_sheet_135 ?_
                  refine zv_iconst (v := 0) G dX10_sheet_138 (by decide) ?_
                  refine zv_aload_n (j := 1) G dX10_sheet_139 rfl rfl ?_
                  refine zg_X10_191 G dX10_sheet_140 ?_
                  refine zv_aload_n (j := 1) G dX10_sheet_143 rfl rfl ?_
                  refine zg_X10_194 G dX10_sheet_144 ?_
                  refine zv_callSi (as := [za_O 22 99, za_I 0, za_I (σ.1 93 15), za_I (σ.1 93 16)]) G (zc_X10_toOf l E 99 (0 : Int32) (σ.1 93 15) (σ.1 93 16) σ (by decide) hz.1.1.2.1.1 hz.1.1.2.1.2) zk_X10_toOf zm_1337 rfl ⟨(Nat.le_of_ble_eq_true rfl), (Nat.le_of_ble_eq_true rfl)⟩ ⟨Nat.zero_le _, Nat.zero_le _⟩ (Nat.le_of_ble_eq_true rfl) dX10_sheet_147 (fun r_147 σ h_147 => ?_)
                  obtain ⟨h_147, rfl⟩ := h_147
                  refine zv_iconst (v := 1) G dX10_sheet_150 (by decide) ?_
                  refine zv_isub G dX10_sheet_151 ?_
                  have J_154 : ∀ (n : Nat) (y11_154 : Int32) (σ : za_S) (hz : zms σ0 σ) (w_154 : zrg (σ0.1 99) (σ.1 93 15) (σ.1 93 16) y11_154) (l_154 : (σ.1 93 16).toInt - 1 ≤ y11_154.toInt ∧ 0 ≤ (σ.1 93 16).toInt) (hn_154 : (y11_154.toInt + 1).toNat < n), zV p l e (zRm 6 138) s m args below meth c E (za_A E) 12 0 0 (MQ below (va_Qi (fun r σ' => zm 12 10 σ0 σ') (zB E) (za_A E)) args s 0 0 (za_A E)) 154 [(0, za_O 19 93), (1, za_I a1), (2, za_I a2), (3, za_I a3), (4, za_I a4), (5, za_I y5_53), (6, za_I r_45), (7, za_I y7_53), (10, za_I s0_120), (11, za_I y11_154)] [] σ := by
                    intro n
                    induction n with
                    | zero => intro y11_154 σ hz w_154 l_154 hn; exact absurd hn (Nat.not_lt_zero _)
                    | succ n ih_154 =>
                      intro y11_154 σ hz w_154 l_154 hn_154
                      refine zv_iload (j := 9) G dX10_sheet_154 rfl ?_
                      refine zv_aload_n (j := 0) G dX10_sheet_156 rfl rfl ?_
                      refine zg_X10_194 G dX10_sheet_157 ?_
                      refine zv_icmp_lt (tgt := 213) G dX10_sheet_160 (by decide) (fun c_160 => ?_) (fun c_160 => ?_)
                      · have k_160 := z_clt c_160 (a := y11_154.toInt) (b := (σ.1 93 16).toInt) rfl rfl
                        refine zv_iload (j := 5) G dX10_sheet_213 rfl ?_
                        refine zv_iload (j := 8) G dX10_sheet_215 rfl ?_
                        refine zv_iadd G dX10_sheet_217 ?_
                        refine zv_top (fun x_218 e_218 => ?_)
                        first | have q_218 := z_addf e_218 (a := y5_53.toInt) (b := s0_120.toInt) rfl rfl (by omega) (by omega) | skip
                        refine zv_istore (lv' := [(5, za_I x_218), (0, za_O 19 93), (1, za_I a1), (2, za_I a2), (3, za_I a3), (4, za_I a4), (6, za_I r_45), (7, za_I y7_53), (10, za_I s0_120), (11, za_I y11_154)]) G dX10_sheet_218 (by decide) rfl ?_
                        obtain ⟨x_220, e_220⟩ : ∃ y : Int32, y = y7_53 + 1 := ⟨_, rfl⟩
                        refine zv_iinc (j := 7) (v := x_220) (lv' := [(7, za_I x_220), (5, za_I x_218), (0, za_O 19 93), (1, za_I a1), (2, za_I a2), (3, za_I a3), (4, za_I a4), (6, za_I r_45), (10, za_I s0_120), (11, za_I y11_154)]) G dX10_sheet_220 rfl (by rw [e_220]; rfl) (by decide) rfl ?_
                        first | have q_220 := z_inc9 (by omega) e_220 | skip
                        refine zv_goto (tgt := 53) G dX10_sheet_223 (by decide) ?_
                        refine zv_sub [2, 3, 4, 5, 6, 1, 7, 0] (lv' := [(0, za_O 19 93), (1, za_I a1), (2, za_I a2), (3, za_I a3), (4, za_I a4), (5, za_I x_218), (6, za_I r_45), (7, za_I x_220)]) rfl ?_
                        exact ih_53 x_218 x_220 σ hz (by have := z_inc c_57 e_220; omega) (z_meas c_57 e_220 hn_53)
                      · have k_160 := z_cnlt c_160 (a := y11_154.toInt) (b := (σ.1 93 16).toInt) rfl rfl
                        have w_163 := w_154 y11_154 (by omega) (by omega)
                        refine zv_aload_n (j := 0) G dX10_sheet_163 rfl rfl ?_
                        refine zg_X10_118 G dX10_sheet_164 ?_
                        refine zv_iconst (v := 0) G dX10_sheet_167 (by decide) ?_
                        refine zv_aload_n (j := 0) G dX10_sheet_168 rfl rfl ?_
                        refine zg_X10_191 G dX10_sheet_169 ?_
                        refine zv_iload (j := 9) G dX10_sheet_172 rfl ?_
                        refine zv_iload (j := 8) G dX10_sheet_174 rfl ?_
                        refine zv_aload_n (j := 0) G dX10_sheet_176 rfl rfl ?_
                        refine zg_X10_118 G dX10_sheet_177 ?_
                        refine zv_iconst (v := 0) G dX10_sheet_180 (by decide) ?_
                        refine zv_aload_n (j := 0) G dX10_sheet_181 rfl rfl ?_
                        refine zg_X10_191 G dX10_sheet_182 ?_
                        refine zv_iload (j := 9) G dX10_sheet_185 rfl ?_
                        refine zv_callSi (as := [za_O 22 99, za_I 0, za_I (σ.1 93 15), za_I y11_154]) G (zc_X10_refOn l E 99 (0 : Int32) (σ.1 93 15) y11_154 σ (by decide) hz.1.1.2.1.1 w_163.1.1) zk_X10_refOn zm_1340 rfl ⟨(Nat.le_of_ble_eq_true rfl), (Nat.le_of_ble_eq_true rfl)⟩ ⟨Nat.zero_le _, Nat.zero_le _⟩ (Nat.le_of_ble_eq_true rfl) dX10_sheet_187 (fun r_187 σ h_187 => ?_)
                        obtain ⟨h_187, rfl⟩ := h_187
                        refine zv_iload (j := 9) G dX10_sheet_190 rfl ?_
                        refine zv_aload_n (j := 0) G dX10_sheet_192 rfl rfl ?_
                        refine zg_X10_194 G dX10_sheet_193 ?_
                        refine zv_icmp_ne (tgt := 203) G dX10_sheet_196 (by decide) (fun c_196 => ?_) (fun c_196 => ?_)
                        · have k_196 := z_cne c_196 (a := y11_154.toInt) (b := (σ.1 93 16).toInt) rfl rfl
                          refine zv_iconst (v := 0) G dX10_sheet_203 (by decide) ?_
                          refine zv_callSv (as := [za_O 22 99, za_I 0, za_I (σ.1 93 15), za_I y11_154, za_I s0_120, za_I r_187, za_I 0]) G (zc_X10_lays l E 99 (0 : Int32) (σ.1 93 15) y11_154 s0_120 r_187 (0 : Int32) σ (by decide) hz.1.1.2.1.1 w_163.1.1) zk_X10_lays zm_1356 rfl ⟨(Nat.le_of_ble_eq_true rfl), (Nat.le_of_ble_eq_true rfl)⟩ ⟨Nat.zero_le _, Nat.zero_le _⟩ (Nat.le_of_ble_eq_true rfl) dX10_sheet_204 (fun σ h_204 => ?_)
                          have e93 := (congrArg (fun z => z.1 93) h_204).trans ((za_si_off 93 (by decide)).1)
                          have hz := zms_l hz hz.1.1.2.1.1 w_163.1 (by decide) (by first | exact ⟨fun _ => rfl, fun _ => w_163.2.mpr k_196⟩ | exact ⟨fun z => absurd (w_163.2.mp z) k_196, fun z => absurd z (by decide)⟩) v_120 h_187 h_204
                          rw [← e93] at w_154 l_154 k_160
                          obtain ⟨x_207, e_207⟩ : ∃ y : Int32, y = y11_154 + (-1) := ⟨_, rfl⟩
                          refine zv_iinc (j := 9) (v := x_207) (lv' := [(11, za_I x_207), (0, za_O 19 93), (1, za_I a1), (2, za_I a2), (3, za_I a3), (4, za_I a4), (5, za_I y5_53), (6, za_I r_45), (7, za_I y7_53), (10, za_I s0_120)]) G dX10_sheet_207 rfl (by rw [e_207]; rfl) (by decide) rfl ?_
                          first | have q_207 := z_dec9 (by omega) e_207 | skip
                          refine zv_goto (tgt := 154) G dX10_sheet_210 (by decide) ?_
                          refine zv_sub [1, 2, 3, 4, 5, 6, 7, 8, 9, 0] (lv' := [(0, za_O 19 93), (1, za_I a1), (2, za_I a2), (3, za_I a3), (4, za_I a4), (5, za_I y5_53), (6, za_I r_45), (7, za_I y7_53), (10, za_I s0_120), (11, za_I x_207)]) rfl ?_
                          exact ih_154 x_207 σ hz (fun x a1 a2 => w_154 x a1 (by omega)) (by omega) (by omega)
                        · have k_196 := z_ceq c_196 (a := y11_154.toInt) (b := (σ.1 93 16).toInt) rfl rfl
                          refine zv_iconst (v := 1) G dX10_sheet_199 (by decide) ?_
                          refine zv_goto (tgt := 204) G dX10_sheet_200 (by decide) ?_
                          refine zv_callSv (as := [za_O 22 99, za_I 0, za_I (σ.1 93 15), za_I y11_154, za_I s0_120, za_I r_187, za_I 1]) G (zc_X10_lays l E 99 (0 : Int32) (σ.1 93 15) y11_154 s0_120 r_187 (1 : Int32) σ (by decide) hz.1.1.2.1.1 w_163.1.1) zk_X10_lays zm_1356 rfl ⟨(Nat.le_of_ble_eq_true rfl), (Nat.le_of_ble_eq_true rfl)⟩ ⟨Nat.zero_le _, Nat.zero_le _⟩ (Nat.le_of_ble_eq_true rfl) dX10_sheet_204 (fun σ h_204 => ?_)
                          have e93 := (congrArg (fun z => z.1 93) h_204).trans ((za_si_off 93 (by decide)).1)
                          have hz := zms_l hz hz.1.1.2.1.1 w_163.1 (by decide) (by first | exact ⟨fun _ => rfl, fun _ => w_163.2.mpr k_196⟩ | exact ⟨fun z => absurd (w_163.2.mp z) k_196, fun z => absurd z (by decide)⟩) v_120 h_187 h_204
                          rw [← e93] at w_154 l_154 k_160
                          obtain ⟨x_207, e_207⟩ : ∃ y : Int32, y = y11_154 + (-1) := ⟨_, rfl⟩
                          refine zv_iinc (j := 9) (v := x_207) (lv' := [(11, za_I x_207), (0, za_O 19 93), (1, za_I a1), (2, za_I a2), (3, za_I a3), (4, za_I a4), (5, za_I y5_53), (6, za_I r_45), (7, za_I y7_53), (10, za_I s0_120)]) G dX10_sheet_207 rfl (by rw [e_207]; rfl) (by decide) rfl ?_
                          first | have q_207 := z_dec9 (by omega) e_207 | skip
                          refine zv_goto (tgt := 154) G dX10_sheet_210 (by decide) ?_
                          refine zv_sub [1, 2, 3, 4, 5, 6, 7, 8, 9, 0] (lv' := [(0, za_O 19 93), (1, za_I a1), (2, za_I a2), (3, za_I a3), (4, za_I a4), (5, za_I y5_53), (6, za_I r_45), (7, za_I y7_53), (10, za_I s0_120), (11, za_I x_207)]) rfl ?_
                          exact ih_154 x_207 σ hz (fun x a1 a2 => w_154 x a1 (by omega)) (by omega) (by omega)
                  have kr := hz.1.1.2.1.2
                  refine zv_top (fun x_152 e_152 => ?_)
                  first | have q_152 := z_subf e_152 (a := r_147.toInt) (b := 1) rfl rfl (by omega) (by omega) | skip
                  refine zv_istore (lv' := [(11, za_I x_152), (10, za_I s0_120), (0, za_O 19 93), (1, za_I a1), (2, za_I a2), (3, za_I a3), (4, za_I a4), (5, za_I y5_53), (6, za_I r_45), (7, za_I y7_53)]) G dX10_sheet_152 (by decide) rfl ?_
                  refine zv_sub [2, 3, 4, 5, 6, 7, 8, 9, 1, 0] (lv' := [(0, za_O 19 93), (1, za_I a1), (2, za_I a2), (3, za_I a3), (4, za_I a4), (5, za_I y5_53), (6, za_I r_45), (7, za_I y7_53), (10, za_I s0_120), (11, za_I x_152)]) rfl ?_
                  exact J_154 _ x_152 σ hz (z_rg hz.2 hz.1.1.2.1.1 w_130.2 h_147 q_152) (by omega) (Nat.lt_succ_self _)
                have J_105 : ∀  (σ : za_S) (hz : zms σ0 σ), zV p l e (zRm 6 138) s m args below meth c E (za_A E) 12 0 0 (MQ below (va_Qi (fun r σ' => zm 12 10 σ0 σ') (zB E) (za_A E)) args s 0 0 (za_A E)) 105 [(0, za_O 19 93), (1, za_I a1), (2, za_I a2), (3, za_I a3), (4, za_I a4), (5, za_I y5_53), (6, za_I r_45), (7, za_I y7_53)] [] σ := by
                  intro σ hz
                  refine zv_iconst (v := 0) G dX10_sheet_105 (by decide) ?_
                  refine zv_goto (tgt := 120) G dX10_sheet_106 (by decide) ?_
                  refine zv_sub [0, 1, 2, 3, 4, 5, 6, 7] (lv' := [(0, za_O 19 93), (1, za_I a1), (2, za_I a2), (3, za_I a3), (4, za_I a4), (5, za_I y5_53), (6, za_I r_45), (7, za_I y7_53)]) rfl ?_
                  exact J_120 (0 : Int32) σ hz (by first | decide | exact z_mm e_114 e_117)
                refine zv_icmp_eq (tgt := 105) G dX10_sheet_96 (by decide) (fun c_96 => ?_) (fun c_96 => ?_)
                · have k_96 := z_ceq c_96 (a := a1.toInt) (b := 3) rfl rfl
                  refine zv_sub [1, 2, 3, 4, 5, 6, 7, 8] (lv' := [(0, za_O 19 93), (1, za_I a1), (2, za_I a2), (3, za_I a3), (4, za_I a4), (5, za_I y5_53), (6, za_I r_45), (7, za_I y7_53)]) rfl ?_
                  exact J_105 σ hz
                · have k_96 := z_cne c_96 (a := a1.toInt) (b := 3) rfl rfl
                  refine zv_iload (j := 8) G dX10_sheet_99 rfl ?_
                  refine zv_iload_n (j := 3) G dX10_sheet_101 rfl rfl ?_
                  refine zv_icmp_lt (tgt := 109) G dX10_sheet_102 (by decide) (fun c_102 => ?_) (fun c_102 => ?_)
                  · have k_102 := z_clt c_102 (a := y7_53.toInt) (b := a2.toInt) rfl rfl
                    refine zv_iconst (v := 0) G dX10_sheet_109 (by decide) ?_
                    refine zv_bipush (v := 99) G dX10_sheet_110 (by decide) ?_
                    refine zv_iload (j := 0) G dX10_sheet_112 rfl ?_
                    refine zv_mmin G zm_1354 zm_392 zm_147 zm_393 (Nat.le_of_ble_eq_true rfl) (Nat.le_of_ble_eq_true rfl) (Nat.zero_le _) (Nat.zero_le _) dX10_sheet_114 ?_
                    refine zv_top (fun x_114 e_114 => ?_)
                    refine zv_mmax G zm_1355 zm_395 zm_147 zm_396 (Nat.le_of_ble_eq_true rfl) (Nat.le_of_ble_eq_true rfl) (Nat.zero_le _) (Nat.zero_le _) dX10_sheet_117 ?_
                    refine zv_top (fun x_117 e_117 => ?_)
                    refine zv_sub [1, 2, 3, 4, 5, 6, 7, 8] (lv' := [(0, za_O 19 93), (1, za_I a1), (2, za_I a2), (3, za_I a3), (4, za_I a4), (5, za_I y5_53), (6, za_I r_45), (7, za_I y7_53)]) rfl ?_
                    exact J_120 x_117 σ hz (by first | decide | exact z_mm e_114 e_117)
                  · have k_102 := z_cnlt c_102 (a := y7_53.toInt) (b := a2.toInt) rfl rfl
                    refine zv_sub [1, 2, 3, 4, 5, 6, 7, 8] (lv' := [(0, za_O 19 93), (1, za_I a1), (2, za_I a2), (3, za_I a3), (4, za_I a4), (5, za_I y5_53), (6, za_I r_45), (7, za_I y7_53)]) rfl ?_
                    exact J_105 σ hz
              refine zv_if_ne (tgt := 79) G dX10_sheet_70 (by decide) (fun c_70 => ?_) (fun c_70 => ?_)
              · have k_70 := z_cne c_70 (a := a1.toInt) (b := 0) rfl rfl
                refine zv_iload_n (j := 2) G dX10_sheet_79 rfl rfl ?_
                refine zv_iconst (v := 1) G dX10_sheet_80 (by decide) ?_
                refine zv_icmp_ne (tgt := 90) G dX10_sheet_81 (by decide) (fun c_81 => ?_) (fun c_81 => ?_)
                · have k_81 := z_cne c_81 (a := a1.toInt) (b := 1) rfl rfl
                  refine zv_iload (j := 0) G dX10_sheet_90 rfl ?_
                  refine zv_sub [1, 2, 3, 4, 5, 6, 7, 8] (lv' := [(0, za_O 19 93), (1, za_I a1), (2, za_I a2), (3, za_I a3), (4, za_I a4), (5, za_I y5_53), (6, za_I r_45), (7, za_I y7_53)]) rfl ?_
                  exact J_92 x_67 σ hz
                · have k_81 := z_ceq c_81 (a := a1.toInt) (b := 1) rfl rfl
                  refine zv_iload (j := 0) G dX10_sheet_84 rfl ?_
                  refine zv_i2s G dX10_sheet_86 ?_
                  refine zv_goto (tgt := 92) G dX10_sheet_87 (by decide) ?_
                  refine zv_sub [1, 2, 3, 4, 5, 6, 7, 8] (lv' := [(0, za_O 19 93), (1, za_I a1), (2, za_I a2), (3, za_I a3), (4, za_I a4), (5, za_I y5_53), (6, za_I r_45), (7, za_I y7_53)]) rfl ?_
                  exact J_92 x_67.toInt16.toInt32 σ hz
              · have k_70 := z_ceq c_70 (a := a1.toInt) (b := 0) rfl rfl
                refine zv_iload (j := 0) G dX10_sheet_73 rfl ?_
                refine zv_i2b G dX10_sheet_75 ?_
                refine zv_goto (tgt := 92) G dX10_sheet_76 (by decide) ?_
                refine zv_sub [1, 2, 3, 4, 5, 6, 7, 8] (lv' := [(0, za_O 19 93), (1, za_I a1), (2, za_I a2), (3, za_I a3), (4, za_I a4), (5, za_I y5_53), (6, za_I r_45), (7, za_I y7_53)]) rfl ?_
                exact J_92 x_67.toInt8.toInt32 σ hz
        refine zv_istore (lv' := [(7, za_I 0), (6, za_I r_45), (5, za_I 0), (0, za_O 19 93), (1, za_I a1), (2, za_I a2), (3, za_I a3), (4, za_I a4)]) G dX10_sheet_51 (by decide) rfl ?_
        refine zv_sub [3, 4, 5, 6, 7, 2, 1, 0] (lv' := [(0, za_O 19 93), (1, za_I a1), (2, za_I a2), (3, za_I a3), (4, za_I a4), (5, za_I 0), (6, za_I r_45), (7, za_I 0)]) rfl ?_
        exact J_53 _ (0 : Int32) (0 : Int32) σ hz (by decide) (Nat.lt_succ_self _)
      · have k_27 := z_cne c_27 (a := a1.toInt) (b := 3) rfl rfl
        refine zv_iload_n (j := 2) G dX10_sheet_30 rfl rfl ?_
        refine zv_if_ge (tgt := 37) G dX10_sheet_31 (by decide) (fun c_31 => ?_) (fun c_31 => ?_)
        · have k_31 := z_cle c_31 (a := 0) (b := a2.toInt) rfl rfl
          refine zv_iconst (v := 0) G dX10_sheet_37 (by decide) ?_
          refine zv_istore (lv' := [(5, za_I 0), (0, za_O 19 93), (1, za_I a1), (2, za_I a2), (3, za_I a3), (4, za_I a4)]) G dX10_sheet_38 (by decide) rfl ?_
          refine zv_aload_n (j := 1) G dX10_sheet_40 rfl rfl ?_
          refine zg_X10_118 G dX10_sheet_41 ?_
          refine zv_iconst (v := 0) G dX10_sheet_44 (by decide) ?_
          refine zv_callSi (as := [za_O 22 99, za_I 0]) G (zc_X10_rowsOf l E 99 (0 : Int32) σ (by first | assumption | decide | omega)) zk_X10_rowsOf zm_1348 rfl ⟨(Nat.le_of_ble_eq_true rfl), (Nat.le_of_ble_eq_true rfl)⟩ ⟨Nat.zero_le _, Nat.zero_le _⟩ (Nat.le_of_ble_eq_true rfl) dX10_sheet_45 (fun r_45 σ h_45 => ?_)
          obtain ⟨h_45, rfl⟩ := h_45
          have m_45 : r_45.toInt = (zcn (σ0.1 99) 0 : Nat) := by rw [h_45, show (0 : Int32).toInt.toNat = 0 by decide, zsh_e (t := 0) (by decide) hz.2]
          refine zv_istore (lv' := [(6, za_I r_45), (5, za_I 0), (0, za_O 19 93), (1, za_I a1), (2, za_I a2), (3, za_I a3), (4, za_I a4)]) G dX10_sheet_48 (by decide) rfl ?_
          refine zv_iconst (v := 0) G dX10_sheet_50 (by decide) ?_
          have J_53 : ∀ (n : Nat) (y5_53 : Int32) (y7_53 : Int32) (σ : za_S) (hz : zms σ0 σ) (i7_53 : 0 ≤ y7_53.toInt) (hn_53 : (2147483648 - y7_53.toInt).toNat < n), zV p l e (zRm 6 138) s m args below meth c E (za_A E) 12 0 0 (MQ below (va_Qi (fun r σ' => zm 12 10 σ0 σ') (zB E) (za_A E)) args s 0 0 (za_A E)) 53 [(0, za_O 19 93), (1, za_I a1), (2, za_I a2), (3, za_I a3), (4, za_I a4), (5, za_I y5_53), (6, za_I r_45), (7, za_I y7_53)] [] σ := by
            intro n
            induction n with
            | zero => intro y5_53 y7_53 σ hz i7_53 hn; exact absurd hn (Nat.not_lt_zero _)
            | succ n ih_53 =>
              intro y5_53 y7_53 σ hz i7_53 hn_53
              refine zv_iload (j := 7) G dX10_sheet_53 rfl ?_
              refine zv_iload (j := 6) G dX10_sheet_55 rfl ?_
              refine zv_icmp_ge (tgt := 226) G dX10_sheet_57 (by decide) (fun c_57 => ?_) (fun c_57 => ?_)
              · have k_57 := z_cle c_57 (a := r_45.toInt) (b := y7_53.toInt) rfl rfl
                refine zv_iload_n (j := 1) G dX10_sheet_226 rfl rfl ?_
                refine zv_iconst (v := 3) G dX10_sheet_227 (by decide) ?_
                refine zv_icmp_ne (tgt := 236) G dX10_sheet_228 (by decide) (fun c_228 => ?_) (fun c_228 => ?_)
                · have k_228 := z_cne c_228 (a := a1.toInt) (b := 3) rfl rfl
                  refine zv_iload (j := 5) G dX10_sheet_236 rfl ?_
                  exact zv_iret G hr dX10_sheet_238 hz.1
                · have k_228 := z_ceq c_228 (a := a1.toInt) (b := 3) rfl rfl
                  refine zv_bipush (v := (-3)) G dX10_sheet_231 (by decide) ?_
                  refine zv_goto (tgt := 238) G dX10_sheet_233 (by decide) ?_
                  exact zv_iret G hr dX10_sheet_238 hz.1
              · have k_57 := z_cnle c_57 (a := r_45.toInt) (b := y7_53.toInt) rfl rfl
                refine zv_iload_n (j := 3) G dX10_sheet_60 rfl rfl ?_
                refine zv_iload (j := 7) G dX10_sheet_61 rfl ?_
                refine zv_iload (j := 4) G dX10_sheet_63 rfl ?_
                refine zv_imul G dX10_sheet_65 ?_
                refine zv_iadd G dX10_sheet_66 ?_
                refine zv_top (fun x_67 e_67 => ?_)
                first | have q_67 := z_addf e_67 (a := a3.toInt) (b := (y7_53 * a4).toInt) rfl rfl (by omega) (by omega) | skip
                refine zv_istore (lv' := [(8, za_I x_67), (0, za_O 19 93), (1, za_I a1), (2, za_I a2), (3, za_I a3), (4, za_I a4), (5, za_I y5_53), (6, za_I r_45), (7, za_I y7_53)]) G dX10_sheet_67 (by decide) rfl ?_
                refine zv_iload_n (j := 2) G dX10_sheet_69 rfl rfl ?_
                have J_92 : ∀ (s0_92 : Int32) (σ : za_S) (hz : zms σ0 σ), zV p l e (zRm 6 138) s m args below meth c E (za_A E) 12 0 0 (MQ below (va_Qi (fun r σ' => zm 12 10 σ0 σ') (zB E) (za_A E)) args s 0 0 (za_A E)) 92 [(0, za_O 19 93), (1, za_I a1), (2, za_I a2), (3, za_I a3), (4, za_I a4), (5, za_I y5_53), (6, za_I r_45), (7, za_I y7_53)] [za_I s0_92] σ := by
                  intro s0_92 σ hz
                  refine zv_istore (lv' := [(9, za_I s0_92), (0, za_O 19 93), (1, za_I a1), (2, za_I a2), (3, za_I a3), (4, za_I a4), (5, za_I y5_53), (6, za_I r_45), (7, za_I y7_53)]) G dX10_sheet_92 (by decide) rfl ?_
                  refine zv_iload_n (j := 2) G dX10_sheet_94 rfl rfl ?_
                  refine zv_iconst (v := 3) G dX10_sheet_95 (by decide) ?_
                  have J_120 : ∀ (s0_120 : Int32) (σ : za_S) (hz : zms σ0 σ) (v_120 : 0 ≤ s0_120.toInt ∧ s0_120.toInt ≤ 99), zV p l e (zRm 6 138) s m args below meth c E (za_A E) 12 0 0 (MQ below (va_Qi (fun r σ' => zm 12 10 σ0 σ') (zB E) (za_A E)) args s 0 0 (za_A E)) 120 [(0, za_O 19 93), (1, za_I a1), (2, za_I a2), (3, za_I a3), (4, za_I a4), (5, za_I y5_53), (6, za_I r_45), (7, za_I y7_53)] [za_I s0_120] σ := by
                    intro s0_120 σ hz v_120
                    refine zv_istore (lv' := [(10, za_I s0_120), (0, za_O 19 93), (1, za_I a1), (2, za_I a2), (3, za_I a3), (4, za_I a4), (5, za_I y5_53), (6, za_I r_45), (7, za_I y7_53)]) G dX10_sheet_120 (by decide) rfl ?_
                    refine zv_aload_n (j := 1) G dX10_sheet_122 rfl rfl ?_
                    refine zv_aload_n (j := 1) G dX10_sheet_123 rfl rfl ?_
                    refine zg_X10_118 G dX10_sheet_124 ?_
                    refine zv_iconst (v := 0) G dX10_sheet_127 (by decide) ?_
                    refine zv_iload (j := 8) G dX10_sheet_128 rfl ?_
                    refine zv_callVi (as := [za_O 22 99, za_I 0, za_I y7_53]) G (by decide) rfl rfl (zc_X10_seeks l E 99 (0 : Int32) y7_53 σ (by decide) (by omega)) zk_X10_seeks zm_1313 rfl ⟨(Nat.le_of_ble_eq_true rfl), (Nat.le_of_ble_eq_true rfl)⟩ ⟨Nat.zero_le _, Nat.zero_le _⟩ (Nat.le_of_ble_eq_true rfl) dX10_sheet_130 (fun r_130 σ h_130 => ?_)
                    obtain ⟨h_130, s_130⟩ := h_130
                    have w_130 := zms_s hz (by omega) s_130
                    have hz := w_130.1
                    refine zv_popI G dX10_sheet_133 ?_
                    refine zv_aload_n (j := 1) G dX10_sheet_134 rfl rfl ?_
                    refine zg_X10_118 G dX10_sheet_135 ?_
                    refine zv_iconst (v := 0) G dX10_sheet_138 (by decide) ?_
                    refine zv_aload_n (j := 1) G dX10_sheet_139 rfl rfl ?_
                    refine zg_X10_191 G dX10_sheet_140 ?_
                    refine zv_aload_n (j := 1) G dX10_sheet_143 rfl rfl ?_
                    refine zg_X10_194 G dX10_sheet_144 ?_
                    refine zv_callSi (as := [za_O 22 99, za_I 0, za_I (σ.1 93 15), za_I (σ.1 93 16)]) G (zc_X10_toOf l E 99 (0 : Int32) (σ.1 93 15) (σ.1 93 16) σ (by decide) hz.1.1.2.1.1 hz.1.1.2.1.2) zk_X10_toOf zm_1337 rfl ⟨(Nat.le_of_ble_eq_true rfl), (Nat.le_of_ble_eq_true rfl)⟩ ⟨Nat.zero_le _, Nat.zero_le _⟩ (Nat.le_of_ble_eq_true rfl) dX10_sheet_147 (fun r_147 σ h_147 => ?_)
                    obtain ⟨h_147, rfl⟩ := h_147
                    refine zv_iconst (v := 1) G dX10_sheet_150 (by decide) ?_
                    refine zv_isub G dX10_sheet_151 ?_
                    have J_154 : ∀ (n : Nat) (y11_154 : Int32) (σ : za_S) (hz : zms σ0 σ) (w_154 : zrg (σ0.1 99) (σ.1 93 15) (σ.1 93 16) y11_154) (l_154 : (σ.1 93 16).toInt - 1 ≤ y11_154.toInt ∧ 0 ≤ (σ.1 93 16).toInt) (hn_154 : (y11_154.toInt + 1).toNat < n), zV p l e (zRm 6 138) s m args below meth c E (za_A E) 12 0 0 (MQ below (va_Qi (fun r σ' => zm 12 10 σ0 σ') (zB E) (za_A E)) args s 0 0 (za_A E)) 154 [(0, za_O 19 93), (1, za_I a1), (2, za_I a2), (3, za_I a3), (4, za_I a4), (5, za_I y5_53), (6, za_I r_45), (7, za_I y7_53), (10, za_I s0_120), (11, za_I y11_154)] [] σ := by
                      intro n
                      induction n with
                      | zero => intro y11_154 σ hz w_154 l_154 hn; exact absurd hn (Nat.not_lt_zero _)
                      | succ n ih_154 =>
                        intro y11_154 σ hz w_154 l_154 hn_154
                        refine zv_iload (j := 9) G dX10_sheet_154 rfl ?_
                        refine zv_aload_n (j := 0) G dX10_sheet_156 rfl rfl ?_
                        refine zg_X10_194 G dX10_sheet_157 ?_
                        refine zv_icmp_lt (tgt := 213) G dX10_sheet_160 (by decide) (fun c_160 => ?_) (fun c_160 => ?_)
                        · have k_160 := z_clt c_160 (a := y11_154.toInt) (b := (σ.1 93 16).toInt) rfl rfl
                          refine zv_iload (j := 5) G dX10_sheet_213 rfl ?_
                          refine zv_iload (j := 8) G dX10_sheet_215 rfl ?_
                          refine zv_iadd G dX10_sheet_217 ?_
                          refine zv_top (fun x_218 e_218 => ?_)
                          first | have q_218 := z_addf e_218 (a := y5_53.toInt) (b := s0_120.toInt) rfl rfl (by omega) (by omega) | skip
                          refine zv_istore (lv' := [(5, za_I x_218), (0, za_O 19 93), (1, za_I a1), (2, za_I a2), (3, za_I a3), (4, za_I a4), (6, za_I r_45), (7, za_I y7_53), (10, za_I s0_120), (11, za_I y11_154)]) G dX10_sheet_218 (by decide) rfl ?_
                          obtain ⟨x_220, e_220⟩ : ∃ y : Int32, y = y7_53 + 1 := ⟨_, rfl⟩
                          refine zv_iinc (j := 7) (v := x_220) (lv' := [(7, za_I x_220), (5, za_I x_218), (0, za_O 19 93), (1, za_I a1), (2, za_I a2), (3, za_I a3), (4, za_I a4), (6, za_I r_45), (10, za_I s0_120), (11, za_I y11_154)]) G dX10_sheet_220 rfl (by rw [e_220]; rfl) (by decide) rfl ?_
                          first | have q_220 := z_inc9 (by omega) e_220 | skip
                          refine zv_goto (tgt := 53) G dX10_sheet_223 (by decide) ?_
                          refine zv_sub [2, 3, 4, 5, 6, 1, 7, 0] (lv' := [(0, za_O 19 93), (1, za_I a1), (2, za_I a2), (3, za_I a3), (4, za_I a4), (5, za_I x_218), (6, za_I r_45), (7, za_I x_220)]) rfl ?_
                          exact ih_53 x_218 x_220 σ hz (by have := z_inc c_57 e_220; omega) (z_meas c_57 e_220 hn_53)
                        · have k_160 := z_cnlt c_160 (a := y11_154.toInt) (b := (σ.1 93 16).toInt) rfl rfl
                          have w_163 := w_154 y11_154 (by omega) (by omega)
                          refine zv_aload_n (j := 0) G dX10_sheet_163 rfl rfl ?_
                          refine zg_X10_118 G dX10_sheet_164 ?_
                          refine zv_iconst (v := 0) G dX10_sheet_167 (by decide) ?_
                          refine zv_aload_n (j := 0) G dX10_sheet_168 rfl rfl ?_
                          refine zg_X10_191 G dX10_sheet_169 ?_
                          refine zv_iload (j := 9) G dX10_sheet_172 rfl ?_
                          refine zv_iload (j := 8) G dX10_sheet_174 rfl ?_
                          refine zv_aload_n (j := 0) G dX10_sheet_176 rfl rfl ?_
                          refine zg_X10_118 G dX10_sheet_177 ?_
                          refine zv_iconst (v := 0) G dX10_sheet_180 (by decide) ?_
                          refine zv_aload_n (j := 0) G dX10_sheet_181 rfl rfl ?_
                          refine zg_X10_191 G dX10_sheet_182 ?_
                          refine zv_iload (j := 9) G dX10_sheet_185 rfl ?_
                          refine zv_callSi (as := [za_O 22 99, za_I 0, za_I (σ.1 93 15), za_I y11_154]) G (zc_X10_refOn l E 99 (0 : Int32) (σ.1 93 15) y11_154 σ (by decide) hz.1.1.2.1.1 w_163.1.1) zk_X10_refOn zm_1340 rfl ⟨(Nat.le_of_ble_eq_true rfl), (Nat.le_of_ble_eq_true rfl)⟩ ⟨Nat.zero_le _, Nat.zero_le _⟩ (Nat.le_of_ble_eq_true rfl) dX10_sheet_187 (fun r_187 σ h_187 => ?_)
                          obtain ⟨h_187, rfl⟩ := h_187
                          refine zv_iload (j := 9) G dX10_sheet_190 rfl ?_
                          refine zv_aload_n (j := 0) G dX10_sheet_192 rfl rfl ?_
                          refine zg_X10_194 G dX10_sheet_193 ?_
                          refine zv_icmp_ne (tgt := 203) G dX10_sheet_196 (by decide) (fun c_196 => ?_) (fun c_196 => ?_)
                          · have k_196 := z_cne c_196 (a := y11_154.toInt) (b := (σ.1 93 16).toInt) rfl rfl
                            refine zv_iconst (v := 0) G dX10_sheet_203 (by decide) ?_
                            refine zv_callSv (as := [za_O 22 99, za_I 0, za_I (σ.1 93 15), za_I y11_154, za_I s0_120, za_I r_187, za_I 0]) G (zc_X10_lays l E 99 (0 : Int32) (σ.1 93 15) y11_154 s0_120 r_187 (0 : Int32) σ (by decide) hz.1.1.2.1.1 w_163.1.1) zk_X10_lays zm_1356 rfl ⟨(Nat.le_of_ble_eq_true rfl), (Nat.le_of_ble_eq_true rfl)⟩ ⟨Nat.zero_le _, Nat.zero_le _⟩ (Nat.le_of_ble_eq_true rfl) dX10_sheet_204 (fun σ h_204 => ?_)
                            have e93 := (congrArg (fun z => z.1 93) h_204).trans ((za_si_off 93 (by decide)).1)
                            have hz := zms_l hz hz.1.1.2.1.1 w_163.1 (by decide) (by first | exact ⟨fun _ => rfl, fun _ => w_163.2.mpr k_196⟩ | exact ⟨fun z => absurd (w_163.2.mp z) k_196, fun z => absurd z (by decide)⟩) v_120 h_187 h_204
                            rw [← e93] at w_154 l_154 k_160
                            obtain ⟨x_207, e_207⟩ : ∃ y : Int32, y = y11_154 + (-1) := ⟨_, rfl⟩
                            refine zv_iinc (j := 9) (v := x_207) (lv' := [(11, za_I x_207), (0, za_O 19 93), (1, za_I a1), (2, za_I a2), (3, za_I a3), (4, za_I a4), (5, za_I y5_53), (6, za_I r_45), (7, za_I y7_53), (10, za_I s0_120)]) G dX10_sheet_207 rfl (by rw [e_207]; rfl) (by decide) rfl ?_
                            first | have q_207 := z_dec9 (by omega) e_207 | skip
                            refine zv_goto (tgt := 154) G dX10_sheet_210 (by decide) ?_
                            refine zv_sub [1, 2, 3, 4, 5, 6, 7, 8, 9, 0] (lv' := [(0, za_O 19 93), (1, za_I a1), (2, za_I a2), (3, za_I a3), (4, za_I a4), (5, za_I y5_53), (6, za_I r_45), (7, za_I y7_53), (10, za_I s0_120), (11, za_I x_207)]) rfl ?_
                            exact ih_154 x_207 σ hz (fun x a1 a2 => w_154 x a1 (by omega)) (by omega) (by omega)
                          · have k_196 := z_ceq c_196 (a := y11_154.toInt) (b := (σ.1 93 16).toInt) rfl rfl
                            refine zv_iconst (v := 1) G dX10_sheet_199 (by decide) ?_
                            refine zv_goto (tgt := 204) G dX10_sheet_200 (by decide) ?_
                            refine zv_callSv (as := [za_O 22 99, za_I 0, za_I (σ.1 93 15), za_I y11_154, za_I s0_120, za_I r_187, za_I 1]) G (zc_X10_lays l E 99 (0 : Int32) (σ.1 93 15) y11_154 s0_120 r_187 (1 : Int32) σ (by decide) hz.1.1.2.1.1 w_163.1.1) zk_X10_lays zm_1356 rfl ⟨(Nat.le_of_ble_eq_true rfl), (Nat.le_of_ble_eq_true rfl)⟩ ⟨Nat.zero_le _, Nat.zero_le _⟩ (Nat.le_of_ble_eq_true rfl) dX10_sheet_204 (fun σ h_204 => ?_)
                            have e93 := (congrArg (fun z => z.1 93) h_204).trans ((za_si_off 93 (by decide)).1)
                            have hz := zms_l hz hz.1.1.2.1.1 w_163.1 (by decide) (by first | exact ⟨fun _ => rfl, fun _ => w_163.2.mpr k_196⟩ | exact ⟨fun z => absurd (w_163.2.mp z) k_196, fun z => absurd z (by decide)⟩) v_120 h_187 h_204
                            rw [← e93] at w_154 l_154 k_160
                            obtain ⟨x_207, e_207⟩ : ∃ y : Int32, y = y11_154 + (-1) := ⟨_, rfl⟩
                            refine zv_iinc (j := 9) (v := x_207) (lv' := [(11, za_I x_207), (0, za_O 19 93), (1, za_I a1), (2, za_I a2), (3, za_I a3), (4, za_I a4), (5, za_I y5_53), (6, za_I r_45), (7, za_I y7_53), (10, za_I s0_120)]) G dX10_sheet_207 rfl (by rw [e_207]; rfl) (by decide) rfl ?_
                            first | have q_207 := z_dec9 (by omega) e_207 | skip
                            refine zv_goto (tgt := 154) G dX10_sheet_210 (by decide) ?_
                            refine zv_sub [1, 2, 3, 4, 5, 6, 7, 8, 9, 0] (lv' := [(0, za_O 19 93), (1, za_I a1), (2, za_I a2), (3, za_I a3), (4, za_I a4), (5, za_I y5_53), (6, za_I r_45), (7, za_I y7_53), (10, za_I s0_120), (11, za_I x_207)]) rfl ?_
                            exact ih_154 x_207 σ hz (fun x a1 a2 => w_154 x a1 (by omega)) (by omega) (by omega)
                    have kr := hz.1.1.2.1.2
                    refine zv_top (fun x_152 e_152 => ?_)
                    first | have q_152 := z_subf e_152 (a := r_147.toInt) (b := 1) rfl rfl (by omega) (by omega) | skip
                    refine zv_istore (lv' := [(11, za_I x_152), (10, za_I s0_120), (0, za_O 19 93), (1, za_I a1), (2, za_I a2), (3, za_I a3), (4, za_I a4), (5, za_I y5_53), (6, za_I r_45), (7, za_I y7_53)]) G dX10_sheet_152 (by decide) rfl ?_
                    refine zv_sub [2, 3, 4, 5, 6, 7, 8, 9, 1, 0] (lv' := [(0, za_O 19 93), (1, za_I a1), (2, za_I a2), (3, za_I a3), (4, za_I a4), (5, za_I y5_53), (6, za_I r_45), (7, za_I y7_53), (10, za_I s0_120), (11, za_I x_152)]) rfl ?_
                    exact J_154 _ x_152 σ hz (z_rg hz.2 hz.1.1.2.1.1 w_130.2 h_147 q_152) (by omega) (Nat.lt_succ_self _)
                  have J_105 : ∀  (σ : za_S) (hz : zms σ0 σ), zV p l e (zRm 6 138) s m args below meth c E (za_A E) 12 0 0 (MQ below (va_Qi (fun r σ' => zm 12 10 σ0 σ') (zB E) (za_A E)) args s 0 0 (za_A E)) 105 [(0, za_O 19 93), (1, za_I a1), (2, za_I a2), (3, za_I a3), (4, za_I a4), (5, za_I y5_53), (6, za_I r_45), (7, za_I y7_53)] [] σ := by
                    intro σ hz
                    refine zv_iconst (v := 0) G dX10_sheet_105 (by decide) ?_
                    refine zv_goto (tgt := 120) G dX10_sheet_106 (by decide) ?_
                    refine zv_sub [0, 1, 2, 3, 4, 5, 6, 7] (lv' := [(0, za_O 19 93), (1, za_I a1), (2, za_I a2), (3, za_I a3), (4, za_I a4), (5, za_I y5_53), (6, za_I r_45), (7, za_I y7_53)]) rfl ?_
                    exact J_120 (0 : Int32) σ hz (by first | decide | exact z_mm e_114 e_117)
                  refine zv_icmp_eq (tgt := 105) G dX10_sheet_96 (by decide) (fun c_96 => ?_) (fun c_96 => ?_)
                  · have k_96 := z_ceq c_96 (a := a1.toInt) (b := 3) rfl rfl
                    refine zv_sub [1, 2, 3, 4, 5, 6, 7, 8] (lv' := [(0, za_O 19 93), (1, za_I a1), (2, za_I a2), (3, za_I a3), (4, za_I a4), (5, za_I y5_53), (6, za_I r_45), (7, za_I y7_53)]) rfl ?_
                    exact J_105 σ hz
                  · have k_96 := z_cne c_96 (a := a1.toInt) (b := 3) rfl rfl
                    refine zv_iload (j := 8) G dX10_sheet_99 rfl ?_
                    refine zv_iload_n (j := 3) G dX10_sheet_101 rfl rfl ?_
                    refine zv_icmp_lt (tgt := 109) G dX10_sheet_102 (by decide) (fun c_102 => ?_) (fun c_102 => ?_)
                    · have k_102 := z_clt c_102 (a := y7_53.toInt) (b := a2.toInt) rfl rfl
                      refine zv_iconst (v := 0) G dX10_sheet_109 (by decide) ?_
                      refine zv_bipush (v := 99) G dX10_sheet_110 (by decide) ?_
                      refine zv_iload (j := 0) G dX10_sheet_112 rfl ?_
                      refine zv_mmin G zm_1354 zm_392 zm_147 zm_393 (Nat.le_of_ble_eq_true rfl) (Nat.le_of_ble_eq_true rfl) (Nat.zero_le _) (Nat.zero_le _) dX10_sheet_114 ?_
                      refine zv_top (fun x_114 e_114 => ?_)
                      refine zv_mmax G zm_1355 zm_395 zm_147 zm_396 (Nat.le_of_ble_eq_true rfl) (Nat.le_of_ble_eq_true rfl) (Nat.zero_le _) (Nat.zero_le _) dX10_sheet_117 ?_
                      refine zv_top (fun x_117 e_117 => ?_)
                      refine zv_sub [1, 2, 3, 4, 5, 6, 7, 8] (lv' := [(0, za_O 19 93), (1, za_I a1), (2, za_I a2), (3, za_I a3), (4, za_I a4), (5, za_I y5_53), (6, za_I r_45), (7, za_I y7_53)]) rfl ?_
                      exact J_120 x_117 σ hz (by first | decide | exact z_mm e_114 e_117)
                    · have k_102 := z_cnlt c_102 (a := y7_53.toInt) (b := a2.toInt) rfl rfl
                      refine zv_sub [1, 2, 3, 4, 5, 6, 7, 8] (lv' := [(0, za_O 19 93), (1, za_I a1), (2, za_I a2), (3, za_I a3), (4, za_I a4), (5, za_I y5_53), (6, za_I r_45), (7, za_I y7_53)]) rfl ?_
                      exact J_105 σ hz
                refine zv_if_ne (tgt := 79) G dX10_sheet_70 (by decide) (fun c_70 => ?_) (fun c_70 => ?_)
                · have k_70 := z_cne c_70 (a := a1.toInt) (b := 0) rfl rfl
                  refine zv_iload_n (j := 2) G dX10_sheet_79 rfl rfl ?_
                  refine zv_iconst (v := 1) G dX10_sheet_80 (by decide) ?_
                  refine zv_icmp_ne (tgt := 90) G dX10_sheet_81 (by decide) (fun c_81 => ?_) (fun c_81 => ?_)
                  · have k_81 := z_cne c_81 (a := a1.toInt) (b := 1) rfl rfl
                    refine zv_iload (j := 0) G dX10_sheet_90 rfl ?_
                    refine zv_sub [1, 2, 3, 4, 5, 6, 7, 8] (lv' := [(0, za_O 19 93), (1, za_I a1), (2, za_I a2), (3, za_I a3), (4, za_I a4), (5, za_I y5_53), (6, za_I r_45), (7, za_I y7_53)]) rfl ?_
                    exact J_92 x_67 σ hz
                  · have k_81 := z_ceq c_81 (a := a1.toInt) (b := 1) rfl rfl
                    refine zv_iload (j := 0) G dX10_sheet_84 rfl ?_
                    refine zv_i2s G dX10_sheet_86 ?_
                    refine zv_goto (tgt := 92) G dX10_sheet_87 (by decide) ?_
                    refine zv_sub [1, 2, 3, 4, 5, 6, 7, 8] (lv' := [(0, za_O 19 93), (1, za_I a1), (2, za_I a2), (3, za_I a3), (4, za_I a4), (5, za_I y5_53), (6, za_I r_45), (7, za_I y7_53)]) rfl ?_
                    exact J_92 x_67.toInt16.toInt32 σ hz
                · have k_70 := z_ceq c_70 (a := a1.toInt) (b := 0) rfl rfl
                  refine zv_iload (j := 0) G dX10_sheet_73 rfl ?_
                  refine zv_i2b G dX10_sheet_75 ?_
                  refine zv_goto (tgt := 92) G dX10_sheet_76 (by decide) ?_
                  refine zv_sub [1, 2, 3, 4, 5, 6, 7, 8] (lv' := [(0, za_O 19 93), (1, za_I a1), (2, za_I a2), (3, za_I a3), (4, za_I a4), (5, za_I y5_53), (6, za_I r_45), (7, za_I y7_53)]) rfl ?_
                  exact J_92 x_67.toInt8.toInt32 σ hz
          refine zv_istore (lv' := [(7, za_I 0), (6, za_I r_45), (5, za_I 0), (0, za_O 19 93), (1, za_I a1), (2, za_I a2), (3, za_I a3), (4, za_I a4)]) G dX10_sheet_51 (by decide) rfl ?_
          refine zv_sub [3, 4, 5, 6, 7, 2, 1, 0] (lv' := [(0, za_O 19 93), (1, za_I a1), (2, za_I a2), (3, za_I a3), (4, za_I a4), (5, za_I 0), (6, za_I r_45), (7, za_I 0)]) rfl ?_
          exact J_53 _ (0 : Int32) (0 : Int32) σ hz (by decide) (Nat.lt_succ_self _)
        · have k_31 := z_cnle c_31 (a := 0) (b := a2.toInt) rfl rfl
          refine zv_bipush (v := (-2)) G dX10_sheet_34 (by decide) ?_
          exact zv_iret G hr dX10_sheet_36 hz.1
    · have k_20 := z_cnle c_20 (a := a2.toInt) (b := 20) rfl rfl
      refine zv_iconst (v := (-1)) G dX10_sheet_23 (by decide) ?_
      exact zv_iret G hr dX10_sheet_24 hz.1
