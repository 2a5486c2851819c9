/-! ===== greatest common divisor, spans, copies, drawn acts ===== -/
theorem z_lne {b : Int64} (h : ¬ lg_cmp b 0 = 0) : ¬ b = 0 := fun e => h (by rw [e]; decide)
theorem z_leq {b : Int64} (h : lg_cmp b 0 = 0) : b = 0 := (lg_cmp_eq b 0).mp h
theorem z_rngL (a : Int64) : -9223372036854775808 ≤ a.toInt ∧ a.toInt < 9223372036854775808 := ⟨Int64.le_toInt a, Int64.toInt_lt a⟩
theorem z_divL {a b : Int64} (ha : 0 ≤ a.toInt) (hb : 0 < b.toInt) : (a / b).toInt = a.toInt / b.toInt := by
  have h1 := z_rngL a
  have h3 : 0 ≤ a.toInt / b.toInt := Int.ediv_nonneg ha (by omega)
  have h4 : a.toInt / b.toInt ≤ a.toInt := Int.ediv_le_self _ ha
  rw [Int64.toInt_div, Int.tdiv_eq_ediv_of_nonneg ha]
  exact Int.bmod_eq_of_le (by omega) (by omega)
theorem z_remL {a b : Int64} (ha : 0 ≤ a.toInt) (hb : 0 < b.toInt) : (a - a / b * b).toInt = a.toInt % b.toInt := by
  have h1 := z_rngL a
  have hd := z_divL ha hb
  have h5 : a.toInt / b.toInt * b.toInt = a.toInt - a.toInt % b.toInt := by
    have := Int.emod_add_mul_ediv a.toInt b.toInt
    rw [Int.mul_comm] at this
    omega
  have h6 := Int.emod_nonneg a.toInt (show b.toInt ≠ 0 by omega)
  have h7 : a.toInt % b.toInt ≤ a.toInt := by
    have h8 : 0 ≤ a.toInt / b.toInt * b.toInt := Int.mul_nonneg (Int.ediv_nonneg ha (by omega)) (by omega)
    omega
  have hm : (a / b * b).toInt = a.toInt / b.toInt * b.toInt := by
    rw [Int64.toInt_mul, hd]
    exact Int.bmod_eq_of_le (by omega) (by omega)
  rw [Int64.toInt_sub, hm, h5]
  rw [show a.toInt - (a.toInt - a.toInt % b.toInt) = a.toInt % b.toInt by omega]
  exact Int.bmod_eq_of_le (by omega) (by omega)
theorem z_nzL {b : Int64} (h : ¬ b = 0) : ¬ b.toInt = 0 := fun e => h (Int64.toInt_inj.mp (by rw [e]; decide))
theorem z_common {a b : Int64} {B : Int} (ha : 0 ≤ a.toInt) (hb : 0 ≤ b.toInt ∧ b.toInt ≤ B + 1) (nb : ¬ b = 0) : 0 ≤ (a - a / b * b).toInt ∧ (a - a / b * b).toInt ≤ B := by
  have h1 := z_nzL nb
  rw [z_remL ha (by omega)]
  have h6 := Int.emod_nonneg a.toInt (show b.toInt ≠ 0 by omega)
  have h7 := Int.emod_lt_of_pos a.toInt (show 0 < b.toInt by omega)
  omega
theorem z_c0 {b : Int64} (hb : 0 ≤ b.toInt ∧ b.toInt ≤ 0) (nb : ¬ b = 0) : False := z_nzL nb (by omega)
theorem z_mxg {x a b : Int32} {n : Int} (e : x = if a < b then b else a) (h : n ≤ a.toInt) : n ≤ x.toInt := by
  rw [e]
  split
  · rename_i c
    rw [z_lt] at c
    omega
  · exact h
theorem z_chx {σ : za_S} {y : Int32} (h : zch σ) (h0 : 0 ≤ y.toInt) (h1 : y.toInt < 20) : vp_in (σ.1 188 y.toNatClampNeg) 20 := by
  have h2 := h y.toNatClampNeg (show y.toInt.toNat < 20 by omega)
  exact z_in (by omega) (by omega)
theorem z_lim {m n d i : Int32} {D : Int} (hd : d.toInt = D) (h0 : 0 ≤ D) (hn : D ≤ n.toInt) (hm : 0 ≤ m.toInt ∧ m.toInt ≤ 20) (c : ¬ m - (n - d) < i) : i.toInt ≤ m.toInt - (n.toInt - D) := by
  have hr := z_rng n
  have h1 : (n - d).toInt = n.toInt - D := by rw [z_sub (by omega) (by omega), hd]
  have h2 : (m - (n - d)).toInt = m.toInt - (n.toInt - D) := by rw [z_sub (by omega) (by omega), h1]
  rw [z_lt, h2] at c
  omega
theorem zq_fr {b : Int} {σ0 σ σ' : za_S} (h : zq b σ0 σ) (k1 : ∀ w, w ≠ 100 → w ≠ 101 → w ≠ 93 → σ'.1 w = σ.1 w) (k2 : σ'.2 = σ.2) (k3 : ∀ j, j ≠ 19 → j ≠ 20 → j ≠ 35 → σ'.1 93 j = σ.1 93 j) : zq b σ0 σ' := by
  obtain ⟨hf, a1, a2, a3⟩ := h
  refine ⟨⟨fun w hw => ⟨?_, ?_⟩, ?_, ?_, ?_⟩, ?_, fun i hi => ?_, ?_⟩
  · rw [k1 w (by omega) (by omega) (by omega)]; exact (hf.1 w hw).1
  · rw [k2]; exact (hf.1 w hw).2
  · rw [k3 4 (by decide) (by decide) (by decide)]; exact hf.2.1
  · rw [k3 17 (by decide) (by decide) (by decide)]; exact hf.2.2.1
  · rw [k3 32 (by decide) (by decide) (by decide)]; exact hf.2.2.2
  · unfold zkr
    rw [k3 15 (by decide) (by decide) (by decide), k3 16 (by decide) (by decide) (by decide)]
    exact a1
  · rw [k1 188 (by decide) (by decide) (by decide)]; exact a2 i hi
  · rw [k3 1 (by decide) (by decide) (by decide)]; exact a3
def zqy (b : Int) (σ0 σ : za_S) : Prop := zq b σ0 σ ∧ zG (σ.1 100)
def zqg (b : Int) (σ0 σ : za_S) : Prop := zq b σ0 σ ∧ zGB (σ.1 100) ∧ zGI (σ.1 100)
theorem zqy_c {b : Int} {σ0 σ σ' : za_S} (hJ : zJ σ0) (h : zq b σ0 σ) (e : σ' = zcp σ 99 100 2001) : zqy b σ0 σ' := by
  rw [e]
  refine ⟨zq_cp h (Or.inl rfl), ?_⟩
  refine zG_cong (fun i hi => ?_) hJ.2.2.2.2.2.2.1
  rw [zcp_w (by omega), zq_now h]
theorem zqy_t0 {b : Int} {σ0 σ : za_S} (h : zqy b σ0 σ) : zqy 0 σ0 (za_si σ 93 1 0) := ⟨zq_t0 h.1, by rw [(za_si_off 100 (by decide)).1]; exact h.2⟩
theorem zqy_jr {b : Int} {σ0 σ σ' : za_S} (h : zqy b σ0 σ) (k : zjr 100 σ σ') : zqy b σ0 σ' := ⟨zq_fr h.1 (fun w h1 _ h3 => k.1.1 w h1 h3) k.1.2.1 (fun j h1 h2 _ => k.1.2.2 j h1 h2), zjn_G k.2 h.2⟩
theorem zqg_w {b : Int} {σ0 σ : za_S} {x : Int32} (h : zqy b σ0 σ) : zqg b σ0 (za_si σ 100 2000 x) := by
  have hG : zG ((za_si σ 100 2000 x).1 100) := zG_cong (fun i hi => by rw [za_si_ne _ _ (Or.inr (by omega))]) h.2
  exact ⟨zq_w h.1 (by decide), hG.1, hG.2.1⟩
theorem zqg_x {b : Int} {σ0 σ σ' : za_S} (h : zqg b σ0 σ) (k : zfx 100 σ σ' ∧ zGB (σ'.1 100) ∧ zGI (σ'.1 100)) : zqg b σ0 σ' := ⟨zq_fr h.1 (fun w h1 _ h3 => k.1.1 w h1 h3) k.1.2.1 (fun j h1 h2 _ => k.1.2.2 j h1 h2), k.2⟩
/-- drawn acts -/
def zfd (σ0 σ : za_S) : Prop := ((∀ w, w ≠ 100 → w ≠ 101 → w ≠ 93 → σ.1 w = σ0.1 w) ∧ σ.2 = σ0.2 ∧ ∀ j, j ≠ 19 → j ≠ 20 → j ≠ 35 → σ.1 93 j = σ0.1 93 j) ∧ zG (σ.1 100)
theorem zfd_r {σ : za_S} (h : zG (σ.1 100)) : zfd σ σ := ⟨⟨fun _ _ _ _ => rfl, rfl, fun _ _ _ _ => rfl⟩, h⟩
theorem zfd_w {σ0 σ : za_S} {x : Int32} (h : zfd σ0 σ) : zfd σ0 (za_si σ 93 35 x) := by
  refine ⟨⟨fun w h1 h2 h3 => ?_, h.1.2.1, fun j h1 h2 h3 => ?_⟩, ?_⟩
  · rw [(za_si_off w h3).1]; exact h.1.1 w h1 h2 h3
  · rw [za_si_ne _ _ (Or.inr h3)]; exact h.1.2.2 j h1 h2 h3
  · rw [(za_si_off 100 (by decide)).1]; exact h.2
theorem zfd_a {σ0 σ σ' : za_S} (h : zfd σ0 σ) (k : zfa 100 σ σ') : zfd σ0 σ' := ⟨⟨fun w h1 h2 h3 => (k.1 w h1 h2 h3).trans (h.1.1 w h1 h2 h3), k.2.1.trans h.1.2.1, fun j h1 h2 h3 => (k.2.2.1 j h1 h2).trans (h.1.2.2 j h1 h2 h3)⟩, k.2.2.2⟩
theorem zfd_j {σ0 σ σ' : za_S} (h : zfd σ0 σ) (k : zjr 100 σ σ') : zfd σ0 σ' := ⟨⟨fun w h1 h2 h3 => (k.1.1 w h1 h3).trans (h.1.1 w h1 h2 h3), k.1.2.1.trans h.1.2.1, fun j h1 h2 h3 => (k.1.2.2 j h1 h2).trans (h.1.2.2 j h1 h2 h3)⟩, zjn_G k.2 h.2⟩
theorem zqy_d {b : Int} {σ0 σ σ' : za_S} (h : zqy b σ0 σ) (k : zfd σ σ') : zqy b σ0 σ' := ⟨zq_fr h.1 k.1.1 k.1.2.1 k.1.2.2, k.2⟩
theorem zqy_0 {b : Int} {σ0 σ : za_S} {x : Int32} (h : zqy b σ0 σ) : zqy b σ0 (za_si σ 93 35 x) := ⟨zq_93 h.1 (by decide), by rw [(za_si_off 100 (by decide)).1]; exact h.2⟩
theorem z_ush (x : Int32) : 0 ≤ ((x.toUInt32 >>> ((16 : Int32).toUInt32 &&& Int32.toUInt32 31)).toInt32).toInt := by
  have e : ((16 : Int32).toUInt32 &&& Int32.toUInt32 31) = 16 := by decide
  rw [e]
  have h1 : (x.toUInt32 >>> 16).toNat < 65536 := by
    rw [UInt32.toNat_shiftRight]
    have h2 := UInt32.toNat_lt x.toUInt32
    rw [show (16 : UInt32).toNat % 32 = 16 by decide, Nat.shiftRight_eq_div_pow]
    omega
  show 0 ≤ ((x.toUInt32 >>> 16).toBitVec).toInt
  rw [BitVec.toInt_eq_toNat_of_lt (show 2 * (x.toUInt32 >>> 16).toBitVec.toNat < 2 ^ 32 by rw [show (x.toUInt32 >>> 16).toBitVec.toNat = (x.toUInt32 >>> 16).toNat from rfl]; omega)]
  omega
theorem z_drw {x n : Int32} {N : Int} (hn : n.toInt = N) (h : 0 < N) : 0 ≤ ((x.toUInt32 >>> ((16 : Int32).toUInt32 &&& Int32.toUInt32 31)).toInt32 - (x.toUInt32 >>> ((16 : Int32).toUInt32 &&& Int32.toUInt32 31)).toInt32 / n * n).toInt ∧ ((x.toUInt32 >>> ((16 : Int32).toUInt32 &&& Int32.toUInt32 31)).toInt32 - (x.toUInt32 >>> ((16 : Int32).toUInt32 &&& Int32.toUInt32 31)).toInt32 / n * n).toInt < N := by
  have h1 := z_ush x
  rw [z_rem h1 (by omega), hn]
  exact ⟨Int.emod_nonneg _ (by omega), Int.emod_lt_of_pos _ h⟩
theorem z_vlq {b : Int} {σ0 σ : za_S} {t k d r : Int32} (hJ : zJ σ0) (h : zq b σ0 σ) (ht : 0 ≤ t.toInt ∧ t.toInt ≤ 1) (hk : 0 ≤ k.toInt ∧ k.toInt ≤ 9) (T : zth (σ.1 99) t k d) (e : r = zvl (σ.1 99 (zix t k d))) : 0 ≤ r.toInt ∧ r.toInt ≤ 99 := by
  have hB := hJ.2.2.2.2.2.2.1.1 _ (zix_lt ht hk T.1).1
  rw [← zq_now h] at hB
  rw [e]
  exact z_vl T.2 hB.2
set_option maxHeartbeats 4000000 in
set_option maxRecDepth 100000 in
theorem zc_X10_common_at0 (l : Launch) (E : za_E) (a : Int64) (b : Int64) (σ : za_S) (ha : 0 ≤ a.toInt) (hb : 0 ≤ b.toInt ∧ b.toInt ≤ 0) (hn : ¬ a = 0 ∨ ¬ b = 0) : zMl l E yX10_common cX10_common 4 (Option.some Jvm.ClassFile.FieldType.long) 1 21 [za_L a, za_L b] σ (fun r σ' => (¬ r = 0) ∧ σ' = σ) := by
  refine zMl_of [(0, za_L a), (2, za_L b)] (by decide) rfl rfl (Nat.le_of_ble_eq_true rfl) ?_
  intro ho p e s m args below meth c G hr
  refine zv_lload_n (j := 1) G dX10_common_0 rfl rfl ?_
  refine zv_lconst (v := 0) G dX10_common_1 (by decide) ?_
  refine zv_lcmp G dX10_common_2 ?_
  refine zv_if_ne (tgt := 10) G dX10_common_3 (by decide) (fun c_3 => ?_) (fun c_3 => ?_)
  · exact (z_c0 hb (z_lne c_3)).elim
  · refine zv_lload_n (j := 0) G dX10_common_6 rfl rfl ?_
    refine zv_goto (tgt := 17) G dX10_common_7 (by decide) ?_
    exact zv_lret G hr dX10_common_17 ⟨(hn.resolve_right (fun h => h (z_leq c_3))), rfl⟩
set_option maxHeartbeats 4000000 in
set_option maxRecDepth 100000 in
theorem zc_X10_common_at1 (l : Launch) (E : za_E) (a : Int64) (b : Int64) (σ : za_S) (ha : 0 ≤ a.toInt) (hb : 0 ≤ b.toInt ∧ b.toInt ≤ 1) (hn : ¬ a = 0 ∨ ¬ b = 0) : zMl l E yX10_common cX10_common 4 (Option.some Jvm.ClassFile.FieldType.long) 2 44 [za_L a, za_L b] σ (fun r σ' => (¬ r = 0) ∧ σ' = σ) := by
  refine zMl_of [(0, za_L a), (2, za_L b)] (by decide) rfl rfl (Nat.le_of_ble_eq_true rfl) ?_
  intro ho p e s m args below meth c G hr
  refine zv_lload_n (j := 1) G dX10_common_0 rfl rfl ?_
  refine zv_lconst (v := 0) G dX10_common_1 (by decide) ?_
  refine zv_lcmp G dX10_common_2 ?_
  refine zv_if_ne (tgt := 10) G dX10_common_3 (by decide) (fun c_3 => ?_) (fun c_3 => ?_)
  · have nb := z_lne c_3
    refine zv_lload_n (j := 1) G dX10_common_10 rfl rfl ?_
    refine zv_lload_n (j := 0) G dX10_common_11 rfl rfl ?_
    refine zv_lload_n (j := 1) G dX10_common_12 rfl rfl ?_
    refine zv_lrem G dX10_common_13 nb ?_
    refine zv_callSl (as := [za_L b, za_L (a - a / b * b)]) G (zc_X10_common_at0 l E b (a - a / b * b) σ hb.1 (z_common (B := 0) ha hb nb) (Or.inl nb)) zk_X10_common zm_1600 rfl ⟨(Nat.le_of_ble_eq_true rfl), (Nat.le_of_ble_eq_true rfl)⟩ ⟨Nat.zero_le _, Nat.zero_le _⟩ (Nat.le_of_ble_eq_true rfl) dX10_common_14 (fun r_14 σ h_14 => ?_)
    obtain ⟨h_14, rfl⟩ := h_14
    exact zv_lret G hr dX10_common_17 ⟨h_14, rfl⟩
  · refine zv_lload_n (j := 0) G dX10_common_6 rfl rfl ?_
    refine zv_goto (tgt := 17) G dX10_common_7 (by decide) ?_
    exact zv_lret G hr dX10_common_17 ⟨(hn.resolve_right (fun h => h (z_leq c_3))), rfl⟩
set_option maxHeartbeats 4000000 in
set_option maxRecDepth 100000 in
theorem zc_X10_common_at2 (l : Launch) (E : za_E) (a : Int64) (b : Int64) (σ : za_S) (ha : 0 ≤ a.toInt) (hb : 0 ≤ b.toInt ∧ b.toInt ≤ 2) (hn : ¬ a = 0 ∨ ¬ b = 0) : zMl l E yX10_common cX10_common 4 (Option.some Jvm.ClassFile.FieldType.long) 3 67 [za_L a, za_L b] σ (fun r σ' => (¬ r = 0) ∧ σ' = σ) := by
  refine zMl_of [(0, za_L a), (2, za_L b)] (by decide) rfl rfl (Nat.le_of_ble_eq_true rfl) ?_
  intro ho p e s m args below meth c G hr
  refine zv_lload_n (j := 1) G dX10_common_0 rfl rfl ?_
  refine zv_lconst (v := 0) G dX10_common_1 (by decide) ?_
  refine zv_lcmp G dX10_common_2 ?_
  refine zv_if_ne (tgt := 10) G dX10_common_3 (by decide) (fun c_3 => ?_) (fun c_3 => ?_)
  · have nb := z_lne c_3
    refine zv_lload_n (j := 1) G dX10_common_10 rfl rfl ?_
    refine zv_lload_n (j := 0) G dX10_common_11 rfl rfl ?_
    refine zv_lload_n (j := 1) G dX10_common_12 rfl rfl ?_
    refine zv_lrem G dX10_common_13 nb ?_
    refine zv_callSl (as := [za_L b, za_L (a - a / b * b)]) G (zc_X10_common_at1 l E b (a - a / b * b) σ hb.1 (z_common (B := 1) ha hb nb) (Or.inl nb)) zk_X10_common zm_1600 rfl ⟨(Nat.le_of_ble_eq_true rfl), (Nat.le_of_ble_eq_true rfl)⟩ ⟨Nat.zero_le _, Nat.zero_le _⟩ (Nat.le_of_ble_eq_true rfl) dX10_common_14 (fun r_14 σ h_14 => ?_)
    obtain ⟨h_14, rfl⟩ := h_14
    exact zv_lret G hr dX10_common_17 ⟨h_14, rfl⟩
  · refine zv_lload_n (j := 0) G dX10_common_6 rfl rfl ?_
    refine zv_goto (tgt := 17) G dX10_common_7 (by decide) ?_
    exact zv_lret G hr dX10_common_17 ⟨(hn.resolve_right (fun h => h (z_leq c_3))), rfl⟩
set_option maxHeartbeats 4000000 in
set_option maxRecDepth 100000 in
theorem zc_X10_common_at3 (l : Launch) (E : za_E) (a : Int64) (b : Int64) (σ : za_S) (ha : 0 ≤ a.toInt) (hb : 0 ≤ b.toInt ∧ b.toInt ≤ 3) (hn : ¬ a = 0 ∨ ¬ b = 0) : zMl l E yX10_common cX10_common 4 (Option.some Jvm.ClassFile.FieldType.long) 4 90 [za_L a, za_L b] σ (fun r σ' => (¬ r = 0) ∧ σ' = σ) := by
  refine zMl_of [(0, za_L a), (2, za_L b)] (by decide) rfl rfl (Nat.le_of_ble_eq_true rfl) ?_
  intro ho p e s m args below meth c G hr
  refine zv_lload_n (j := 1) G dX10_common_0 rfl rfl ?_
  refine zv_lconst (v := 0) G dX10_common_1 (by decide) ?_
  refine zv_lcmp G dX10_common_2 ?_
  refine zv_if_ne (tgt := 10) G dX10_common_3 (by decide) (fun c_3 => ?_) (fun c_3 => ?_)
  · have nb := z_lne c_3
    refine zv_lload_n (j := 1) G dX10_common_10 rfl rfl ?_
    refine zv_lload_n (j := 0) G dX10_common_11 rfl rfl ?_
    refine zv_lload_n (j := 1) G dX10_common_12 rfl rfl ?_
    refine zv_lrem G dX10_common_13 nb ?_
    refine zv_callSl (as := [za_L b, za_L (a - a / b * b)]) G (zc_X10_common_at2 l E b (a - a / b * b) σ hb.1 (z_common (B := 2) ha hb nb) (Or.inl nb)) zk_X10_common zm_1600 rfl ⟨(Nat.le_of_ble_eq_true rfl), (Nat.le_of_ble_eq_true rfl)⟩ ⟨Nat.zero_le _, Nat.zero_le _⟩ (Nat.le_of_ble_eq_true rfl) dX10_common_14 (fun r_14 σ h_14 => ?_)
    obtain ⟨h_14, rfl⟩ := h_14
    exact zv_lret G hr dX10_common_17 ⟨h_14, rfl⟩
  · refine zv_lload_n (j := 0) G dX10_common_6 rfl rfl ?_
    refine zv_goto (tgt := 17) G dX10_common_7 (by decide) ?_
    exact zv_lret G hr dX10_common_17 ⟨(hn.resolve_right (fun h => h (z_leq c_3))), rfl⟩
set_option maxHeartbeats 4000000 in
set_option maxRecDepth 100000 in
theorem zc_X10_common_at4 (l : Launch) (E : za_E) (a : Int64) (b : Int64) (σ : za_S) (ha : 0 ≤ a.toInt) (hb : 0 ≤ b.toInt ∧ b.toInt ≤ 4) (hn : ¬ a = 0 ∨ ¬ b = 0) : zMl l E yX10_common cX10_common 4 (Option.some Jvm.ClassFile.FieldType.long) 5 113 [za_L a, za_L b] σ (fun r σ' => (¬ r = 0) ∧ σ' = σ) := by
  refine zMl_of [(0, za_L a), (2, za_L b)] (by decide) rfl rfl (Nat.le_of_ble_eq_true rfl) ?_
  intro ho p e s m args below meth c G hr
  refine zv_lload_n (j := 1) G dX10_common_0 rfl rfl ?_
  refine zv_lconst (v := 0) G dX10_common_1 (by decide) ?_
  refine zv_lcmp G dX10_common_2 ?_
  refine zv_if_ne (tgt := 10) G dX10_common_3 (by decide) (fun c_3 => ?_) (fun c_3 => ?_)
  · have nb := z_lne c_3
    refine zv_lload_n (j := 1) G dX10_common_10 rfl rfl ?_
    refine zv_lload_n (j := 0) G dX10_common_11 rfl rfl ?_
    refine zv_lload_n (j := 1) G dX10_common_12 rfl rfl ?_
    refine zv_lrem G dX10_common_13 nb ?_
    refine zv_callSl (as := [za_L b, za_L (a - a / b * b)]) G (zc_X10_common_at3 l E b (a - a / b * b) σ hb.1 (z_common (B := 3) ha hb nb) (Or.inl nb)) zk_X10_common zm_1600 rfl ⟨(Nat.le_of_ble_eq_true rfl), (Nat.le_of_ble_eq_true rfl)⟩ ⟨Nat.zero_le _, Nat.zero_le _⟩ (Nat.le_of_ble_eq_true rfl) dX10_common_14 (fun r_14 σ h_14 => ?_)
    obtain ⟨h_14, rfl⟩ := h_14
    exact zv_lret G hr dX10_common_17 ⟨h_14, rfl⟩
  · refine zv_lload_n (j := 0) G dX10_common_6 rfl rfl ?_
    refine zv_goto (tgt := 17) G dX10_common_7 (by decide) ?_
    exact zv_lret G hr dX10_common_17 ⟨(hn.resolve_right (fun h => h (z_leq c_3))), rfl⟩
set_option maxHeartbeats 4000000 in
set_option maxRecDepth 100000 in
theorem zc_X10_common_at5 (l : Launch) (E : za_E) (a : Int64) (b : Int64) (σ : za_S) (ha : 0 ≤ a.toInt) (hb : 0 ≤ b.toInt ∧ b.toInt ≤ 5) (hn : ¬ a = 0 ∨ ¬ b = 0) : zMl l E yX10_common cX10_common 4 (Option.some Jvm.ClassFile.FieldType.long) 6 136 [za_L a, za_L b] σ (fun r σ' => (¬ r = 0) ∧ σ' = σ) := by
  refine zMl_of [(0, za_L a), (2, za_L b)] (by decide) rfl rfl (Nat.le_of_ble_eq_true rfl) ?_
  intro ho p e s m args below meth c G hr
  refine zv_lload_n (j := 1) G dX10_common_0 rfl rfl ?_
  refine zv_lconst (v := 0) G dX10_common_1 (by decide) ?_
  refine zv_lcmp G dX10_common_2 ?_
  refine zv_if_ne (tgt := 10) G dX10_common_3 (by decide) (fun c_3 => ?_) (fun c_3 => ?_)
  · have nb := z_lne c_3
    refine zv_lload_n (j := 1) G dX10_common_10 rfl rfl ?_
    refine zv_lload_n (j := 0) G dX10_common_11 rfl rfl ?_
    refine zv_lload_n (j := 1) G dX10_common_12 rfl rfl ?_
    refine zv_lrem G dX10_common_13 nb ?_
    refine zv_callSl (as := [za_L b, za_L (a - a / b * b)]) G (zc_X10_common_at4 l E b (a - a / b * b) σ hb.1 (z_common (B := 4) ha hb nb) (Or.inl nb)) zk_X10_common zm_1600 rfl ⟨(Nat.le_of_ble_eq_true rfl), (Nat.le_of_ble_eq_true rfl)⟩ ⟨Nat.zero_le _, Nat.zero_le _⟩ (Nat.le_of_ble_eq_true rfl) dX10_common_14 (fun r_14 σ h_14 => ?_)
    obtain ⟨h_14, rfl⟩ := h_14
    exact zv_lret G hr dX10_common_17 ⟨h_14, rfl⟩
  · refine zv_lload_n (j := 0) G dX10_common_6 rfl rfl ?_
    refine zv_goto (tgt := 17) G dX10_common_7 (by decide) ?_
    exact zv_lret G hr dX10_common_17 ⟨(hn.resolve_right (fun h => h (z_leq c_3))), rfl⟩
set_option maxHeartbeats 4000000 in
set_option maxRecDepth 100000 in
theorem zc_X10_common_at6 (l : Launch) (E : za_E) (a : Int64) (b : Int64) (σ : za_S) (ha : 0 ≤ a.toInt) (hb : 0 ≤ b.toInt ∧ b.toInt ≤ 6) (hn : ¬ a = 0 ∨ ¬ b = 0) : zMl l E yX10_common cX10_common 4 (Option.some Jvm.ClassFile.FieldType.long) 7 159 [za_L a, za_L b] σ (fun r σ' => (¬ r = 0) ∧ σ' = σ) := by
  refine zMl_of [(0, za_L a), (2, za_L b)] (by decide) rfl rfl (Nat.le_of_ble_eq_true rfl) ?_
  intro ho p e s m args below meth c G hr
  refine zv_lload_n (j := 1) G dX10_common_0 rfl rfl ?_
  refine zv_lconst (v := 0) G dX10_common_1 (by decide) ?_
  refine zv_lcmp G dX10_common_2 ?_
  refine zv_if_ne (tgt := 10) G dX10_common_3 (by decide) (fun c_3 => ?_) (fun c_3 => ?_)
  · have nb := z_lne c_3
    refine zv_lload_n (j := 1) G dX10_common_10 rfl rfl ?_
    refine zv_lload_n (j := 0) G dX10_common_11 rfl rfl ?_
    refine zv_lload_n (j := 1) G dX10_common_12 rfl rfl ?_
    refine zv_lrem G dX10_common_13 nb ?_
    refine zv_callSl (as := [za_L b, za_L (a - a / b * b)]) G (zc_X10_common_at5 l E b (a - a / b * b) σ hb.1 (z_common (B := 5) ha hb nb) (Or.inl nb)) zk_X10_common zm_1600 rfl ⟨(Nat.le_of_ble_eq_true rfl), (Nat.le_of_ble_eq_true rfl)⟩ ⟨Nat.zero_le _, Nat.zero_le _⟩ (Nat.le_of_ble_eq_true rfl) dX10_common_14 (fun r_14 σ h_14 => ?_)
    obtain ⟨h_14, rfl⟩ := h_14
    exact zv_lret G hr dX10_common_17 ⟨h_14, rfl⟩
  · refine zv_lload_n (j := 0) G dX10_common_6 rfl rfl ?_
    refine zv_goto (tgt := 17) G dX10_common_7 (by decide) ?_
    exact zv_lret G hr dX10_common_17 ⟨(hn.resolve_right (fun h => h (z_leq c_3))), rfl⟩
set_option maxHeartbeats 4000000 in
set_option maxRecDepth 100000 in
theorem zc_X10_common_at7 (l : Launch) (E : za_E) (a : Int64) (b : Int64) (σ : za_S) (ha : 0 ≤ a.toInt) (hb : 0 ≤ b.toInt ∧ b.toInt ≤ 7) (hn : ¬ a = 0 ∨ ¬ b = 0) : zMl l E yX10_common cX10_common 4 (Option.some Jvm.ClassFile.FieldType.long) 8 182 [za_L a, za_L b] σ (fun r σ' => (¬ r = 0) ∧ σ' = σ) := by
  refine zMl_of [(0, za_L a), (2, za_L b)] (by decide) rfl rfl (Nat.le_of_ble_eq_true rfl) ?_
  intro ho p e s m args below meth c G hr
  refine zv_lload_n (j := 1) G dX10_common_0 rfl rfl ?_
  refine zv_lconst (v := 0) G dX10_common_1 (by decide) ?_
  refine zv_lcmp G dX10_common_2 ?_
  refine zv_if_ne (tgt := 10) G dX10_common_3 (by decide) (fun c_3 => ?_) (fun c_3 => ?_)
  · have nb := z_lne c_3
    refine zv_lload_n (j := 1) G dX10_common_10 rfl rfl ?_
    refine zv_lload_n (j := 0) G dX10_common_11 rfl rfl ?_
    refine zv_lload_n (j := 1) G dX10_common_12 rfl rfl ?_
    refine zv_lrem G dX10_common_13 nb ?_
    refine zv_callSl (as := [za_L b, za_L (a - a / b * b)]) G (zc_X10_common_at6 l E b (a - a / b * b) σ hb.1 (z_common (B := 6) ha hb nb) (Or.inl nb)) zk_X10_common zm_1600 rfl ⟨(Nat.le_of_ble_eq_true rfl), (Nat.le_of_ble_eq_true rfl)⟩ ⟨Nat.zero_le _, Nat.zero_le _⟩ (Nat.le_of_ble_eq_true rfl) dX10_common_14 (fun r_14 σ h_14 => ?_)
    obtain ⟨h_14, rfl⟩ := h_14
    exact zv_lret G hr dX10_common_17 ⟨h_14, rfl⟩
  · refine zv_lload_n (j := 0) G dX10_common_6 rfl rfl ?_
    refine zv_goto (tgt := 17) G dX10_common_7 (by decide) ?_
    exact zv_lret G hr dX10_common_17 ⟨(hn.resolve_right (fun h => h (z_leq c_3))), rfl⟩
set_option maxHeartbeats 4000000 in
set_option maxRecDepth 100000 in
theorem zc_X10_common_at8 (l : Launch) (E : za_E) (a : Int64) (b : Int64) (σ : za_S) (ha : 0 ≤ a.toInt) (hb : 0 ≤ b.toInt ∧ b.toInt ≤ 8) (hn : ¬ a = 0 ∨ ¬ b = 0) : zMl l E yX10_common cX10_common 4 (Option.some Jvm.ClassFile.FieldType.long) 9 205 [za_L a, za_L b] σ (fun r σ' => (¬ r = 0) ∧ σ' = σ) := by
  refine zMl_of [(0, za_L a), (2, za_L b)] (by decide) rfl rfl (Nat.le_of_ble_eq_true rfl) ?_
  intro ho p e s m args below meth c G hr
  refine zv_lload_n (j := 1) G dX10_common_0 rfl rfl ?_
  refine zv_lconst (v := 0) G dX10_common_1 (by decide) ?_
  refine zv_lcmp G dX10_common_2 ?_
  refine zv_if_ne (tgt := 10) G dX10_common_3 (by decide) (fun c_3 => ?_) (fun c_3 => ?_)
  · have nb := z_lne c_3
    refine zv_lload_n (j := 1) G dX10_common_10 rfl rfl ?_
    refine zv_lload_n (j := 0) G dX10_common_11 rfl rfl ?_
    refine zv_lload_n (j := 1) G dX10_common_12 rfl rfl ?_
    refine zv_lrem G dX10_common_13 nb ?_
    refine zv_callSl (as := [za_L b, za_L (a - a / b * b)]) G (zc_X10_common_at7 l E b (a - a / b * b) σ hb.1 (z_common (B := 7) ha hb nb) (Or.inl nb)) zk_X10_common zm_1600 rfl ⟨(Nat.le_of_ble_eq_true rfl), (Nat.le_of_ble_eq_true rfl)⟩ ⟨Nat.zero_le _, Nat.zero_le _⟩ (Nat.le_of_ble_eq_true rfl) dX10_common_14 (fun r_14 σ h_14 => ?_)
    obtain ⟨h_14, rfl⟩ := h_14
    exact zv_lret G hr dX10_common_17 ⟨h_14, rfl⟩
  · refine zv_lload_n (j := 0) G dX10_common_6 rfl rfl ?_
    refine zv_goto (tgt := 17) G dX10_common_7 (by decide) ?_
    exact zv_lret G hr dX10_common_17 ⟨(hn.resolve_right (fun h => h (z_leq c_3))), rfl⟩
set_option maxHeartbeats 4000000 in
set_option maxRecDepth 100000 in
theorem zc_X10_common_at9 (l : Launch) (E : za_E) (a : Int64) (b : Int64) (σ : za_S) (ha : 0 ≤ a.toInt) (hb : 0 ≤ b.toInt ∧ b.toInt ≤ 9) (hn : ¬ a = 0 ∨ ¬ b = 0) : zMl l E yX10_common cX10_common 4 (Option.some Jvm.ClassFile.FieldType.long) 10 228 [za_L a, za_L b] σ (fun r σ' => (¬ r = 0) ∧ σ' = σ) := by
  refine zMl_of [(0, za_L a), (2, za_L b)] (by decide) rfl rfl (Nat.le_of_ble_eq_true rfl) ?_
  intro ho p e s m args below meth c G hr
  refine zv_lload_n (j := 1) G dX10_common_0 rfl rfl ?_
  refine zv_lconst (v := 0) G dX10_common_1 (by decide) ?_
  refine zv_lcmp G dX10_common_2 ?_
  refine zv_if_ne (tgt := 10) G dX10_common_3 (by decide) (fun c_3 => ?_) (fun c_3 => ?_)
  · have nb := z_lne c_3
    refine zv_lload_n (j := 1) G dX10_common_10 rfl rfl ?_
    refine zv_lload_n (j := 0) G dX10_common_11 rfl rfl ?_
    refine zv_lload_n (j := 1) G dX10_common_12 rfl rfl ?_
    refine zv_lrem G dX10_common_13 nb ?_
    refine zv_callSl (as := [za_L b, za_L (a - a / b * b)]) G (zc_X10_common_at8 l E b (a - a / b * b) σ hb.1 (z_common (B := 8) ha hb nb) (Or.inl nb)) zk_X10_common zm_1600 rfl ⟨(Nat.le_of_ble_eq_true rfl), (Nat.le_of_ble_eq_true rfl)⟩ ⟨Nat.zero_le _, Nat.zero_le _⟩ (Nat.le_of_ble_eq_true rfl) dX10_common_14 (fun r_14 σ h_14 => ?_)
    obtain ⟨h_14, rfl⟩ := h_14
    exact zv_lret G hr dX10_common_17 ⟨h_14, rfl⟩
  · refine zv_lload_n (j := 0) G dX10_common_6 rfl rfl ?_
    refine zv_goto (tgt := 17) G dX10_common_7 (by decide) ?_
    exact zv_lret G hr dX10_common_17 ⟨(hn.resolve_right (fun h => h (z_leq c_3))), rfl⟩
set_option maxHeartbeats 4000000 in
set_option maxRecDepth 100000 in
theorem zc_X10_common_at10 (l : Launch) (E : za_E) (a : Int64) (b : Int64) (σ : za_S) (ha : 0 ≤ a.toInt) (hb : 0 ≤ b.toInt ∧ b.toInt ≤ 10) (hn : ¬ a = 0 ∨ ¬ b = 0) : zMl l E yX10_common cX10_common 4 (Option.some Jvm.ClassFile.FieldType.long) 11 251 [za_L a, za_L b] σ (fun r σ' => (¬ r = 0) ∧ σ' = σ) := by
  refine zMl_of [(0, za_L a), (2, za_L b)] (by decide) rfl rfl (Nat.le_of_ble_eq_true rfl) ?_
  intro ho p e s m args below meth c G hr
  refine zv_lload_n (j := 1) G dX10_common_0 rfl rfl ?_
  refine zv_lconst (v := 0) G dX10_common_1 (by decide) ?_
  refine zv_lcmp G dX10_common_2 ?_
  refine zv_if_ne (tgt := 10) G dX10_common_3 (by decide) (fun c_3 => ?_) (fun c_3 => ?_)
  · have nb := z_lne c_3
    refine zv_lload_n (j := 1) G dX10_common_10 rfl rfl ?_
    refine zv_lload_n (j := 0) G dX10_common_11 rfl rfl ?_
    refine zv_lload_n (j := 1) G dX10_common_12 rfl rfl ?_
    refine zv_lrem G dX10_common_13 nb ?_
    refine zv_callSl (as := [za_L b, za_L (a - a / b * b)]) G (zc_X10_common_at9 l E b (a - a / b * b) σ hb.1 (z_common (B := 9) ha hb nb) (Or.inl nb)) zk_X10_common zm_1600 rfl ⟨(Nat.le_of_ble_eq_true rfl), (Nat.le_of_ble_eq_true rfl)⟩ ⟨Nat.zero_le _, Nat.zero_le _⟩ (Nat.le_of_ble_eq_true rfl) dX10_common_14 (fun r_14 σ h_14 => ?_)
    obtain ⟨h_14, rfl⟩ := h_14
    exact zv_lret G hr dX10_common_17 ⟨h_14, rfl⟩
  · refine zv_lload_n (j := 0) G dX10_common_6 rfl rfl ?_
    refine zv_goto (tgt := 17) G dX10_common_7 (by decide) ?_
    exact zv_lret G hr dX10_common_17 ⟨(hn.resolve_right (fun h => h (z_leq c_3))), rfl⟩
set_option maxHeartbeats 4000000 in
set_option maxRecDepth 100000 in
theorem zc_X10_common_at11 (l : Launch) (E : za_E) (a : Int64) (b : Int64) (σ : za_S) (ha : 0 ≤ a.toInt) (hb : 0 ≤ b.toInt ∧ b.toInt ≤ 11) (hn : ¬ a = 0 ∨ ¬ b = 0) : zMl l E yX10_common cX10_common 4 (Option.some Jvm.ClassFile.FieldType.long) 12 274 [za_L a, za_L b] σ (fun r σ' => (¬ r = 0) ∧ σ' = σ) := by
  refine zMl_of [(0, za_L a), (2, za_L b)] (by decide) rfl rfl (Nat.le_of_ble_eq_true rfl) ?_
  intro ho p e s m args below meth c G hr
  refine zv_lload_n (j := 1) G dX10_common_0 rfl rfl ?_
  refine zv_lconst (v := 0) G dX10_common_1 (by decide) ?_
  refine zv_lcmp G dX10_common_2 ?_
  refine zv_if_ne (tgt := 10) G dX10_common_3 (by decide) (fun c_3 => ?_) (fun c_3 => ?_)
  · have nb := z_lne c_3
    refine zv_lload_n (j := 1) G dX10_common_10 rfl rfl ?_
    refine zv_lload_n (j := 0) G dX10_common_11 rfl rfl ?_
    refine zv_lload_n (j := 1) G dX10_common_12 rfl rfl ?_
    refine zv_lrem G dX10_common_13 nb ?_
    refine zv_callSl (as := [za_L b, za_L (a - a / b * b)]) G (zc_X10_common_at10 l E b (a - a / b * b) σ hb.1 (z_common (B := 10) ha hb nb) (Or.inl nb)) zk_X10_common zm_1600 rfl ⟨(Nat.le_of_ble_eq_true rfl), (Nat.le_of_ble_eq_true rfl)⟩ ⟨Nat.zero_le _, Nat.zero_le _⟩ (Nat.le_of_ble_eq_true rfl) dX10_common_14 (fun r_14 σ h_14 => ?_)
    obtain ⟨h_14, rfl⟩ := h_14
    exact zv_lret G hr dX10_common_17 ⟨h_14, rfl⟩
  · refine zv_lload_n (j := 0) G dX10_common_6 rfl rfl ?_
    refine zv_goto (tgt := 17) G dX10_common_7 (by decide) ?_
    exact zv_lret G hr dX10_common_17 ⟨(hn.resolve_right (fun h => h (z_leq c_3))), rfl⟩
set_option maxHeartbeats 4000000 in
set_option maxRecDepth 100000 in
theorem zc_X10_common_at12 (l : Launch) (E : za_E) (a : Int64) (b : Int64) (σ : za_S) (ha : 0 ≤ a.toInt) (hb : 0 ≤ b.toInt ∧ b.toInt ≤ 12) (hn : ¬ a = 0 ∨ ¬ b = 0) : zMl l E yX10_common cX10_common 4 (Option.some Jvm.ClassFile.FieldType.long) 13 297 [za_L a, za_L b] σ (fun r σ' => (¬ r = 0) ∧ σ' = σ) := by
  refine zMl_of [(0, za_L a), (2, za_L b)] (by decide) rfl rfl (Nat.le_of_ble_eq_true rfl) ?_
  intro ho p e s m args below meth c G hr
  refine zv_lload_n (j := 1) G dX10_common_0 rfl rfl ?_
  refine zv_lconst (v := 0) G dX10_common_1 (by decide) ?_
  refine zv_lcmp G dX10_common_2 ?_
  refine zv_if_ne (tgt := 10) G dX10_common_3 (by decide) (fun c_3 => ?_) (fun c_3 => ?_)
  · have nb := z_lne c_3
    refine zv_lload_n (j := 1) G dX10_common_10 rfl rfl ?_
    refine zv_lload_n (j := 0) G dX10_common_11 rfl rfl ?_
    refine zv_lload_n (j := 1) G dX10_common_12 rfl rfl ?_
    refine zv_lrem G dX10_common_13 nb ?_
    refine zv_callSl (as := [za_L b, za_L (a - a / b * b)]) G (zc_X10_common_at11 l E b (a - a / b * b) σ hb.1 (z_common (B := 11) ha hb nb) (Or.inl nb)) zk_X10_common zm_1600 rfl ⟨(Nat.le_of_ble_eq_true rfl), (Nat.le_of_ble_eq_true rfl)⟩ ⟨Nat.zero_le _, Nat.zero_le _⟩ (Nat.le_of_ble_eq_true rfl) dX10_common_14 (fun r_14 σ h_14 => ?_)
    obtain ⟨h_14, rfl⟩ := h_14
    exact zv_lret G hr dX10_common_17 ⟨h_14, rfl⟩
  · refine zv_lload_n (j := 0) G dX10_common_6 rfl rfl ?_
    refine zv_goto (tgt := 17) G dX10_common_7 (by decide) ?_
    exact zv_lret G hr dX10_common_17 ⟨(hn.resolve_right (fun h => h (z_leq c_3))), rfl⟩
set_option maxHeartbeats 4000000 in
set_option maxRecDepth 100000 in
theorem zc_X10_common_at13 (l : Launch) (E : za_E) (a : Int64) (b : Int64) (σ : za_S) (ha : 0 ≤ a.toInt) (hb : 0 ≤ b.toInt ∧ b.toInt ≤ 13) (hn : ¬ a = 0 ∨ ¬ b = 0) : zMl l E yX10_common cX10_common 4 (Option.some Jvm.ClassFile.FieldType.long) 14 320 [za_L a, za_L b] σ (fun r σ' => (¬ r = 0) ∧ σ' = σ) := by
  refine zMl_of [(0, za_L a), (2, za_L b)] (by decide) rfl rfl (Nat.le_of_ble_eq_true rfl) ?_
  intro ho p e s m args below meth c G hr
  refine zv_lload_n (j := 1) G dX10_common_0 rfl rfl ?_
  refine zv_lconst (v := 0) G dX10_common_1 (by decide) ?_
  refine zv_lcmp G dX10_common_2 ?_
  refine zv_if_ne (tgt := 10) G dX10_common_3 (by decide) (fun c_3 => ?_) (fun c_3 => ?_)
  · have nb := z_lne c_3
    refine zv_lload_n (j := 1) G dX10_common_10 rfl rfl ?_
    refine zv_lload_n (j := 0) G dX10_common_11 rfl rfl ?_
    refine zv_lload_n (j := 1) G dX10_common_12 rfl rfl ?_
    refine zv_lrem G dX10_common_13 nb ?_
    refine zv_callSl (as := [za_L b, za_L (a - a / b * b)]) G (zc_X10_common_at12 l E b (a - a / b * b) σ hb.1 (z_common (B := 12) ha hb nb) (Or.inl nb)) zk_X10_common zm_1600 rfl ⟨(Nat.le_of_ble_eq_true rfl), (Nat.le_of_ble_eq_true rfl)⟩ ⟨Nat.zero_le _, Nat.zero_le _⟩ (Nat.le_of_ble_eq_true rfl) dX10_common_14 (fun r_14 σ h_14 => ?_)
    obtain ⟨h_14, rfl⟩ := h_14
    exact zv_lret G hr dX10_common_17 ⟨h_14, rfl⟩
  · refine zv_lload_n (j := 0) G dX10_common_6 rfl rfl ?_
    refine zv_goto (tgt := 17) G dX10_common_7 (by decide) ?_
    exact zv_lret G hr dX10_common_17 ⟨(hn.resolve_right (fun h => h (z_leq c_3))), rfl⟩
set_option maxHeartbeats 4000000 in
set_option maxRecDepth 100000 in
theorem zc_X10_common_at14 (l : Launch) (E : za_E) (a : Int64) (b : Int64) (σ : za_S) (ha : 0 ≤ a.toInt) (hb : 0 ≤ b.toInt ∧ b.toInt ≤ 14) (hn : ¬ a = 0 ∨ ¬ b = 0) : zMl l E yX10_common cX10_common 4 (Option.some Jvm.ClassFile.FieldType.long) 15 343 [za_L a, za_L b] σ (fun r σ' => (¬ r = 0) ∧ σ' = σ) := by
  refine zMl_of [(0, za_L a), (2, za_L b)] (by decide) rfl rfl (Nat.le_of_ble_eq_true rfl) ?_
  intro ho p e s m args below meth c G hr
  refine zv_lload_n (j := 1) G dX10_common_0 rfl rfl ?_
  refine zv_lconst (v := 0) G dX10_common_1 (by decide) ?_
  refine zv_lcmp G dX10_common_2 ?_
  refine zv_if_ne (tgt := 10) G dX10_common_3 (by decide) (fun c_3 => ?_) (fun c_3 => ?_)
  · have nb := z_lne c_3
    refine zv_lload_n (j := 1) G dX10_common_10 rfl rfl ?_
    refine zv_lload_n (j := 0) G dX10_common_11 rfl rfl ?_
    refine zv_lload_n (j := 1) G dX10_common_12 rfl rfl ?_
    refine zv_lrem G dX10_common_13 nb ?_
    refine zv_callSl (as := [za_L b, za_L (a - a / b * b)]) G (zc_X10_common_at13 l E b (a - a / b * b) σ hb.1 (z_common (B := 13) ha hb nb) (Or.inl nb)) zk_X10_common zm_1600 rfl ⟨(Nat.le_of_ble_eq_true rfl), (Nat.le_of_ble_eq_true rfl)⟩ ⟨Nat.zero_le _, Nat.zero_le _⟩ (Nat.le_of_ble_eq_true rfl) dX10_common_14 (fun r_14 σ h_14 => ?_)
    obtain ⟨h_14, rfl⟩ := h_14
    exact zv_lret G hr dX10_common_17 ⟨h_14, rfl⟩
  · refine zv_lload_n (j := 0) G dX10_common_6 rfl rfl ?_
    refine zv_goto (tgt := 17) G dX10_common_7 (by decide) ?_
    exact zv_lret G hr dX10_common_17 ⟨(hn.resolve_right (fun h => h (z_leq c_3))), rfl⟩
set_option maxHeartbeats 4000000 in
set_option maxRecDepth 100000 in
theorem zc_X10_common_at15 (l : Launch) (E : za_E) (a : Int64) (b : Int64) (σ : za_S) (ha : 0 ≤ a.toInt) (hb : 0 ≤ b.toInt ∧ b.toInt ≤ 15) (hn : ¬ a = 0 ∨ ¬ b = 0) : zMl l E yX10_common cX10_common 4 (Option.some Jvm.ClassFile.FieldType.long) 16 366 [za_L a, za_L b] σ (fun r σ' => (¬ r = 0) ∧ σ' = σ) := by
  refine zMl_of [(0, za_L a), (2, za_L b)] (by decide) rfl rfl (Nat.le_of_ble_eq_true rfl) ?_
  intro ho p e s m args below meth c G hr
  refine zv_lload_n (j := 1) G dX10_common_0 rfl rfl ?_
  refine zv_lconst (v := 0) G dX10_common_1 (by decide) ?_
  refine zv_lcmp G dX10_common_2 ?_
  refine zv_if_ne (tgt := 10) G dX10_common_3 (by decide) (fun c_3 => ?_) (fun c_3 => ?_)
  · have nb := z_lne c_3
    refine zv_lload_n (j := 1) G dX10_common_10 rfl rfl ?_
    refine zv_lload_n (j := 0) G dX10_common_11 rfl rfl ?_
    refine zv_lload_n (j := 1) G dX10_common_12 rfl rfl ?_
    refine zv_lrem G dX10_common_13 nb ?_
    refine zv_callSl (as := [za_L b, za_L (a - a / b * b)]) G (zc_X10_common_at14 l E b (a - a / b * b) σ hb.1 (z_common (B := 14) ha hb nb) (Or.inl nb)) zk_X10_common zm_1600 rfl ⟨(Nat.le_of_ble_eq_true rfl), (Nat.le_of_ble_eq_true rfl)⟩ ⟨Nat.zero_le _, Nat.zero_le _⟩ (Nat.le_of_ble_eq_true rfl) dX10_common_14 (fun r_14 σ h_14 => ?_)
    obtain ⟨h_14, rfl⟩ := h_14
    exact zv_lret G hr dX10_common_17 ⟨h_14, rfl⟩
  · refine zv_lload_n (j := 0) G dX10_common_6 rfl rfl ?_
    refine zv_goto (tgt := 17) G dX10_common_7 (by decide) ?_
    exact zv_lret G hr dX10_common_17 ⟨(hn.resolve_right (fun h => h (z_leq c_3))), rfl⟩
set_option maxHeartbeats 4000000 in
set_option maxRecDepth 100000 in
theorem zc_X10_common_at16 (l : Launch) (E : za_E) (a : Int64) (b : Int64) (σ : za_S) (ha : 0 ≤ a.toInt) (hb : 0 ≤ b.toInt ∧ b.toInt ≤ 16) (hn : ¬ a = 0 ∨ ¬ b = 0) : zMl l E yX10_common cX10_common 4 (Option.some Jvm.ClassFile.FieldType.long) 17 389 [za_L a, za_L b] σ (fun r σ' => (¬ r = 0) ∧ σ' = σ) := by
  refine zMl_of [(0, za_L a), (2, za_L b)] (by decide) rfl rfl (Nat.le_of_ble_eq_true rfl) ?_
  intro ho p e s m args below meth c G hr
  refine zv_lload_n (j := 1) G dX10_common_0 rfl rfl ?_
  refine zv_lconst (v := 0) G dX10_common_1 (by decide) ?_
  refine zv_lcmp G dX10_common_2 ?_
  refine zv_if_ne (tgt := 10) G dX10_common_3 (by decide) (fun c_3 => ?_) (fun c_3 => ?_)
  · have nb := z_lne c_3
    refine zv_lload_n (j := 1) G dX10_common_10 rfl rfl ?_
    refine zv_lload_n (j := 0) G dX10_common_11 rfl rfl ?_
    refine zv_lload_n (j := 1) G dX10_common_12 rfl rfl ?_
    refine zv_lrem G dX10_common_13 nb ?_
    refine zv_callSl (as := [za_L b, za_L (a - a / b * b)]) G (zc_X10_common_at15 l E b (a - a / b * b) σ hb.1 (z_common (B := 15) ha hb nb) (Or.inl nb)) zk_X10_common zm_1600 rfl ⟨(Nat.le_of_ble_eq_true rfl), (Nat.le_of_ble_eq_true rfl)⟩ ⟨Nat.zero_le _, Nat.zero_le _⟩ (Nat.le_of_ble_eq_true rfl) dX10_common_14 (fun r_14 σ h_14 => ?_)
    obtain ⟨h_14, rfl⟩ := h_14
    exact zv_lret G hr dX10_common_17 ⟨h_14, rfl⟩
  · refine zv_lload_n (j := 0) G dX10_common_6 rfl rfl ?_
    refine zv_goto (tgt := 17) G dX10_common_7 (by decide) ?_
    exact zv_lret G hr dX10_common_17 ⟨(hn.resolve_right (fun h => h (z_leq c_3))), rfl⟩
set_option maxHeartbeats 4000000 in
set_option maxRecDepth 100000 in
theorem zc_X10_common_at17 (l : Launch) (E : za_E) (a : Int64) (b : Int64) (σ : za_S) (ha : 0 ≤ a.toInt) (hb : 0 ≤ b.toInt ∧ b.toInt ≤ 17) (hn : ¬ a = 0 ∨ ¬ b = 0) : zMl l E yX10_common cX10_common 4 (Option.some Jvm.ClassFile.FieldType.long) 18 412 [za_L a, za_L b] σ (fun r σ' => (¬ r = 0) ∧ σ' = σ) := by
  refine zMl_of [(0, za_L a), (2, za_L b)] (by decide) rfl rfl (Nat.le_of_ble_eq_true rfl) ?_
  intro ho p e s m args below meth c G hr
  refine zv_lload_n (j := 1) G dX10_common_0 rfl rfl ?_
  refine zv_lconst (v := 0) G dX10_common_1 (by decide) ?_
  refine zv_lcmp G dX10_common_2 ?_
  refine zv_if_ne (tgt := 10) G dX10_common_3 (by decide) (fun c_3 => ?_) (fun c_3 => ?_)
  · have nb := z_lne c_3
    refine zv_lload_n (j := 1) G dX10_common_10 rfl rfl ?_
    refine zv_lload_n (j := 0) G dX10_common_11 rfl rfl ?_
    refine zv_lload_n (j := 1) G dX10_common_12 rfl rfl ?_
    refine zv_lrem G dX10_common_13 nb ?_
    refine zv_callSl (as := [za_L b, za_L (a - a / b * b)]) G (zc_X10_common_at16 l E b (a - a / b * b) σ hb.1 (z_common (B := 16) ha hb nb) (Or.inl nb)) zk_X10_common zm_1600 rfl ⟨(Nat.le_of_ble_eq_true rfl), (Nat.le_of_ble_eq_true rfl)⟩ ⟨Nat.zero_le _, Nat.zero_le _⟩ (Nat.le_of_ble_eq_true rfl) dX10_common_14 (fun r_14 σ h_14 => ?_)
    obtain ⟨h_14, rfl⟩ := h_14
    exact zv_lret G hr dX10_common_17 ⟨h_14, rfl⟩
  · refine zv_lload_n (j := 0) G dX10_common_6 rfl rfl ?_
    refine zv_goto (tgt := 17) G dX10_common_7 (by decide) ?_
    exact zv_lret G hr dX10_common_17 ⟨(hn.resolve_right (fun h => h (z_leq c_3))), rfl⟩
set_option maxHeartbeats 4000000 in
set_option maxRecDepth 100000 in
theorem zc_X10_common_at18 (l : Launch) (E : za_E) (a : Int64) (b : Int64) (σ : za_S) (ha : 0 ≤ a.toInt) (hb : 0 ≤ b.toInt ∧ b.toInt ≤ 18) (hn : ¬ a = 0 ∨ ¬ b = 0) : zMl l E yX10_common cX10_common 4 (Option.some Jvm.ClassFile.FieldType.long) 19 435 [za_L a, za_L b] σ (fun r σ' => (¬ r = 0) ∧ σ' = σ) := by
  refine zMl_of [(0, za_L a), (2, za_L b)] (by decide) rfl rfl (Nat.le_of_ble_eq_true rfl) ?_
  intro ho p e s m args below meth c G hr
  refine zv_lload_n (j := 1) G dX10_common_0 rfl rfl ?_
  refine zv_lconst (v := 0) G dX10_common_1 (by decide) ?_
  refine zv_lcmp G dX10_common_2 ?_
  refine zv_if_ne (tgt := 10) G dX10_common_3 (by decide) (fun c_3 => ?_) (fun c_3 => ?_)
  · have nb := z_lne c_3
    refine zv_lload_n (j := 1) G dX10_common_10 rfl rfl ?_
    refine zv_lload_n (j := 0) G dX10_common_11 rfl rfl ?_
    refine zv_lload_n (j := 1) G dX10_common_12 rfl rfl ?_
    refine zv_lrem G dX10_common_13 nb ?_
    refine zv_callSl (as := [za_L b, za_L (a - a / b * b)]) G (zc_X10_common_at17 l E b (a - a / b * b) σ hb.1 (z_common (B := 17) ha hb nb) (Or.inl nb)) zk_X10_common zm_1600 rfl ⟨(Nat.le_of_ble_eq_true rfl), (Nat.le_of_ble_eq_true rfl)⟩ ⟨Nat.zero_le _, Nat.zero_le _⟩ (Nat.le_of_ble_eq_true rfl) dX10_common_14 (fun r_14 σ h_14 => ?_)
    obtain ⟨h_14, rfl⟩ := h_14
    exact zv_lret G hr dX10_common_17 ⟨h_14, rfl⟩
  · refine zv_lload_n (j := 0) G dX10_common_6 rfl rfl ?_
    refine zv_goto (tgt := 17) G dX10_common_7 (by decide) ?_
    exact zv_lret G hr dX10_common_17 ⟨(hn.resolve_right (fun h => h (z_leq c_3))), rfl⟩
set_option maxHeartbeats 4000000 in
set_option maxRecDepth 100000 in
theorem zc_X10_common_at19 (l : Launch) (E : za_E) (a : Int64) (b : Int64) (σ : za_S) (ha : 0 ≤ a.toInt) (hb : 0 ≤ b.toInt ∧ b.toInt ≤ 19) (hn : ¬ a = 0 ∨ ¬ b = 0) : zMl l E yX10_common cX10_common 4 (Option.some Jvm.ClassFile.FieldType.long) 20 458 [za_L a, za_L b] σ (fun r σ' => (¬ r = 0) ∧ σ' = σ) := by
  refine zMl_of [(0, za_L a), (2, za_L b)] (by decide) rfl rfl (Nat.le_of_ble_eq_true rfl) ?_
  intro ho p e s m args below meth c G hr
  refine zv_lload_n (j := 1) G dX10_common_0 rfl rfl ?_
  refine zv_lconst (v := 0) G dX10_common_1 (by decide) ?_
  refine zv_lcmp G dX10_common_2 ?_
  refine zv_if_ne (tgt := 10) G dX10_common_3 (by decide) (fun c_3 => ?_) (fun c_3 => ?_)
  · have nb := z_lne c_3
    refine zv_lload_n (j := 1) G dX10_common_10 rfl rfl ?_
    refine zv_lload_n (j := 0) G dX10_common_11 rfl rfl ?_
    refine zv_lload_n (j := 1) G dX10_common_12 rfl rfl ?_
    refine zv_lrem G dX10_common_13 nb ?_
    refine zv_callSl (as := [za_L b, za_L (a - a / b * b)]) G (zc_X10_common_at18 l E b (a - a / b * b) σ hb.1 (z_common (B := 18) ha hb nb) (Or.inl nb)) zk_X10_common zm_1600 rfl ⟨(Nat.le_of_ble_eq_true rfl), (Nat.le_of_ble_eq_true rfl)⟩ ⟨Nat.zero_le _, Nat.zero_le _⟩ (Nat.le_of_ble_eq_true rfl) dX10_common_14 (fun r_14 σ h_14 => ?_)
    obtain ⟨h_14, rfl⟩ := h_14
    exact zv_lret G hr dX10_common_17 ⟨h_14, rfl⟩
  · refine zv_lload_n (j := 0) G dX10_common_6 rfl rfl ?_
    refine zv_goto (tgt := 17) G dX10_common_7 (by decide) ?_
    exact zv_lret G hr dX10_common_17 ⟨(hn.resolve_right (fun h => h (z_leq c_3))), rfl⟩
set_option maxHeartbeats 4000000 in
set_option maxRecDepth 100000 in
theorem zc_X10_common_at20 (l : Launch) (E : za_E) (a : Int64) (b : Int64) (σ : za_S) (ha : 0 ≤ a.toInt) (hb : 0 ≤ b.toInt ∧ b.toInt ≤ 20) (hn : ¬ a = 0 ∨ ¬ b = 0) : zMl l E yX10_common cX10_common 4 (Option.some Jvm.ClassFile.FieldType.long) 21 481 [za_L a, za_L b] σ (fun r σ' => (¬ r = 0) ∧ σ' = σ) := by
  refine zMl_of [(0, za_L a), (2, za_L b)] (by decide) rfl rfl (Nat.le_of_ble_eq_true rfl) ?_
  intro ho p e s m args below meth c G hr
  refine zv_lload_n (j := 1) G dX10_common_0 rfl rfl ?_
  refine zv_lconst (v := 0) G dX10_common_1 (by decide) ?_
  refine zv_lcmp G dX10_common_2 ?_
  refine zv_if_ne (tgt := 10) G dX10_common_3 (by decide) (fun c_3 => ?_) (fun c_3 => ?_)
  · have nb := z_lne c_3
    refine zv_lload_n (j := 1) G dX10_common_10 rfl rfl ?_
    refine zv_lload_n (j := 0) G dX10_common_11 rfl rfl ?_
    refine zv_lload_n (j := 1) G dX10_common_12 rfl rfl ?_
    refine zv_lrem G dX10_common_13 nb ?_
    refine zv_callSl (as := [za_L b, za_L (a - a / b * b)]) G (zc_X10_common_at19 l E b (a - a / b * b) σ hb.1 (z_common (B := 19) ha hb nb) (Or.inl nb)) zk_X10_common zm_1600 rfl ⟨(Nat.le_of_ble_eq_true rfl), (Nat.le_of_ble_eq_true rfl)⟩ ⟨Nat.zero_le _, Nat.zero_le _⟩ (Nat.le_of_ble_eq_true rfl) dX10_common_14 (fun r_14 σ h_14 => ?_)
    obtain ⟨h_14, rfl⟩ := h_14
    exact zv_lret G hr dX10_common_17 ⟨h_14, rfl⟩
  · refine zv_lload_n (j := 0) G dX10_common_6 rfl rfl ?_
    refine zv_goto (tgt := 17) G dX10_common_7 (by decide) ?_
    exact zv_lret G hr dX10_common_17 ⟨(hn.resolve_right (fun h => h (z_leq c_3))), rfl⟩
set_option maxHeartbeats 4000000 in
set_option maxRecDepth 100000 in
theorem zc_X10_common_at21 (l : Launch) (E : za_E) (a : Int64) (b : Int64) (σ : za_S) (ha : 0 ≤ a.toInt) (hb : 0 ≤ b.toInt ∧ b.toInt ≤ 21) (hn : ¬ a = 0 ∨ ¬ b = 0) : zMl l E yX10_common cX10_common 4 (Option.some Jvm.ClassFile.FieldType.long) 22 504 [za_L a, za_L b] σ (fun r σ' => (¬ r = 0) ∧ σ' = σ) := by
  refine zMl_of [(0, za_L a), (2, za_L b)] (by decide) rfl rfl (Nat.le_of_ble_eq_true rfl) ?_
  intro ho p e s m args below meth c G hr
  refine zv_lload_n (j := 1) G dX10_common_0 rfl rfl ?_
  refine zv_lconst (v := 0) G dX10_common_1 (by decide) ?_
  refine zv_lcmp G dX10_common_2 ?_
  refine zv_if_ne (tgt := 10) G dX10_common_3 (by decide) (fun c_3 => ?_) (fun c_3 => ?_)
  · have nb := z_lne c_3
    refine zv_lload_n (j := 1) G dX10_common_10 rfl rfl ?_
    refine zv_lload_n (j := 0) G dX10_common_11 rfl rfl ?_
    refine zv_lload_n (j := 1) G dX10_common_12 rfl rfl ?_
    refine zv_lrem G dX10_common_13 nb ?_
    refine zv_callSl (as := [za_L b, za_L (a - a / b * b)]) G (zc_X10_common_at20 l E b (a - a / b * b) σ hb.1 (z_common (B := 20) ha hb nb) (Or.inl nb)) zk_X10_common zm_1600 rfl ⟨(Nat.le_of_ble_eq_true rfl), (Nat.le_of_ble_eq_true rfl)⟩ ⟨Nat.zero_le _, Nat.zero_le _⟩ (Nat.le_of_ble_eq_true rfl) dX10_common_14 (fun r_14 σ h_14 => ?_)
    obtain ⟨h_14, rfl⟩ := h_14
    exact zv_lret G hr dX10_common_17 ⟨h_14, rfl⟩
  · refine zv_lload_n (j := 0) G dX10_common_6 rfl rfl ?_
    refine zv_goto (tgt := 17) G dX10_common_7 (by decide) ?_
    exact zv_lret G hr dX10_common_17 ⟨(hn.resolve_right (fun h => h (z_leq c_3))), rfl⟩
set_option maxHeartbeats 4000000 in
set_option maxRecDepth 100000 in
theorem zc_X10_common_at22 (l : Launch) (E : za_E) (a : Int64) (b : Int64) (σ : za_S) (ha : 0 ≤ a.toInt) (hb : 0 ≤ b.toInt ∧ b.toInt ≤ 22) (hn : ¬ a = 0 ∨ ¬ b = 0) : zMl l E yX10_common cX10_common 4 (Option.some Jvm.ClassFile.FieldType.long) 23 527 [za_L a, za_L b] σ (fun r σ' => (¬ r = 0) ∧ σ' = σ) := by
  refine zMl_of [(0, za_L a), (2, za_L b)] (by decide) rfl rfl (Nat.le_of_ble_eq_true rfl) ?_
  intro ho p e s m args below meth c G hr
  refine zv_lload_n (j := 1) G dX10_common_0 rfl rfl ?_
  refine zv_lconst (v := 0) G dX10_common_1 (by decide) ?_
  refine zv_lcmp G dX10_common_2 ?_
  refine zv_if_ne (tgt := 10) G dX10_common_3 (by decide) (fun c_3 => ?_) (fun c_3 => ?_)
  · have nb := z_lne c_3
    refine zv_lload_n (j := 1) G dX10_common_10 rfl rfl ?_
    refine zv_lload_n (j := 0) G dX10_common_11 rfl rfl ?_
    refine zv_lload_n (j := 1) G dX10_common_12 rfl rfl ?_
    refine zv_lrem G dX10_common_13 nb ?_
    refine zv_callSl (as := [za_L b, za_L (a - a / b * b)]) G (zc_X10_common_at21 l E b (a - a / b * b) σ hb.1 (z_common (B := 21) ha hb nb) (Or.inl nb)) zk_X10_common zm_1600 rfl ⟨(Nat.le_of_ble_eq_true rfl), (Nat.le_of_ble_eq_true rfl)⟩ ⟨Nat.zero_le _, Nat.zero_le _⟩ (Nat.le_of_ble_eq_true rfl) dX10_common_14 (fun r_14 σ h_14 => ?_)
    obtain ⟨h_14, rfl⟩ := h_14
    exact zv_lret G hr dX10_common_17 ⟨h_14, rfl⟩
  · refine zv_lload_n (j := 0) G dX10_common_6 rfl rfl ?_
    refine zv_goto (tgt := 17) G dX10_common_7 (by decide) ?_
    exact zv_lret G hr dX10_common_17 ⟨(hn.resolve_right (fun h => h (z_leq c_3))), rfl⟩
set_option maxHeartbeats 4000000 in
set_option maxRecDepth 100000 in
theorem zc_X10_common_at23 (l : Launch) (E : za_E) (a : Int64) (b : Int64) (σ : za_S) (ha : 0 ≤ a.toInt) (hb : 0 ≤ b.toInt ∧ b.toInt ≤ 23) (hn : ¬ a = 0 ∨ ¬ b = 0) : zMl l E yX10_common cX10_common 4 (Option.some Jvm.ClassFile.FieldType.long) 24 550 [za_L a, za_L b] σ (fun r σ' => (¬ r = 0) ∧ σ' = σ) := by
  refine zMl_of [(0, za_L a), (2, za_L b)] (by decide) rfl rfl (Nat.le_of_ble_eq_true rfl) ?_
  intro ho p e s m args below meth c G hr
  refine zv_lload_n (j := 1) G dX10_common_0 rfl rfl ?_
  refine zv_lconst (v := 0) G dX10_common_1 (by decide) ?_
  refine zv_lcmp G dX10_common_2 ?_
  refine zv_if_ne (tgt := 10) G dX10_common_3 (by decide) (fun c_3 => ?_) (fun c_3 => ?_)
  · have nb := z_lne c_3
    refine zv_lload_n (j := 1) G dX10_common_10 rfl rfl ?_
    refine zv_lload_n (j := 0) G dX10_common_11 rfl rfl ?_
    refine zv_lload_n (j := 1) G dX10_common_12 rfl rfl ?_
    refine zv_lrem G dX10_common_13 nb ?_
    refine zv_callSl (as := [za_L b, za_L (a - a / b * b)]) G (zc_X10_common_at22 l E b (a - a / b * b) σ hb.1 (z_common (B := 22) ha hb nb) (Or.inl nb)) zk_X10_common zm_1600 rfl ⟨(Nat.le_of_ble_eq_true rfl), (Nat.le_of_ble_eq_true rfl)⟩ ⟨Nat.zero_le _, Nat.zero_le _⟩ (Nat.le_of_ble_eq_true rfl) dX10_common_14 (fun r_14 σ h_14 => ?_)
    obtain ⟨h_14, rfl⟩ := h_14
    exact zv_lret G hr dX10_common_17 ⟨h_14, rfl⟩
  · refine zv_lload_n (j := 0) G dX10_common_6 rfl rfl ?_
    refine zv_goto (tgt := 17) G dX10_common_7 (by decide) ?_
    exact zv_lret G hr dX10_common_17 ⟨(hn.resolve_right (fun h => h (z_leq c_3))), rfl⟩
set_option maxHeartbeats 4000000 in
set_option maxRecDepth 100000 in
theorem zc_X10_common_at24 (l : Launch) (E : za_E) (a : Int64) (b : Int64) (σ : za_S) (ha : 0 ≤ a.toInt) (hb : 0 ≤ b.toInt ∧ b.toInt ≤ 24) (hn : ¬ a = 0 ∨ ¬ b = 0) : zMl l E yX10_common cX10_common 4 (Option.some Jvm.ClassFile.FieldType.long) 25 573 [za_L a, za_L b] σ (fun r σ' => (¬ r = 0) ∧ σ' = σ) := by
  refine zMl_of [(0, za_L a), (2, za_L b)] (by decide) rfl rfl (Nat.le_of_ble_eq_true rfl) ?_
  intro ho p e s m args below meth c G hr
  refine zv_lload_n (j := 1) G dX10_common_0 rfl rfl ?_
  refine zv_lconst (v := 0) G dX10_common_1 (by decide) ?_
  refine zv_lcmp G dX10_common_2 ?_
  refine zv_if_ne (tgt := 10) G dX10_common_3 (by decide) (fun c_3 => ?_) (fun c_3 => ?_)
  · have nb := z_lne c_3
    refine zv_lload_n (j := 1) G dX10_common_10 rfl rfl ?_
    refine zv_lload_n (j := 0) G dX10_common_11 rfl rfl ?_
    refine zv_lload_n (j := 1) G dX10_common_12 rfl rfl ?_
    refine zv_lrem G dX10_common_13 nb ?_
    refine zv_callSl (as := [za_L b, za_L (a - a / b * b)]) G (zc_X10_common_at23 l E b (a - a / b * b) σ hb.1 (z_common (B := 23) ha hb nb) (Or.inl nb)) zk_X10_common zm_1600 rfl ⟨(Nat.le_of_ble_eq_true rfl), (Nat.le_of_ble_eq_true rfl)⟩ ⟨Nat.zero_le _, Nat.zero_le _⟩ (Nat.le_of_ble_eq_true rfl) dX10_common_14 (fun r_14 σ h_14 => ?_)
    obtain ⟨h_14, rfl⟩ := h_14
    exact zv_lret G hr dX10_common_17 ⟨h_14, rfl⟩
  · refine zv_lload_n (j := 0) G dX10_common_6 rfl rfl ?_
    refine zv_goto (tgt := 17) G dX10_common_7 (by decide) ?_
    exact zv_lret G hr dX10_common_17 ⟨(hn.resolve_right (fun h => h (z_leq c_3))), rfl⟩
set_option maxHeartbeats 4000000 in
set_option maxRecDepth 100000 in
theorem zc_X10_common_at25 (l : Launch) (E : za_E) (a : Int64) (b : Int64) (σ : za_S) (ha : 0 ≤ a.toInt) (hb : 0 ≤ b.toInt ∧ b.toInt ≤ 25) (hn : ¬ a = 0 ∨ ¬ b = 0) : zMl l E yX10_common cX10_common 4 (Option.some Jvm.ClassFile.FieldType.long) 26 596 [za_L a, za_L b] σ (fun r σ' => (¬ r = 0) ∧ σ' = σ) := by
  refine zMl_of [(0, za_L a), (2, za_L b)] (by decide) rfl rfl (Nat.le_of_ble_eq_true rfl) ?_
  intro ho p e s m args below meth c G hr
  refine zv_lload_n (j := 1) G dX10_common_0 rfl rfl ?_
  refine zv_lconst (v := 0) G dX10_common_1 (by decide) ?_
  refine zv_lcmp G dX10_common_2 ?_
  refine zv_if_ne (tgt := 10) G dX10_common_3 (by decide) (fun c_3 => ?_) (fun c_3 => ?_)
  · have nb := z_lne c_3
    refine zv_lload_n (j := 1) G dX10_common_10 rfl rfl ?_
    refine zv_lload_n (j := 0) G dX10_common_11 rfl rfl ?_
    refine zv_lload_n (j := 1) G dX10_common_12 rfl rfl ?_
    refine zv_lrem G dX10_common_13 nb ?_
    refine zv_callSl (as := [za_L b, za_L (a - a / b * b)]) G (zc_X10_common_at24 l E b (a - a / b * b) σ hb.1 (z_common (B := 24) ha hb nb) (Or.inl nb)) zk_X10_common zm_1600 rfl ⟨(Nat.le_of_ble_eq_true rfl), (Nat.le_of_ble_eq_true rfl)⟩ ⟨Nat.zero_le _, Nat.zero_le _⟩ (Nat.le_of_ble_eq_true rfl) dX10_common_14 (fun r_14 σ h_14 => ?_)
    obtain ⟨h_14, rfl⟩ := h_14
    exact zv_lret G hr dX10_common_17 ⟨h_14, rfl⟩
  · refine zv_lload_n (j := 0) G dX10_common_6 rfl rfl ?_
    refine zv_goto (tgt := 17) G dX10_common_7 (by decide) ?_
    exact zv_lret G hr dX10_common_17 ⟨(hn.resolve_right (fun h => h (z_leq c_3))), rfl⟩
set_option maxHeartbeats 4000000 in
set_option maxRecDepth 100000 in
theorem zc_X10_common_at26 (l : Launch) (E : za_E) (a : Int64) (b : Int64) (σ : za_S) (ha : 0 ≤ a.toInt) (hb : 0 ≤ b.toInt ∧ b.toInt ≤ 26) (hn : ¬ a = 0 ∨ ¬ b = 0) : zMl l E yX10_common cX10_common 4 (Option.some Jvm.ClassFile.FieldType.long) 27 619 [za_L a, za_L b] σ (fun r σ' => (¬ r = 0) ∧ σ' = σ) := by
  refine zMl_of [(0, za_L a), (2, za_L b)] (by decide) rfl rfl (Nat.le_of_ble_eq_true rfl) ?_
  intro ho p e s m args below meth c G hr
  refine zv_lload_n (j := 1) G dX10_common_0 rfl rfl ?_
  refine zv_lconst (v := 0) G dX10_common_1 (by decide) ?_
  refine zv_lcmp G dX10_common_2 ?_
  refine zv_if_ne (tgt := 10) G dX10_common_3 (by decide) (fun c_3 => ?_) (fun c_3 => ?_)
  · have nb := z_lne c_3
    refine zv_lload_n (j := 1) G dX10_common_10 rfl rfl ?_
    refine zv_lload_n (j := 0) G dX10_common_11 rfl rfl ?_
    refine zv_lload_n (j := 1) G dX10_common_12 rfl rfl ?_
    refine zv_lrem G dX10_common_13 nb ?_
    refine zv_callSl (as := [za_L b, za_L (a - a / b * b)]) G (zc_X10_common_at25 l E b (a - a / b * b) σ hb.1 (z_common (B := 25) ha hb nb) (Or.inl nb)) zk_X10_common zm_1600 rfl ⟨(Nat.le_of_ble_eq_true rfl), (Nat.le_of_ble_eq_true rfl)⟩ ⟨Nat.zero_le _, Nat.zero_le _⟩ (Nat.le_of_ble_eq_true rfl) dX10_common_14 (fun r_14 σ h_14 => ?_)
    obtain ⟨h_14, rfl⟩ := h_14
    exact zv_lret G hr dX10_common_17 ⟨h_14, rfl⟩
  · refine zv_lload_n (j := 0) G dX10_common_6 rfl rfl ?_
    refine zv_goto (tgt := 17) G dX10_common_7 (by decide) ?_
    exact zv_lret G hr dX10_common_17 ⟨(hn.resolve_right (fun h => h (z_leq c_3))), rfl⟩
set_option maxHeartbeats 4000000 in
set_option maxRecDepth 100000 in
theorem zc_X10_common_at27 (l : Launch) (E : za_E) (a : Int64) (b : Int64) (σ : za_S) (ha : 0 ≤ a.toInt) (hb : 0 ≤ b.toInt ∧ b.toInt ≤ 27) (hn : ¬ a = 0 ∨ ¬ b = 0) : zMl l E yX10_common cX10_common 4 (Option.some Jvm.ClassFile.FieldType.long) 28 642 [za_L a, za_L b] σ (fun r σ' => (¬ r = 0) ∧ σ' = σ) := by
  refine zMl_of [(0, za_L a), (2, za_L b)] (by decide) rfl rfl (Nat.le_of_ble_eq_true rfl) ?_
  intro ho p e s m args below meth c G hr
  refine zv_lload_n (j := 1) G dX10_common_0 rfl rfl ?_
  refine zv_lconst (v := 0) G dX10_common_1 (by decide) ?_
  refine zv_lcmp G dX10_common_2 ?_
  refine zv_if_ne (tgt := 10) G dX10_common_3 (by decide) (fun c_3 => ?_) (fun c_3 => ?_)
  · have nb := z_lne c_3
    refine zv_lload_n (j := 1) G dX10_common_10 rfl rfl ?_
    refine zv_lload_n (j := 0) G dX10_common_11 rfl rfl ?_
    refine zv_lload_n (j := 1) G dX10_common_12 rfl rfl ?_
    refine zv_lrem G dX10_common_13 nb ?_
    refine zv_callSl (as := [za_L b, za_L (a - a / b * b)]) G (zc_X10_common_at26 l E b (a - a / b * b) σ hb.1 (z_common (B := 26) ha hb nb) (Or.inl nb)) zk_X10_common zm_1600 rfl ⟨(Nat.le_of_ble_eq_true rfl), (Nat.le_of_ble_eq_true rfl)⟩ ⟨Nat.zero_le _, Nat.zero_le _⟩ (Nat.le_of_ble_eq_true rfl) dX10_common_14 (fun r_14 σ h_14 => ?_)
    obtain ⟨h_14, rfl⟩ := h_14
    exact zv_lret G hr dX10_common_17 ⟨h_14, rfl⟩
  · refine zv_lload_n (j := 0) G dX10_common_6 rfl rfl ?_
    refine zv_goto (tgt := 17) G dX10_common_7 (by decide) ?_
    exact zv_lret G hr dX10_common_17 ⟨(hn.resolve_right (fun h => h (z_leq c_3))), rfl⟩
set_option maxHeartbeats 4000000 in
set_option maxRecDepth 100000 in
theorem zc_X10_common_at28 (l : Launch) (E : za_E) (a : Int64) (b : Int64) (σ : za_S) (ha : 0 ≤ a.toInt) (hb : 0 ≤ b.toInt ∧ b.toInt ≤ 28) (hn : ¬ a = 0 ∨ ¬ b = 0) : zMl l E yX10_common cX10_common 4 (Option.some Jvm.ClassFile.FieldType.long) 29 665 [za_L a, za_L b] σ (fun r σ' => (¬ r = 0) ∧ σ' = σ) := by
  refine zMl_of [(0, za_L a), (2, za_L b)] (by decide) rfl rfl (Nat.le_of_ble_eq_true rfl) ?_
  intro ho p e s m args below meth c G hr
  refine zv_lload_n (j := 1) G dX10_common_0 rfl rfl ?_
  refine zv_lconst (v := 0) G dX10_common_1 (by decide) ?_
  refine zv_lcmp G dX10_common_2 ?_
  refine zv_if_ne (tgt := 10) G dX10_common_3 (by decide) (fun c_3 => ?_) (fun c_3 => ?_)
  · have nb := z_lne c_3
    refine zv_lload_n (j := 1) G dX10_common_10 rfl rfl ?_
    refine zv_lload_n (j := 0) G dX10_common_11 rfl rfl ?_
    refine zv_lload_n (j := 1) G dX10_common_12 rfl rfl ?_
    refine zv_lrem G dX10_common_13 nb ?_
    refine zv_callSl (as := [za_L b, za_L (a - a / b * b)]) G (zc_X10_common_at27 l E b (a - a / b * b) σ hb.1 (z_common (B := 27) ha hb nb) (Or.inl nb)) zk_X10_common zm_1600 rfl ⟨(Nat.le_of_ble_eq_true rfl), (Nat.le_of_ble_eq_true rfl)⟩ ⟨Nat.zero_le _, Nat.zero_le _⟩ (Nat.le_of_ble_eq_true rfl) dX10_common_14 (fun r_14 σ h_14 => ?_)
    obtain ⟨h_14, rfl⟩ := h_14
    exact zv_lret G hr dX10_common_17 ⟨h_14, rfl⟩
  · refine zv_lload_n (j := 0) G dX10_common_6 rfl rfl ?_
    refine zv_goto (tgt := 17) G dX10_common_7 (by decide) ?_
    exact zv_lret G hr dX10_common_17 ⟨(hn.resolve_right (fun h => h (z_leq c_3))), rfl⟩
set_option maxHeartbeats 4000000 in
set_option maxRecDepth 100000 in
theorem zc_X10_common_at29 (l : Launch) (E : za_E) (a : Int64) (b : Int64) (σ : za_S) (ha : 0 ≤ a.toInt) (hb : 0 ≤ b.toInt ∧ b.toInt ≤ 29) (hn : ¬ a = 0 ∨ ¬ b = 0) : zMl l E yX10_common cX10_common 4 (Option.some Jvm.ClassFile.FieldType.long) 30 688 [za_L a, za_L b] σ (fun r σ' => (¬ r = 0) ∧ σ' = σ) := by
  refine zMl_of [(0, za_L a), (2, za_L b)] (by decide) rfl rfl (Nat.le_of_ble_eq_true rfl) ?_
  intro ho p e s m args below meth c G hr
  refine zv_lload_n (j := 1) G dX10_common_0 rfl rfl ?_
  refine zv_lconst (v := 0) G dX10_common_1 (by decide) ?_
  refine zv_lcmp G dX10_common_2 ?_
  refine zv_if_ne (tgt := 10) G dX10_common_3 (by decide) (fun c_3 => ?_) (fun c_3 => ?_)
  · have nb := z_lne c_3
    refine zv_lload_n (j := 1) G dX10_common_10 rfl rfl ?_
    refine zv_lload_n (j := 0) G dX10_common_11 rfl rfl ?_
    refine zv_lload_n (j := 1) G dX10_common_12 rfl rfl ?_
    refine zv_lrem G dX10_common_13 nb ?_
    refine zv_callSl (as := [za_L b, za_L (a - a / b * b)]) G (zc_X10_common_at28 l E b (a - a / b * b) σ hb.1 (z_common (B := 28) ha hb nb) (Or.inl nb)) zk_X10_common zm_1600 rfl ⟨(Nat.le_of_ble_eq_true rfl), (Nat.le_of_ble_eq_true rfl)⟩ ⟨Nat.zero_le _, Nat.zero_le _⟩ (Nat.le_of_ble_eq_true rfl) dX10_common_14 (fun r_14 σ h_14 => ?_)
    obtain ⟨h_14, rfl⟩ := h_14
    exact zv_lret G hr dX10_common_17 ⟨h_14, rfl⟩
  · refine zv_lload_n (j := 0) G dX10_common_6 rfl rfl ?_
    refine zv_goto (tgt := 17) G dX10_common_7 (by decide) ?_
    exact zv_lret G hr dX10_common_17 ⟨(hn.resolve_right (fun h => h (z_leq c_3))), rfl⟩
set_option maxHeartbeats 4000000 in
set_option maxRecDepth 100000 in
theorem zc_X10_common_at30 (l : Launch) (E : za_E) (a : Int64) (b : Int64) (σ : za_S) (ha : 0 ≤ a.toInt) (hb : 0 ≤ b.toInt ∧ b.toInt ≤ 30) (hn : ¬ a = 0 ∨ ¬ b = 0) : zMl l E yX10_common cX10_common 4 (Option.some Jvm.ClassFile.FieldType.long) 31 711 [za_L a, za_L b] σ (fun r σ' => (¬ r = 0) ∧ σ' = σ) := by
  refine zMl_of [(0, za_L a), (2, za_L b)] (by decide) rfl rfl (Nat.le_of_ble_eq_true rfl) ?_
  intro ho p e s m args below meth c G hr
  refine zv_lload_n (j := 1) G dX10_common_0 rfl rfl ?_
  refine zv_lconst (v := 0) G dX10_common_1 (by decide) ?_
  refine zv_lcmp G dX10_common_2 ?_
  refine zv_if_ne (tgt := 10) G dX10_common_3 (by decide) (fun c_3 => ?_) (fun c_3 => ?_)
  · have nb := z_lne c_3
    refine zv_lload_n (j := 1) G dX10_common_10 rfl rfl ?_
    refine zv_lload_n (j := 0) G dX10_common_11 rfl rfl ?_
    refine zv_lload_n (j := 1) G dX10_common_12 rfl rfl ?_
    refine zv_lrem G dX10_common_13 nb ?_
    refine zv_callSl (as := [za_L b, za_L (a - a / b * b)]) G (zc_X10_common_at29 l E b (a - a / b * b) σ hb.1 (z_common (B := 29) ha hb nb) (Or.inl nb)) zk_X10_common zm_1600 rfl ⟨(Nat.le_of_ble_eq_true rfl), (Nat.le_of_ble_eq_true rfl)⟩ ⟨Nat.zero_le _, Nat.zero_le _⟩ (Nat.le_of_ble_eq_true rfl) dX10_common_14 (fun r_14 σ h_14 => ?_)
    obtain ⟨h_14, rfl⟩ := h_14
    exact zv_lret G hr dX10_common_17 ⟨h_14, rfl⟩
  · refine zv_lload_n (j := 0) G dX10_common_6 rfl rfl ?_
    refine zv_goto (tgt := 17) G dX10_common_7 (by decide) ?_
    exact zv_lret G hr dX10_common_17 ⟨(hn.resolve_right (fun h => h (z_leq c_3))), rfl⟩
set_option maxHeartbeats 4000000 in
set_option maxRecDepth 100000 in
theorem zc_X10_common_at31 (l : Launch) (E : za_E) (a : Int64) (b : Int64) (σ : za_S) (ha : 0 ≤ a.toInt) (hb : 0 ≤ b.toInt ∧ b.toInt ≤ 31) (hn : ¬ a = 0 ∨ ¬ b = 0) : zMl l E yX10_common cX10_common 4 (Option.some Jvm.ClassFile.FieldType.long) 32 734 [za_L a, za_L b] σ (fun r σ' => (¬ r = 0) ∧ σ' = σ) := by
  refine zMl_of [(0, za_L a), (2, za_L b)] (by decide) rfl rfl (Nat.le_of_ble_eq_true rfl) ?_
  intro ho p e s m args below meth c G hr
  refine zv_lload_n (j := 1) G dX10_common_0 rfl rfl ?_
  refine zv_lconst (v := 0) G dX10_common_1 (by decide) ?_
  refine zv_lcmp G dX10_common_2 ?_
  refine zv_if_ne (tgt := 10) G dX10_common_3 (by decide) (fun c_3 => ?_) (fun c_3 => ?_)
  · have nb := z_lne c_3
    refine zv_lload_n (j := 1) G dX10_common_10 rfl rfl ?_
    refine zv_lload_n (j := 0) G dX10_common_11 rfl rfl ?_
    refine zv_lload_n (j := 1) G dX10_common_12 rfl rfl ?_
    refine zv_lrem G dX10_common_13 nb ?_
    refine zv_callSl (as := [za_L b, za_L (a - a / b * b)]) G (zc_X10_common_at30 l E b (a - a / b * b) σ hb.1 (z_common (B := 30) ha hb nb) (Or.inl nb)) zk_X10_common zm_1600 rfl ⟨(Nat.le_of_ble_eq_true rfl), (Nat.le_of_ble_eq_true rfl)⟩ ⟨Nat.zero_le _, Nat.zero_le _⟩ (Nat.le_of_ble_eq_true rfl) dX10_common_14 (fun r_14 σ h_14 => ?_)
    obtain ⟨h_14, rfl⟩ := h_14
    exact zv_lret G hr dX10_common_17 ⟨h_14, rfl⟩
  · refine zv_lload_n (j := 0) G dX10_common_6 rfl rfl ?_
    refine zv_goto (tgt := 17) G dX10_common_7 (by decide) ?_
    exact zv_lret G hr dX10_common_17 ⟨(hn.resolve_right (fun h => h (z_leq c_3))), rfl⟩
set_option maxHeartbeats 4000000 in
set_option maxRecDepth 100000 in
theorem zc_X10_common_at32 (l : Launch) (E : za_E) (a : Int64) (b : Int64) (σ : za_S) (ha : 0 ≤ a.toInt) (hb : 0 ≤ b.toInt ∧ b.toInt ≤ 32) (hn : ¬ a = 0 ∨ ¬ b = 0) : zMl l E yX10_common cX10_common 4 (Option.some Jvm.ClassFile.FieldType.long) 33 757 [za_L a, za_L b] σ (fun r σ' => (¬ r = 0) ∧ σ' = σ) := by
  refine zMl_of [(0, za_L a), (2, za_L b)] (by decide) rfl rfl (Nat.le_of_ble_eq_true rfl) ?_
  intro ho p e s m args below meth c G hr
  refine zv_lload_n (j := 1) G dX10_common_0 rfl rfl ?_
  refine zv_lconst (v := 0) G dX10_common_1 (by decide) ?_
  refine zv_lcmp G dX10_common_2 ?_
  refine zv_if_ne (tgt := 10) G dX10_common_3 (by decide) (fun c_3 => ?_) (fun c_3 => ?_)
  · have nb := z_lne c_3
    refine zv_lload_n (j := 1) G dX10_common_10 rfl rfl ?_
    refine zv_lload_n (j := 0) G dX10_common_11 rfl rfl ?_
    refine zv_lload_n (j := 1) G dX10_common_12 rfl rfl ?_
    refine zv_lrem G dX10_common_13 nb ?_
    refine zv_callSl (as := [za_L b, za_L (a - a / b * b)]) G (zc_X10_common_at31 l E b (a - a / b * b) σ hb.1 (z_common (B := 31) ha hb nb) (Or.inl nb)) zk_X10_common zm_1600 rfl ⟨(Nat.le_of_ble_eq_true rfl), (Nat.le_of_ble_eq_true rfl)⟩ ⟨Nat.zero_le _, Nat.zero_le _⟩ (Nat.le_of_ble_eq_true rfl) dX10_common_14 (fun r_14 σ h_14 => ?_)
    obtain ⟨h_14, rfl⟩ := h_14
    exact zv_lret G hr dX10_common_17 ⟨h_14, rfl⟩
  · refine zv_lload_n (j := 0) G dX10_common_6 rfl rfl ?_
    refine zv_goto (tgt := 17) G dX10_common_7 (by decide) ?_
    exact zv_lret G hr dX10_common_17 ⟨(hn.resolve_right (fun h => h (z_leq c_3))), rfl⟩
set_option maxHeartbeats 4000000 in
set_option maxRecDepth 100000 in
theorem zc_X10_common_at33 (l : Launch) (E : za_E) (a : Int64) (b : Int64) (σ : za_S) (ha : 0 ≤ a.toInt) (hb : 0 ≤ b.toInt ∧ b.toInt ≤ 33) (hn : ¬ a = 0 ∨ ¬ b = 0) : zMl l E yX10_common cX10_common 4 (Option.some Jvm.ClassFile.FieldType.long) 34 780 [za_L a, za_L b] σ (fun r σ' => (¬ r = 0) ∧ σ' = σ) := by
  refine zMl_of [(0, za_L a), (2, za_L b)] (by decide) rfl rfl (Nat.le_of_ble_eq_true rfl) ?_
  intro ho p e s m args below meth c G hr
  refine zv_lload_n (j := 1) G dX10_common_0 rfl rfl ?_
  refine zv_lconst (v := 0) G dX10_common_1 (by decide) ?_
  refine zv_lcmp G dX10_common_2 ?_
  refine zv_if_ne (tgt := 10) G dX10_common_3 (by decide) (fun c_3 => ?_) (fun c_3 => ?_)
  · have nb := z_lne c_3
    refine zv_lload_n (j := 1) G dX10_common_10 rfl rfl ?_
    refine zv_lload_n (j := 0) G dX10_common_11 rfl rfl ?_
    refine zv_lload_n (j := 1) G dX10_common_12 rfl rfl ?_
    refine zv_lrem G dX10_common_13 nb ?_
    refine zv_callSl (as := [za_L b, za_L (a - a / b * b)]) G (zc_X10_common_at32 l E b (a - a / b * b) σ hb.1 (z_common (B := 32) ha hb nb) (Or.inl nb)) zk_X10_common zm_1600 rfl ⟨(Nat.le_of_ble_eq_true rfl), (Nat.le_of_ble_eq_true rfl)⟩ ⟨Nat.zero_le _, Nat.zero_le _⟩ (Nat.le_of_ble_eq_true rfl) dX10_common_14 (fun r_14 σ h_14 => ?_)
    obtain ⟨h_14, rfl⟩ := h_14
    exact zv_lret G hr dX10_common_17 ⟨h_14, rfl⟩
  · refine zv_lload_n (j := 0) G dX10_common_6 rfl rfl ?_
    refine zv_goto (tgt := 17) G dX10_common_7 (by decide) ?_
    exact zv_lret G hr dX10_common_17 ⟨(hn.resolve_right (fun h => h (z_leq c_3))), rfl⟩
set_option maxHeartbeats 4000000 in
set_option maxRecDepth 100000 in
theorem zc_X10_common_at34 (l : Launch) (E : za_E) (a : Int64) (b : Int64) (σ : za_S) (ha : 0 ≤ a.toInt) (hb : 0 ≤ b.toInt ∧ b.toInt ≤ 34) (hn : ¬ a = 0 ∨ ¬ b = 0) : zMl l E yX10_common cX10_common 4 (Option.some Jvm.ClassFile.FieldType.long) 35 803 [za_L a, za_L b] σ (fun r σ' => (¬ r = 0) ∧ σ' = σ) := by
  refine zMl_of [(0, za_L a), (2, za_L b)] (by decide) rfl rfl (Nat.le_of_ble_eq_true rfl) ?_
  intro ho p e s m args below meth c G hr
  refine zv_lload_n (j := 1) G dX10_common_0 rfl rfl ?_
  refine zv_lconst (v := 0) G dX10_common_1 (by decide) ?_
  refine zv_lcmp G dX10_common_2 ?_
  refine zv_if_ne (tgt := 10) G dX10_common_3 (by decide) (fun c_3 => ?_) (fun c_3 => ?_)
  · have nb := z_lne c_3
    refine zv_lload_n (j := 1) G dX10_common_10 rfl rfl ?_
    refine zv_lload_n (j := 0) G dX10_common_11 rfl rfl ?_
    refine zv_lload_n (j := 1) G dX10_common_12 rfl rfl ?_
    refine zv_lrem G dX10_common_13 nb ?_
    refine zv_callSl (as := [za_L b, za_L (a - a / b * b)]) G (zc_X10_common_at33 l E b (a - a / b * b) σ hb.1 (z_common (B := 33) ha hb nb) (Or.inl nb)) zk_X10_common zm_1600 rfl ⟨(Nat.le_of_ble_eq_true rfl), (Nat.le_of_ble_eq_true rfl)⟩ ⟨Nat.zero_le _, Nat.zero_le _⟩ (Nat.le_of_ble_eq_true rfl) dX10_common_14 (fun r_14 σ h_14 => ?_)
    obtain ⟨h_14, rfl⟩ := h_14
    exact zv_lret G hr dX10_common_17 ⟨h_14, rfl⟩
  · refine zv_lload_n (j := 0) G dX10_common_6 rfl rfl ?_
    refine zv_goto (tgt := 17) G dX10_common_7 (by decide) ?_
    exact zv_lret G hr dX10_common_17 ⟨(hn.resolve_right (fun h => h (z_leq c_3))), rfl⟩
set_option maxHeartbeats 4000000 in
set_option maxRecDepth 100000 in
theorem zc_X10_common_at35 (l : Launch) (E : za_E) (a : Int64) (b : Int64) (σ : za_S) (ha : 0 ≤ a.toInt) (hb : 0 ≤ b.toInt ∧ b.toInt ≤ 35) (hn : ¬ a = 0 ∨ ¬ b = 0) : zMl l E yX10_common cX10_common 4 (Option.some Jvm.ClassFile.FieldType.long) 36 826 [za_L a, za_L b] σ (fun r σ' => (¬ r = 0) ∧ σ' = σ) := by
  refine zMl_of [(0, za_L a), (2, za_L b)] (by decide) rfl rfl (Nat.le_of_ble_eq_true rfl) ?_
  intro ho p e s m args below meth c G hr
  refine zv_lload_n (j := 1) G dX10_common_0 rfl rfl ?_
  refine zv_lconst (v := 0) G dX10_common_1 (by decide) ?_
  refine zv_lcmp G dX10_common_2 ?_
  refine zv_if_ne (tgt := 10) G dX10_common_3 (by decide) (fun c_3 => ?_) (fun c_3 => ?_)
  · have nb := z_lne c_3
    refine zv_lload_n (j := 1) G dX10_common_10 rfl rfl ?_
    refine zv_lload_n (j := 0) G dX10_common_11 rfl rfl ?_
    refine zv_lload_n (j := 1) G dX10_common_12 rfl rfl ?_
    refine zv_lrem G dX10_common_13 nb ?_
    refine zv_callSl (as := [za_L b, za_L (a - a / b * b)]) G (zc_X10_common_at34 l E b (a - a / b * b) σ hb.1 (z_common (B := 34) ha hb nb) (Or.inl nb)) zk_X10_common zm_1600 rfl ⟨(Nat.le_of_ble_eq_true rfl), (Nat.le_of_ble_eq_true rfl)⟩ ⟨Nat.zero_le _, Nat.zero_le _⟩ (Nat.le_of_ble_eq_true rfl) dX10_common_14 (fun r_14 σ h_14 => ?_)
    obtain ⟨h_14, rfl⟩ := h_14
    exact zv_lret G hr dX10_common_17 ⟨h_14, rfl⟩
  · refine zv_lload_n (j := 0) G dX10_common_6 rfl rfl ?_
    refine zv_goto (tgt := 17) G dX10_common_7 (by decide) ?_
    exact zv_lret G hr dX10_common_17 ⟨(hn.resolve_right (fun h => h (z_leq c_3))), rfl⟩
set_option maxHeartbeats 4000000 in
set_option maxRecDepth 100000 in
theorem zc_X10_common_at36 (l : Launch) (E : za_E) (a : Int64) (b : Int64) (σ : za_S) (ha : 0 ≤ a.toInt) (hb : 0 ≤ b.toInt ∧ b.toInt ≤ 36) (hn : ¬ a = 0 ∨ ¬ b = 0) : zMl l E yX10_common cX10_common 4 (Option.some Jvm.ClassFile.FieldType.long) 37 849 [za_L a, za_L b] σ (fun r σ' => (¬ r = 0) ∧ σ' = σ) := by
  refine zMl_of [(0, za_L a), (2, za_L b)] (by decide) rfl rfl (Nat.le_of_ble_eq_true rfl) ?_
  intro ho p e s m args below meth c G hr
  refine zv_lload_n (j := 1) G dX10_common_0 rfl rfl ?_
  refine zv_lconst (v := 0) G dX10_common_1 (by decide) ?_
  refine zv_lcmp G dX10_common_2 ?_
  refine zv_if_ne (tgt := 10) G dX10_common_3 (by decide) (fun c_3 => ?_) (fun c_3 => ?_)
  · have nb := z_lne c_3
    refine zv_lload_n (j := 1) G dX10_common_10 rfl rfl ?_
    refine zv_lload_n (j := 0) G dX10_common_11 rfl rfl ?_
    refine zv_lload_n (j := 1) G dX10_common_12 rfl rfl ?_
    refine zv_lrem G dX10_common_13 nb ?_
    refine zv_callSl (as := [za_L b, za_L (a - a / b * b)]) G (zc_X10_common_at35 l E b (a - a / b * b) σ hb.1 (z_common (B := 35) ha hb nb) (Or.inl nb)) zk_X10_common zm_1600 rfl ⟨(Nat.le_of_ble_eq_true rfl), (Nat.le_of_ble_eq_true rfl)⟩ ⟨Nat.zero_le _, Nat.zero_le _⟩ (Nat.le_of_ble_eq_true rfl) dX10_common_14 (fun r_14 σ h_14 => ?_)
    obtain ⟨h_14, rfl⟩ := h_14
    exact zv_lret G hr dX10_common_17 ⟨h_14, rfl⟩
  · refine zv_lload_n (j := 0) G dX10_common_6 rfl rfl ?_
    refine zv_goto (tgt := 17) G dX10_common_7 (by decide) ?_
    exact zv_lret G hr dX10_common_17 ⟨(hn.resolve_right (fun h => h (z_leq c_3))), rfl⟩
set_option maxHeartbeats 4000000 in
set_option maxRecDepth 100000 in
theorem zc_X10_common_at37 (l : Launch) (E : za_E) (a : Int64) (b : Int64) (σ : za_S) (ha : 0 ≤ a.toInt) (hb : 0 ≤ b.toInt ∧ b.toInt ≤ 37) (hn : ¬ a = 0 ∨ ¬ b = 0) : zMl l E yX10_common cX10_common 4 (Option.some Jvm.ClassFile.FieldType.long) 38 872 [za_L a, za_L b] σ (fun r σ' => (¬ r = 0) ∧ σ' = σ) := by
  refine zMl_of [(0, za_L a), (2, za_L b)] (by decide) rfl rfl (Nat.le_of_ble_eq_true rfl) ?_
  intro ho p e s m args below meth c G hr
  refine zv_lload_n (j := 1) G dX10_common_0 rfl rfl ?_
  refine zv_lconst (v := 0) G dX10_common_1 (by decide) ?_
  refine zv_lcmp G dX10_common_2 ?_
  refine zv_if_ne (tgt := 10) G dX10_common_3 (by decide) (fun c_3 => ?_) (fun c_3 => ?_)
  · have nb := z_lne c_3
    refine zv_lload_n (j := 1) G dX10_common_10 rfl rfl ?_
    refine zv_lload_n (j := 0) G dX10_common_11 rfl rfl ?_
    refine zv_lload_n (j := 1) G dX10_common_12 rfl rfl ?_
    refine zv_lrem G dX10_common_13 nb ?_
    refine zv_callSl (as := [za_L b, za_L (a - a / b * b)]) G (zc_X10_common_at36 l E b (a - a / b * b) σ hb.1 (z_common (B := 36) ha hb nb) (Or.inl nb)) zk_X10_common zm_1600 rfl ⟨(Nat.le_of_ble_eq_true rfl), (Nat.le_of_ble_eq_true rfl)⟩ ⟨Nat.zero_le _, Nat.zero_le _⟩ (Nat.le_of_ble_eq_true rfl) dX10_common_14 (fun r_14 σ h_14 => ?_)
    obtain ⟨h_14, rfl⟩ := h_14
    exact zv_lret G hr dX10_common_17 ⟨h_14, rfl⟩
  · refine zv_lload_n (j := 0) G dX10_common_6 rfl rfl ?_
    refine zv_goto (tgt := 17) G dX10_common_7 (by decide) ?_
    exact zv_lret G hr dX10_common_17 ⟨(hn.resolve_right (fun h => h (z_leq c_3))), rfl⟩
set_option maxHeartbeats 4000000 in
set_option maxRecDepth 100000 in
theorem zc_X10_common_at38 (l : Launch) (E : za_E) (a : Int64) (b : Int64) (σ : za_S) (ha : 0 ≤ a.toInt) (hb : 0 ≤ b.toInt ∧ b.toInt ≤ 38) (hn : ¬ a = 0 ∨ ¬ b = 0) : zMl l E yX10_common cX10_common 4 (Option.some Jvm.ClassFile.FieldType.long) 39 895 [za_L a, za_L b] σ (fun r σ' => (¬ r = 0) ∧ σ' = σ) := by
  refine zMl_of [(0, za_L a), (2, za_L b)] (by decide) rfl rfl (Nat.le_of_ble_eq_true rfl) ?_
  intro ho p e s m args below meth c G hr
  refine zv_lload_n (j := 1) G dX10_common_0 rfl rfl ?_
  refine zv_lconst (v := 0) G dX10_common_1 (by decide) ?_
  refine zv_lcmp G dX10_common_2 ?_
  refine zv_if_ne (tgt := 10) G dX10_common_3 (by decide) (fun c_3 => ?_) (fun c_3 => ?_)
  · have nb := z_lne c_3
    refine zv_lload_n (j := 1) G dX10_common_10 rfl rfl ?_
    refine zv_lload_n (j := 0) G dX10_common_11 rfl rfl ?_
    refine zv_lload_n (j := 1) G dX10_common_12 rfl rfl ?_
    refine zv_lrem G dX10_common_13 nb ?_
    refine zv_callSl (as := [za_L b, za_L (a - a / b * b)]) G (zc_X10_common_at37 l E b (a - a / b * b) σ hb.1 (z_common (B := 37) ha hb nb) (Or.inl nb)) zk_X10_common zm_1600 rfl ⟨(Nat.le_of_ble_eq_true rfl), (Nat.le_of_ble_eq_true rfl)⟩ ⟨Nat.zero_le _, Nat.zero_le _⟩ (Nat.le_of_ble_eq_true rfl) dX10_common_14 (fun r_14 σ h_14 => ?_)
    obtain ⟨h_14, rfl⟩ := h_14
    exact zv_lret G hr dX10_common_17 ⟨h_14, rfl⟩
  · refine zv_lload_n (j := 0) G dX10_common_6 rfl rfl ?_
    refine zv_goto (tgt := 17) G dX10_common_7 (by decide) ?_
    exact zv_lret G hr dX10_common_17 ⟨(hn.resolve_right (fun h => h (z_leq c_3))), rfl⟩
set_option maxHeartbeats 4000000 in
set_option maxRecDepth 100000 in
theorem zc_X10_common_at39 (l : Launch) (E : za_E) (a : Int64) (b : Int64) (σ : za_S) (ha : 0 ≤ a.toInt) (hb : 0 ≤ b.toInt ∧ b.toInt ≤ 39) (hn : ¬ a = 0 ∨ ¬ b = 0) : zMl l E yX10_common cX10_common 4 (Option.some Jvm.ClassFile.FieldType.long) 40 918 [za_L a, za_L b] σ (fun r σ' => (¬ r = 0) ∧ σ' = σ) := by
  refine zMl_of [(0, za_L a), (2, za_L b)] (by decide) rfl rfl (Nat.le_of_ble_eq_true rfl) ?_
  intro ho p e s m args below meth c G hr
  refine zv_lload_n (j := 1) G dX10_common_0 rfl rfl ?_
  refine zv_lconst (v := 0) G dX10_common_1 (by decide) ?_
  refine zv_lcmp G dX10_common_2 ?_
  refine zv_if_ne (tgt := 10) G dX10_common_3 (by decide) (fun c_3 => ?_) (fun c_3 => ?_)
  · have nb := z_lne c_3
    refine zv_lload_n (j := 1) G dX10_common_10 rfl rfl ?_
    refine zv_lload_n (j := 0) G dX10_common_11 rfl rfl ?_
    refine zv_lload_n (j := 1) G dX10_common_12 rfl rfl ?_
    refine zv_lrem G dX10_common_13 nb ?_
    refine zv_callSl (as := [za_L b, za_L (a - a / b * b)]) G (zc_X10_common_at38 l E b (a - a / b * b) σ hb.1 (z_common (B := 38) ha hb nb) (Or.inl nb)) zk_X10_common zm_1600 rfl ⟨(Nat.le_of_ble_eq_true rfl), (Nat.le_of_ble_eq_true rfl)⟩ ⟨Nat.zero_le _, Nat.zero_le _⟩ (Nat.le_of_ble_eq_true rfl) dX10_common_14 (fun r_14 σ h_14 => ?_)
    obtain ⟨h_14, rfl⟩ := h_14
    exact zv_lret G hr dX10_common_17 ⟨h_14, rfl⟩
  · refine zv_lload_n (j := 0) G dX10_common_6 rfl rfl ?_
    refine zv_goto (tgt := 17) G dX10_common_7 (by decide) ?_
    exact zv_lret G hr dX10_common_17 ⟨(hn.resolve_right (fun h => h (z_leq c_3))), rfl⟩
set_option maxHeartbeats 4000000 in
set_option maxRecDepth 100000 in
theorem zc_X10_common_at40 (l : Launch) (E : za_E) (a : Int64) (b : Int64) (σ : za_S) (ha : 0 ≤ a.toInt) (hb : 0 ≤ b.toInt ∧ b.toInt ≤ 40) (hn : ¬ a = 0 ∨ ¬ b = 0) : zMl l E yX10_common cX10_common 4 (Option.some Jvm.ClassFile.FieldType.long) 41 941 [za_L a, za_L b] σ (fun r σ' => (¬ r = 0) ∧ σ' = σ) := by
  refine zMl_of [(0, za_L a), (2, za_L b)] (by decide) rfl rfl (Nat.le_of_ble_eq_true rfl) ?_
  intro ho p e s m args below meth c G hr
  refine zv_lload_n (j := 1) G dX10_common_0 rfl rfl ?_
  refine zv_lconst (v := 0) G dX10_common_1 (by decide) ?_
  refine zv_lcmp G dX10_common_2 ?_
  refine zv_if_ne (tgt := 10) G dX10_common_3 (by decide) (fun c_3 => ?_) (fun c_3 => ?_)
  · have nb := z_lne c_3
    refine zv_lload_n (j := 1) G dX10_common_10 rfl rfl ?_
    refine zv_lload_n (j := 0) G dX10_common_11 rfl rfl ?_
    refine zv_lload_n (j := 1) G dX10_common_12 rfl rfl ?_
    refine zv_lrem G dX10_common_13 nb ?_
    refine zv_callSl (as := [za_L b, za_L (a - a / b * b)]) G (zc_X10_common_at39 l E b (a - a / b * b) σ hb.1 (z_common (B := 39) ha hb nb) (Or.inl nb)) zk_X10_common zm_1600 rfl ⟨(Nat.le_of_ble_eq_true rfl), (Nat.le_of_ble_eq_true rfl)⟩ ⟨Nat.zero_le _, Nat.zero_le _⟩ (Nat.le_of_ble_eq_true rfl) dX10_common_14 (fun r_14 σ h_14 => ?_)
    obtain ⟨h_14, rfl⟩ := h_14
    exact zv_lret G hr dX10_common_17 ⟨h_14, rfl⟩
  · refine zv_lload_n (j := 0) G dX10_common_6 rfl rfl ?_
    refine zv_goto (tgt := 17) G dX10_common_7 (by decide) ?_
    exact zv_lret G hr dX10_common_17 ⟨(hn.resolve_right (fun h => h (z_leq c_3))), rfl⟩
set_option maxHeartbeats 4000000 in
set_option maxRecDepth 100000 in
theorem zc_X10_common_at41 (l : Launch) (E : za_E) (a : Int64) (b : Int64) (σ : za_S) (ha : 0 ≤ a.toInt) (hb : 0 ≤ b.toInt ∧ b.toInt ≤ 41) (hn : ¬ a = 0 ∨ ¬ b = 0) : zMl l E yX10_common cX10_common 4 (Option.some Jvm.ClassFile.FieldType.long) 42 964 [za_L a, za_L b] σ (fun r σ' => (¬ r = 0) ∧ σ' = σ) := by
  refine zMl_of [(0, za_L a), (2, za_L b)] (by decide) rfl rfl (Nat.le_of_ble_eq_true rfl) ?_
  intro ho p e s m args below meth c G hr
  refine zv_lload_n (j := 1) G dX10_common_0 rfl rfl ?_
  refine zv_lconst (v := 0) G dX10_common_1 (by decide) ?_
  refine zv_lcmp G dX10_common_2 ?_
  refine zv_if_ne (tgt := 10) G dX10_common_3 (by decide) (fun c_3 => ?_) (fun c_3 => ?_)
  · have nb := z_lne c_3
    refine zv_lload_n (j := 1) G dX10_common_10 rfl rfl ?_
    refine zv_lload_n (j := 0) G dX10_common_11 rfl rfl ?_
    refine zv_lload_n (j := 1) G dX10_common_12 rfl rfl ?_
    refine zv_lrem G dX10_common_13 nb ?_
    refine zv_callSl (as := [za_L b, za_L (a - a / b * b)]) G (zc_X10_common_at40 l E b (a - a / b * b) σ hb.1 (z_common (B := 40) ha hb nb) (Or.inl nb)) zk_X10_common zm_1600 rfl ⟨(Nat.le_of_ble_eq_true rfl), (Nat.le_of_ble_eq_true rfl)⟩ ⟨Nat.zero_le _, Nat.zero_le _⟩ (Nat.le_of_ble_eq_true rfl) dX10_common_14 (fun r_14 σ h_14 => ?_)
    obtain ⟨h_14, rfl⟩ := h_14
    exact zv_lret G hr dX10_common_17 ⟨h_14, rfl⟩
  · refine zv_lload_n (j := 0) G dX10_common_6 rfl rfl ?_
    refine zv_goto (tgt := 17) G dX10_common_7 (by decide) ?_
    exact zv_lret G hr dX10_common_17 ⟨(hn.resolve_right (fun h => h (z_leq c_3))), rfl⟩
set_option maxHeartbeats 4000000 in
set_option maxRecDepth 100000 in
theorem zc_X10_common_at42 (l : Launch) (E : za_E) (a : Int64) (b : Int64) (σ : za_S) (ha : 0 ≤ a.toInt) (hb : 0 ≤ b.toInt ∧ b.toInt ≤ 42) (hn : ¬ a = 0 ∨ ¬ b = 0) : zMl l E yX10_common cX10_common 4 (Option.some Jvm.ClassFile.FieldType.long) 43 987 [za_L a, za_L b] σ (fun r σ' => (¬ r = 0) ∧ σ' = σ) := by
  refine zMl_of [(0, za_L a), (2, za_L b)] (by decide) rfl rfl (Nat.le_of_ble_eq_true rfl) ?_
  intro ho p e s m args below meth c G hr
  refine zv_lload_n (j := 1) G dX10_common_0 rfl rfl ?_
  refine zv_lconst (v := 0) G dX10_common_1 (by decide) ?_
  refine zv_lcmp G dX10_common_2 ?_
  refine zv_if_ne (tgt := 10) G dX10_common_3 (by decide) (fun c_3 => ?_) (fun c_3 => ?_)
  · have nb := z_lne c_3
    refine zv_lload_n (j := 1) G dX10_common_10 rfl rfl ?_
    refine zv_lload_n (j := 0) G dX10_common_11 rfl rfl ?_
    refine zv_lload_n (j := 1) G dX10_common_12 rfl rfl ?_
    refine zv_lrem G dX10_common_13 nb ?_
    refine zv_callSl (as := [za_L b, za_L (a - a / b * b)]) G (zc_X10_common_at41 l E b (a - a / b * b) σ hb.1 (z_common (B := 41) ha hb nb) (Or.inl nb)) zk_X10_common zm_1600 rfl ⟨(Nat.le_of_ble_eq_true rfl), (Nat.le_of_ble_eq_true rfl)⟩ ⟨Nat.zero_le _, Nat.zero_le _⟩ (Nat.le_of_ble_eq_true rfl) dX10_common_14 (fun r_14 σ h_14 => ?_)
    obtain ⟨h_14, rfl⟩ := h_14
    exact zv_lret G hr dX10_common_17 ⟨h_14, rfl⟩
  · refine zv_lload_n (j := 0) G dX10_common_6 rfl rfl ?_
    refine zv_goto (tgt := 17) G dX10_common_7 (by decide) ?_
    exact zv_lret G hr dX10_common_17 ⟨(hn.resolve_right (fun h => h (z_leq c_3))), rfl⟩
set_option maxHeartbeats 4000000 in
set_option maxRecDepth 100000 in
theorem zc_X10_common_at43 (l : Launch) (E : za_E) (a : Int64) (b : Int64) (σ : za_S) (ha : 0 ≤ a.toInt) (hb : 0 ≤ b.toInt ∧ b.toInt ≤ 43) (hn : ¬ a = 0 ∨ ¬ b = 0) : zMl l E yX10_common cX10_common 4 (Option.some Jvm.ClassFile.FieldType.long) 44 1010 [za_L a, za_L b] σ (fun r σ' => (¬ r = 0) ∧ σ' = σ) := by
  refine zMl_of [(0, za_L a), (2, za_L b)] (by decide) rfl rfl (Nat.le_of_ble_eq_true rfl) ?_
  intro ho p e s m args below meth c G hr
  refine zv_lload_n (j := 1) G dX10_common_0 rfl rfl ?_
  refine zv_lconst (v := 0) G dX10_common_1 (by decide) ?_
  refine zv_lcmp G dX10_common_2 ?_
  refine zv_if_ne (tgt := 10) G dX10_common_3 (by decide) (fun c_3 => ?_) (fun c_3 => ?_)
  · have nb := z_lne c_3
    refine zv_lload_n (j := 1) G dX10_common_10 rfl rfl ?_
    refine zv_lload_n (j := 0) G dX10_common_11 rfl rfl ?_
    refine zv_lload_n (j := 1) G dX10_common_12 rfl rfl ?_
    refine zv_lrem G dX10_common_13 nb ?_
    refine zv_callSl (as := [za_L b, za_L (a - a / b * b)]) G (zc_X10_common_at42 l E b (a - a / b * b) σ hb.1 (z_common (B := 42) ha hb nb) (Or.inl nb)) zk_X10_common zm_1600 rfl ⟨(Nat.le_of_ble_eq_true rfl), (Nat.le_of_ble_eq_true rfl)⟩ ⟨Nat.zero_le _, Nat.zero_le _⟩ (Nat.le_of_ble_eq_true rfl) dX10_common_14 (fun r_14 σ h_14 => ?_)
    obtain ⟨h_14, rfl⟩ := h_14
    exact zv_lret G hr dX10_common_17 ⟨h_14, rfl⟩
  · refine zv_lload_n (j := 0) G dX10_common_6 rfl rfl ?_
    refine zv_goto (tgt := 17) G dX10_common_7 (by decide) ?_
    exact zv_lret G hr dX10_common_17 ⟨(hn.resolve_right (fun h => h (z_leq c_3))), rfl⟩
set_option maxHeartbeats 4000000 in
set_option maxRecDepth 100000 in
theorem zc_X10_common_at44 (l : Launch) (E : za_E) (a : Int64) (b : Int64) (σ : za_S) (ha : 0 ≤ a.toInt) (hb : 0 ≤ b.toInt ∧ b.toInt ≤ 44) (hn : ¬ a = 0 ∨ ¬ b = 0) : zMl l E yX10_common cX10_common 4 (Option.some Jvm.ClassFile.FieldType.long) 45 1033 [za_L a, za_L b] σ (fun r σ' => (¬ r = 0) ∧ σ' = σ) := by
  refine zMl_of [(0, za_L a), (2, za_L b)] (by decide) rfl rfl (Nat.le_of_ble_eq_true rfl) ?_
  intro ho p e s m args below meth c G hr
  refine zv_lload_n (j := 1) G dX10_common_0 rfl rfl ?_
  refine zv_lconst (v := 0) G dX10_common_1 (by decide) ?_
  refine zv_lcmp G dX10_common_2 ?_
  refine zv_if_ne (tgt := 10) G dX10_common_3 (by decide) (fun c_3 => ?_) (fun c_3 => ?_)
  · have nb := z_lne c_3
    refine zv_lload_n (j := 1) G dX10_common_10 rfl rfl ?_
    refine zv_lload_n (j := 0) G dX10_common_11 rfl rfl ?_
    refine zv_lload_n (j := 1) G dX10_common_12 rfl rfl ?_
    refine zv_lrem G dX10_common_13 nb ?_
    refine zv_callSl (as := [za_L b, za_L (a - a / b * b)]) G (zc_X10_common_at43 l E b (a - a / b * b) σ hb.1 (z_common (B := 43) ha hb nb) (Or.inl nb)) zk_X10_common zm_1600 rfl ⟨(Nat.le_of_ble_eq_true rfl), (Nat.le_of_ble_eq_true rfl)⟩ ⟨Nat.zero_le _, Nat.zero_le _⟩ (Nat.le_of_ble_eq_true rfl) dX10_common_14 (fun r_14 σ h_14 => ?_)
    obtain ⟨h_14, rfl⟩ := h_14
    exact zv_lret G hr dX10_common_17 ⟨h_14, rfl⟩
  · refine zv_lload_n (j := 0) G dX10_common_6 rfl rfl ?_
    refine zv_goto (tgt := 17) G dX10_common_7 (by decide) ?_
    exact zv_lret G hr dX10_common_17 ⟨(hn.resolve_right (fun h => h (z_leq c_3))), rfl⟩
set_option maxHeartbeats 4000000 in
set_option maxRecDepth 100000 in
theorem zc_X10_common_at45 (l : Launch) (E : za_E) (a : Int64) (b : Int64) (σ : za_S) (ha : 0 ≤ a.toInt) (hb : 0 ≤ b.toInt ∧ b.toInt ≤ 45) (hn : ¬ a = 0 ∨ ¬ b = 0) : zMl l E yX10_common cX10_common 4 (Option.some Jvm.ClassFile.FieldType.long) 46 1056 [za_L a, za_L b] σ (fun r σ' => (¬ r = 0) ∧ σ' = σ) := by
  refine zMl_of [(0, za_L a), (2, za_L b)] (by decide) rfl rfl (Nat.le_of_ble_eq_true rfl) ?_
  intro ho p e s m args below meth c G hr
  refine zv_lload_n (j := 1) G dX10_common_0 rfl rfl ?_
  refine zv_lconst (v := 0) G dX10_common_1 (by decide) ?_
  refine zv_lcmp G dX10_common_2 ?_
  refine zv_if_ne (tgt := 10) G dX10_common_3 (by decide) (fun c_3 => ?_) (fun c_3 => ?_)
  · have nb := z_lne c_3
    refine zv_lload_n (j := 1) G dX10_common_10 rfl rfl ?_
    refine zv_lload_n (j := 0) G dX10_common_11 rfl rfl ?_
    refine zv_lload_n (j := 1) G dX10_common_12 rfl rfl ?_
    refine zv_lrem G dX10_common_13 nb ?_
    refine zv_callSl (as := [za_L b, za_L (a - a / b * b)]) G (zc_X10_common_at44 l E b (a - a / b * b) σ hb.1 (z_common (B := 44) ha hb nb) (Or.inl nb)) zk_X10_common zm_1600 rfl ⟨(Nat.le_of_ble_eq_true rfl), (Nat.le_of_ble_eq_true rfl)⟩ ⟨Nat.zero_le _, Nat.zero_le _⟩ (Nat.le_of_ble_eq_true rfl) dX10_common_14 (fun r_14 σ h_14 => ?_)
    obtain ⟨h_14, rfl⟩ := h_14
    exact zv_lret G hr dX10_common_17 ⟨h_14, rfl⟩
  · refine zv_lload_n (j := 0) G dX10_common_6 rfl rfl ?_
    refine zv_goto (tgt := 17) G dX10_common_7 (by decide) ?_
    exact zv_lret G hr dX10_common_17 ⟨(hn.resolve_right (fun h => h (z_leq c_3))), rfl⟩
set_option maxHeartbeats 4000000 in
set_option maxRecDepth 100000 in
theorem zc_X10_common_at46 (l : Launch) (E : za_E) (a : Int64) (b : Int64) (σ : za_S) (ha : 0 ≤ a.toInt) (hb : 0 ≤ b.toInt ∧ b.toInt ≤ 46) (hn : ¬ a = 0 ∨ ¬ b = 0) : zMl l E yX10_common cX10_common 4 (Option.some Jvm.ClassFile.FieldType.long) 47 1079 [za_L a, za_L b] σ (fun r σ' => (¬ r = 0) ∧ σ' = σ) := by
  refine zMl_of [(0, za_L a), (2, za_L b)] (by decide) rfl rfl (Nat.le_of_ble_eq_true rfl) ?_
  intro ho p e s m args below meth c G hr
  refine zv_lload_n (j := 1) G dX10_common_0 rfl rfl ?_
  refine zv_lconst (v := 0) G dX10_common_1 (by decide) ?_
  refine zv_lcmp G dX10_common_2 ?_
  refine zv_if_ne (tgt := 10) G dX10_common_3 (by decide) (fun c_3 => ?_) (fun c_3 => ?_)
  · have nb := z_lne c_3
    refine zv_lload_n (j := 1) G dX10_common_10 rfl rfl ?_
    refine zv_lload_n (j := 0) G dX10_common_11 rfl rfl ?_
    refine zv_lload_n (j := 1) G dX10_common_12 rfl rfl ?_
    refine zv_lrem G dX10_common_13 nb ?_
    refine zv_callSl (as := [za_L b, za_L (a - a / b * b)]) G (zc_X10_common_at45 l E b (a - a / b * b) σ hb.1 (z_common (B := 45) ha hb nb) (Or.inl nb)) zk_X10_common zm_1600 rfl ⟨(Nat.le_of_ble_eq_true rfl), (Nat.le_of_ble_eq_true rfl)⟩ ⟨Nat.zero_le _, Nat.zero_le _⟩ (Nat.le_of_ble_eq_true rfl) dX10_common_14 (fun r_14 σ h_14 => ?_)
    obtain ⟨h_14, rfl⟩ := h_14
    exact zv_lret G hr dX10_common_17 ⟨h_14, rfl⟩
  · refine zv_lload_n (j := 0) G dX10_common_6 rfl rfl ?_
    refine zv_goto (tgt := 17) G dX10_common_7 (by decide) ?_
    exact zv_lret G hr dX10_common_17 ⟨(hn.resolve_right (fun h => h (z_leq c_3))), rfl⟩
set_option maxHeartbeats 4000000 in
set_option maxRecDepth 100000 in
theorem zc_X10_common_at47 (l : Launch) (E : za_E) (a : Int64) (b : Int64) (σ : za_S) (ha : 0 ≤ a.toInt) (hb : 0 ≤ b.toInt ∧ b.toInt ≤ 47) (hn : ¬ a = 0 ∨ ¬ b = 0) : zMl l E yX10_common cX10_common 4 (Option.some Jvm.ClassFile.FieldType.long) 48 1102 [za_L a, za_L b] σ (fun r σ' => (¬ r = 0) ∧ σ' = σ) := by
  refine zMl_of [(0, za_L a), (2, za_L b)] (by decide) rfl rfl (Nat.le_of_ble_eq_true rfl) ?_
  intro ho p e s m args below meth c G hr
  refine zv_lload_n (j := 1) G dX10_common_0 rfl rfl ?_
  refine zv_lconst (v := 0) G dX10_common_1 (by decide) ?_
  refine zv_lcmp G dX10_common_2 ?_
  refine zv_if_ne (tgt := 10) G dX10_common_3 (by decide) (fun c_3 => ?_) (fun c_3 => ?_)
  · have nb := z_lne c_3
    refine zv_lload_n (j := 1) G dX10_common_10 rfl rfl ?_
    refine zv_lload_n (j := 0) G dX10_common_11 rfl rfl ?_
    refine zv_lload_n (j := 1) G dX10_common_12 rfl rfl ?_
    refine zv_lrem G dX10_common_13 nb ?_
    refine zv_callSl (as := [za_L b, za_L (a - a / b * b)]) G (zc_X10_common_at46 l E b (a - a / b * b) σ hb.1 (z_common (B := 46) ha hb nb) (Or.inl nb)) zk_X10_common zm_1600 rfl ⟨(Nat.le_of_ble_eq_true rfl), (Nat.le_of_ble_eq_true rfl)⟩ ⟨Nat.zero_le _, Nat.zero_le _⟩ (Nat.le_of_ble_eq_true rfl) dX10_common_14 (fun r_14 σ h_14 => ?_)
    obtain ⟨h_14, rfl⟩ := h_14
    exact zv_lret G hr dX10_common_17 ⟨h_14, rfl⟩
  · refine zv_lload_n (j := 0) G dX10_common_6 rfl rfl ?_
    refine zv_goto (tgt := 17) G dX10_common_7 (by decide) ?_
    exact zv_lret G hr dX10_common_17 ⟨(hn.resolve_right (fun h => h (z_leq c_3))), rfl⟩
set_option maxHeartbeats 4000000 in
set_option maxRecDepth 100000 in
theorem zc_X10_common_at48 (l : Launch) (E : za_E) (a : Int64) (b : Int64) (σ : za_S) (ha : 0 ≤ a.toInt) (hb : 0 ≤ b.toInt ∧ b.toInt ≤ 48) (hn : ¬ a = 0 ∨ ¬ b = 0) : zMl l E yX10_common cX10_common 4 (Option.some Jvm.ClassFile.FieldType.long) 49 1125 [za_L a, za_L b] σ (fun r σ' => (¬ r = 0) ∧ σ' = σ) := by
  refine zMl_of [(0, za_L a), (2, za_L b)] (by decide) rfl rfl (Nat.le_of_ble_eq_true rfl) ?_
  intro ho p e s m args below meth c G hr
  refine zv_lload_n (j := 1) G dX10_common_0 rfl rfl ?_
  refine zv_lconst (v := 0) G dX10_common_1 (by decide) ?_
  refine zv_lcmp G dX10_common_2 ?_
  refine zv_if_ne (tgt := 10) G dX10_common_3 (by decide) (fun c_3 => ?_) (fun c_3 => ?_)
  · have nb := z_lne c_3
    refine zv_lload_n (j := 1) G dX10_common_10 rfl rfl ?_
    refine zv_lload_n (j := 0) G dX10_common_11 rfl rfl ?_
    refine zv_lload_n (j := 1) G dX10_common_12 rfl rfl ?_
    refine zv_lrem G dX10_common_13 nb ?_
    refine zv_callSl (as := [za_L b, za_L (a - a / b * b)]) G (zc_X10_common_at47 l E b (a - a / b * b) σ hb.1 (z_common (B := 47) ha hb nb) (Or.inl nb)) zk_X10_common zm_1600 rfl ⟨(Nat.le_of_ble_eq_true rfl), (Nat.le_of_ble_eq_true rfl)⟩ ⟨Nat.zero_le _, Nat.zero_le _⟩ (Nat.le_of_ble_eq_true rfl) dX10_common_14 (fun r_14 σ h_14 => ?_)
    obtain ⟨h_14, rfl⟩ := h_14
    exact zv_lret G hr dX10_common_17 ⟨h_14, rfl⟩
  · refine zv_lload_n (j := 0) G dX10_common_6 rfl rfl ?_
    refine zv_goto (tgt := 17) G dX10_common_7 (by decide) ?_
    exact zv_lret G hr dX10_common_17 ⟨(hn.resolve_right (fun h => h (z_leq c_3))), rfl⟩
set_option maxHeartbeats 4000000 in
set_option maxRecDepth 100000 in
theorem zc_X10_common_at49 (l : Launch) (E : za_E) (a : Int64) (b : Int64) (σ : za_S) (ha : 0 ≤ a.toInt) (hb : 0 ≤ b.toInt ∧ b.toInt ≤ 49) (hn : ¬ a = 0 ∨ ¬ b = 0) : zMl l E yX10_common cX10_common 4 (Option.some Jvm.ClassFile.FieldType.long) 50 1148 [za_L a, za_L b] σ (fun r σ' => (¬ r = 0) ∧ σ' = σ) := by
  refine zMl_of [(0, za_L a), (2, za_L b)] (by decide) rfl rfl (Nat.le_of_ble_eq_true rfl) ?_
  intro ho p e s m args below meth c G hr
  refine zv_lload_n (j := 1) G dX10_common_0 rfl rfl ?_
  refine zv_lconst (v := 0) G dX10_common_1 (by decide) ?_
  refine zv_lcmp G dX10_common_2 ?_
  refine zv_if_ne (tgt := 10) G dX10_common_3 (by decide) (fun c_3 => ?_) (fun c_3 => ?_)
  · have nb := z_lne c_3
    refine zv_lload_n (j := 1) G dX10_common_10 rfl rfl ?_
    refine zv_lload_n (j := 0) G dX10_common_11 rfl rfl ?_
    refine zv_lload_n (j := 1) G dX10_common_12 rfl rfl ?_
    refine zv_lrem G dX10_common_13 nb ?_
    refine zv_callSl (as := [za_L b, za_L (a - a / b * b)]) G (zc_X10_common_at48 l E b (a - a / b * b) σ hb.1 (z_common (B := 48) ha hb nb) (Or.inl nb)) zk_X10_common zm_1600 rfl ⟨(Nat.le_of_ble_eq_true rfl), (Nat.le_of_ble_eq_true rfl)⟩ ⟨Nat.zero_le _, Nat.zero_le _⟩ (Nat.le_of_ble_eq_true rfl) dX10_common_14 (fun r_14 σ h_14 => ?_)
    obtain ⟨h_14, rfl⟩ := h_14
    exact zv_lret G hr dX10_common_17 ⟨h_14, rfl⟩
  · refine zv_lload_n (j := 0) G dX10_common_6 rfl rfl ?_
    refine zv_goto (tgt := 17) G dX10_common_7 (by decide) ?_
    exact zv_lret G hr dX10_common_17 ⟨(hn.resolve_right (fun h => h (z_leq c_3))), rfl⟩
set_option maxHeartbeats 4000000 in
set_option maxRecDepth 100000 in
theorem zc_X10_common_at50 (l : Launch) (E : za_E) (a : Int64) (b : Int64) (σ : za_S) (ha : 0 ≤ a.toInt) (hb : 0 ≤ b.toInt ∧ b.toInt ≤ 50) (hn : ¬ a = 0 ∨ ¬ b = 0) : zMl l E yX10_common cX10_common 4 (Option.some Jvm.ClassFile.FieldType.long) 51 1171 [za_L a, za_L b] σ (fun r σ' => (¬ r = 0) ∧ σ' = σ) := by
  refine zMl_of [(0, za_L a), (2, za_L b)] (by decide) rfl rfl (Nat.le_of_ble_eq_true rfl) ?_
  intro ho p e s m args below meth c G hr
  refine zv_lload_n (j := 1) G dX10_common_0 rfl rfl ?_
  refine zv_lconst (v := 0) G dX10_common_1 (by decide) ?_
  refine zv_lcmp G dX10_common_2 ?_
  refine zv_if_ne (tgt := 10) G dX10_common_3 (by decide) (fun c_3 => ?_) (fun c_3 => ?_)
  · have nb := z_lne c_3
    refine zv_lload_n (j := 1) G dX10_common_10 rfl rfl ?_
    refine zv_lload_n (j := 0) G dX10_common_11 rfl rfl ?_
    refine zv_lload_n (j := 1) G dX10_common_12 rfl rfl ?_
    refine zv_lrem G dX10_common_13 nb ?_
    refine zv_callSl (as := [za_L b, za_L (a - a / b * b)]) G (zc_X10_common_at49 l E b (a - a / b * b) σ hb.1 (z_common (B := 49) ha hb nb) (Or.inl nb)) zk_X10_common zm_1600 rfl ⟨(Nat.le_of_ble_eq_true rfl), (Nat.le_of_ble_eq_true rfl)⟩ ⟨Nat.zero_le _, Nat.zero_le _⟩ (Nat.le_of_ble_eq_true rfl) dX10_common_14 (fun r_14 σ h_14 => ?_)
    obtain ⟨h_14, rfl⟩ := h_14
    exact zv_lret G hr dX10_common_17 ⟨h_14, rfl⟩
  · refine zv_lload_n (j := 0) G dX10_common_6 rfl rfl ?_
    refine zv_goto (tgt := 17) G dX10_common_7 (by decide) ?_
    exact zv_lret G hr dX10_common_17 ⟨(hn.resolve_right (fun h => h (z_leq c_3))), rfl⟩
set_option maxHeartbeats 4000000 in
set_option maxRecDepth 100000 in
theorem zc_X10_common_at51 (l : Launch) (E : za_E) (a : Int64) (b : Int64) (σ : za_S) (ha : 0 ≤ a.toInt) (hb : 0 ≤ b.toInt ∧ b.toInt ≤ 51) (hn : ¬ a = 0 ∨ ¬ b = 0) : zMl l E yX10_common cX10_common 4 (Option.some Jvm.ClassFile.FieldType.long) 52 1194 [za_L a, za_L b] σ (fun r σ' => (¬ r = 0) ∧ σ' = σ) := by
  refine zMl_of [(0, za_L a), (2, za_L b)] (by decide) rfl rfl (Nat.le_of_ble_eq_true rfl) ?_
  intro ho p e s m args below meth c G hr
  refine zv_lload_n (j := 1) G dX10_common_0 rfl rfl ?_
  refine zv_lconst (v := 0) G dX10_common_1 (by decide) ?_
  refine zv_lcmp G dX10_common_2 ?_
  refine zv_if_ne (tgt := 10) G dX10_common_3 (by decide) (fun c_3 => ?_) (fun c_3 => ?_)
  · have nb := z_lne c_3
    refine zv_lload_n (j := 1) G dX10_common_10 rfl rfl ?_
    refine zv_lload_n (j := 0) G dX10_common_11 rfl rfl ?_
    refine zv_lload_n (j := 1) G dX10_common_12 rfl rfl ?_
    refine zv_lrem G dX10_common_13 nb ?_
    refine zv_callSl (as := [za_L b, za_L (a - a / b * b)]) G (zc_X10_common_at50 l E b (a - a / b * b) σ hb.1 (z_common (B := 50) ha hb nb) (Or.inl nb)) zk_X10_common zm_1600 rfl ⟨(Nat.le_of_ble_eq_true rfl), (Nat.le_of_ble_eq_true rfl)⟩ ⟨Nat.zero_le _, Nat.zero_le _⟩ (Nat.le_of_ble_eq_true rfl) dX10_common_14 (fun r_14 σ h_14 => ?_)
    obtain ⟨h_14, rfl⟩ := h_14
    exact zv_lret G hr dX10_common_17 ⟨h_14, rfl⟩
  · refine zv_lload_n (j := 0) G dX10_common_6 rfl rfl ?_
    refine zv_goto (tgt := 17) G dX10_common_7 (by decide) ?_
    exact zv_lret G hr dX10_common_17 ⟨(hn.resolve_right (fun h => h (z_leq c_3))), rfl⟩
set_option maxHeartbeats 4000000 in
set_option maxRecDepth 100000 in
theorem zc_X10_common_at52 (l : Launch) (E : za_E) (a : Int64) (b : Int64) (σ : za_S) (ha : 0 ≤ a.toInt) (hb : 0 ≤ b.toInt ∧ b.toInt ≤ 52) (hn : ¬ a = 0 ∨ ¬ b = 0) : zMl l E yX10_common cX10_common 4 (Option.some Jvm.ClassFile.FieldType.long) 53 1217 [za_L a, za_L b] σ (fun r σ' => (¬ r = 0) ∧ σ' = σ) := by
  refine zMl_of [(0, za_L a), (2, za_L b)] (by decide) rfl rfl (Nat.le_of_ble_eq_true rfl) ?_
  intro ho p e s m args below meth c G hr
  refine zv_lload_n (j := 1) G dX10_common_0 rfl rfl ?_
  refine zv_lconst (v := 0) G dX10_common_1 (by decide) ?_
  refine zv_lcmp G dX10_common_2 ?_
  refine zv_if_ne (tgt := 10) G dX10_common_3 (by decide) (fun c_3 => ?_) (fun c_3 => ?_)
  · have nb := z_lne c_3
    refine zv_lload_n (j := 1) G dX10_common_10 rfl rfl ?_
    refine zv_lload_n (j := 0) G dX10_common_11 rfl rfl ?_
    refine zv_lload_n (j := 1) G dX10_common_12 rfl rfl ?_
    refine zv_lrem G dX10_common_13 nb ?_
    refine zv_callSl (as := [za_L b, za_L (a - a / b * b)]) G (zc_X10_common_at51 l E b (a - a / b * b) σ hb.1 (z_common (B := 51) ha hb nb) (Or.inl nb)) zk_X10_common zm_1600 rfl ⟨(Nat.le_of_ble_eq_true rfl), (Nat.le_of_ble_eq_true rfl)⟩ ⟨Nat.zero_le _, Nat.zero_le _⟩ (Nat.le_of_ble_eq_true rfl) dX10_common_14 (fun r_14 σ h_14 => ?_)
    obtain ⟨h_14, rfl⟩ := h_14
    exact zv_lret G hr dX10_common_17 ⟨h_14, rfl⟩
  · refine zv_lload_n (j := 0) G dX10_common_6 rfl rfl ?_
    refine zv_goto (tgt := 17) G dX10_common_7 (by decide) ?_
    exact zv_lret G hr dX10_common_17 ⟨(hn.resolve_right (fun h => h (z_leq c_3))), rfl⟩
set_option maxHeartbeats 4000000 in
set_option maxRecDepth 100000 in
theorem zc_X10_common_at53 (l : Launch) (E : za_E) (a : Int64) (b : Int64) (σ : za_S) (ha : 0 ≤ a.toInt) (hb : 0 ≤ b.toInt ∧ b.toInt ≤ 53) (hn : ¬ a = 0 ∨ ¬ b = 0) : zMl l E yX10_common cX10_common 4 (Option.some Jvm.ClassFile.FieldType.long) 54 1240 [za_L a, za_L b] σ (fun r σ' => (¬ r = 0) ∧ σ' = σ) := by
  refine zMl_of [(0, za_L a), (2, za_L b)] (by decide) rfl rfl (Nat.le_of_ble_eq_true rfl) ?_
  intro ho p e s m args below meth c G hr
  refine zv_lload_n (j := 1) G dX10_common_0 rfl rfl ?_
  refine zv_lconst (v := 0) G dX10_common_1 (by decide) ?_
  refine zv_lcmp G dX10_common_2 ?_
  refine zv_if_ne (tgt := 10) G dX10_common_3 (by decide) (fun c_3 => ?_) (fun c_3 => ?_)
  · have nb := z_lne c_3
    refine zv_lload_n (j := 1) G dX10_common_10 rfl rfl ?_
    refine zv_lload_n (j := 0) G dX10_common_11 rfl rfl ?_
    refine zv_lload_n (j := 1) G dX10_common_12 rfl rfl ?_
    refine zv_lrem G dX10_common_13 nb ?_
    refine zv_callSl (as := [za_L b, za_L (a - a / b * b)]) G (zc_X10_common_at52 l E b (a - a / b * b) σ hb.1 (z_common (B := 52) ha hb nb) (Or.inl nb)) zk_X10_common zm_1600 rfl ⟨(Nat.le_of_ble_eq_true rfl), (Nat.le_of_ble_eq_true rfl)⟩ ⟨Nat.zero_le _, Nat.zero_le _⟩ (Nat.le_of_ble_eq_true rfl) dX10_common_14 (fun r_14 σ h_14 => ?_)
    obtain ⟨h_14, rfl⟩ := h_14
    exact zv_lret G hr dX10_common_17 ⟨h_14, rfl⟩
  · refine zv_lload_n (j := 0) G dX10_common_6 rfl rfl ?_
    refine zv_goto (tgt := 17) G dX10_common_7 (by decide) ?_
    exact zv_lret G hr dX10_common_17 ⟨(hn.resolve_right (fun h => h (z_leq c_3))), rfl⟩
set_option maxHeartbeats 4000000 in
set_option maxRecDepth 100000 in
theorem zc_X10_common_at54 (l : Launch) (E : za_E) (a : Int64) (b : Int64) (σ : za_S) (ha : 0 ≤ a.toInt) (hb : 0 ≤ b.toInt ∧ b.toInt ≤ 54) (hn : ¬ a = 0 ∨ ¬ b = 0) : zMl l E yX10_common cX10_common 4 (Option.some Jvm.ClassFile.FieldType.long) 55 1263 [za_L a, za_L b] σ (fun r σ' => (¬ r = 0) ∧ σ' = σ) := by
  refine zMl_of [(0, za_L a), (2, za_L b)] (by decide) rfl rfl (Nat.le_of_ble_eq_true rfl) ?_
  intro ho p e s m args below meth c G hr
  refine zv_lload_n (j := 1) G dX10_common_0 rfl rfl ?_
  refine zv_lconst (v := 0) G dX10_common_1 (by decide) ?_
  refine zv_lcmp G dX10_common_2 ?_
  refine zv_if_ne (tgt := 10) G dX10_common_3 (by decide) (fun c_3 => ?_) (fun c_3 => ?_)
  · have nb := z_lne c_3
    refine zv_lload_n (j := 1) G dX10_common_10 rfl rfl ?_
    refine zv_lload_n (j := 0) G dX10_common_11 rfl rfl ?_
    refine zv_lload_n (j := 1) G dX10_common_12 rfl rfl ?_
    refine zv_lrem G dX10_common_13 nb ?_
    refine zv_callSl (as := [za_L b, za_L (a - a / b * b)]) G (zc_X10_common_at53 l E b (a - a / b * b) σ hb.1 (z_common (B := 53) ha hb nb) (Or.inl nb)) zk_X10_common zm_1600 rfl ⟨(Nat.le_of_ble_eq_true rfl), (Nat.le_of_ble_eq_true rfl)⟩ ⟨Nat.zero_le _, Nat.zero_le _⟩ (Nat.le_of_ble_eq_true rfl) dX10_common_14 (fun r_14 σ h_14 => ?_)
    obtain ⟨h_14, rfl⟩ := h_14
    exact zv_lret G hr dX10_common_17 ⟨h_14, rfl⟩
  · refine zv_lload_n (j := 0) G dX10_common_6 rfl rfl ?_
    refine zv_goto (tgt := 17) G dX10_common_7 (by decide) ?_
    exact zv_lret G hr dX10_common_17 ⟨(hn.resolve_right (fun h => h (z_leq c_3))), rfl⟩
set_option maxHeartbeats 4000000 in
set_option maxRecDepth 100000 in
theorem zc_X10_common_at55 (l : Launch) (E : za_E) (a : Int64) (b : Int64) (σ : za_S) (ha : 0 ≤ a.toInt) (hb : 0 ≤ b.toInt ∧ b.toInt ≤ 55) (hn : ¬ a = 0 ∨ ¬ b = 0) : zMl l E yX10_common cX10_common 4 (Option.some Jvm.ClassFile.FieldType.long) 56 1286 [za_L a, za_L b] σ (fun r σ' => (¬ r = 0) ∧ σ' = σ) := by
  refine zMl_of [(0, za_L a), (2, za_L b)] (by decide) rfl rfl (Nat.le_of_ble_eq_true rfl) ?_
  intro ho p e s m args below meth c G hr
  refine zv_lload_n (j := 1) G dX10_common_0 rfl rfl ?_
  refine zv_lconst (v := 0) G dX10_common_1 (by decide) ?_
  refine zv_lcmp G dX10_common_2 ?_
  refine zv_if_ne (tgt := 10) G dX10_common_3 (by decide) (fun c_3 => ?_) (fun c_3 => ?_)
  · have nb := z_lne c_3
    refine zv_lload_n (j := 1) G dX10_common_10 rfl rfl ?_
    refine zv_lload_n (j := 0) G dX10_common_11 rfl rfl ?_
    refine zv_lload_n (j := 1) G dX10_common_12 rfl rfl ?_
    refine zv_lrem G dX10_common_13 nb ?_
    refine zv_callSl (as := [za_L b, za_L (a - a / b * b)]) G (zc_X10_common_at54 l E b (a - a / b * b) σ hb.1 (z_common (B := 54) ha hb nb) (Or.inl nb)) zk_X10_common zm_1600 rfl ⟨(Nat.le_of_ble_eq_true rfl), (Nat.le_of_ble_eq_true rfl)⟩ ⟨Nat.zero_le _, Nat.zero_le _⟩ (Nat.le_of_ble_eq_true rfl) dX10_common_14 (fun r_14 σ h_14 => ?_)
    obtain ⟨h_14, rfl⟩ := h_14
    exact zv_lret G hr dX10_common_17 ⟨h_14, rfl⟩
  · refine zv_lload_n (j := 0) G dX10_common_6 rfl rfl ?_
    refine zv_goto (tgt := 17) G dX10_common_7 (by decide) ?_
    exact zv_lret G hr dX10_common_17 ⟨(hn.resolve_right (fun h => h (z_leq c_3))), rfl⟩
set_option maxHeartbeats 4000000 in
set_option maxRecDepth 100000 in
theorem zc_X10_common_at56 (l : Launch) (E : za_E) (a : Int64) (b : Int64) (σ : za_S) (ha : 0 ≤ a.toInt) (hb : 0 ≤ b.toInt ∧ b.toInt ≤ 56) (hn : ¬ a = 0 ∨ ¬ b = 0) : zMl l E yX10_common cX10_common 4 (Option.some Jvm.ClassFile.FieldType.long) 57 1309 [za_L a, za_L b] σ (fun r σ' => (¬ r = 0) ∧ σ' = σ) := by
  refine zMl_of [(0, za_L a), (2, za_L b)] (by decide) rfl rfl (Nat.le_of_ble_eq_true rfl) ?_
  intro ho p e s m args below meth c G hr
  refine zv_lload_n (j := 1) G dX10_common_0 rfl rfl ?_
  refine zv_lconst (v := 0) G dX10_common_1 (by decide) ?_
  refine zv_lcmp G dX10_common_2 ?_
  refine zv_if_ne (tgt := 10) G dX10_common_3 (by decide) (fun c_3 => ?_) (fun c_3 => ?_)
  · have nb := z_lne c_3
    refine zv_lload_n (j := 1) G dX10_common_10 rfl rfl ?_
    refine zv_lload_n (j := 0) G dX10_common_11 rfl rfl ?_
    refine zv_lload_n (j := 1) G dX10_common_12 rfl rfl ?_
    refine zv_lrem G dX10_common_13 nb ?_
    refine zv_callSl (as := [za_L b, za_L (a - a / b * b)]) G (zc_X10_common_at55 l E b (a - a / b * b) σ hb.1 (z_common (B := 55) ha hb nb) (Or.inl nb)) zk_X10_common zm_1600 rfl ⟨(Nat.le_of_ble_eq_true rfl), (Nat.le_of_ble_eq_true rfl)⟩ ⟨Nat.zero_le _, Nat.zero_le _⟩ (Nat.le_of_ble_eq_true rfl) dX10_common_14 (fun r_14 σ h_14 => ?_)
    obtain ⟨h_14, rfl⟩ := h_14
    exact zv_lret G hr dX10_common_17 ⟨h_14, rfl⟩
  · refine zv_lload_n (j := 0) G dX10_common_6 rfl rfl ?_
    refine zv_goto (tgt := 17) G dX10_common_7 (by decide) ?_
    exact zv_lret G hr dX10_common_17 ⟨(hn.resolve_right (fun h => h (z_leq c_3))), rfl⟩
set_option maxHeartbeats 4000000 in
set_option maxRecDepth 100000 in
theorem zc_X10_common_at57 (l : Launch) (E : za_E) (a : Int64) (b : Int64) (σ : za_S) (ha : 0 ≤ a.toInt) (hb : 0 ≤ b.toInt ∧ b.toInt ≤ 57) (hn : ¬ a = 0 ∨ ¬ b = 0) : zMl l E yX10_common cX10_common 4 (Option.some Jvm.ClassFile.FieldType.long) 58 1332 [za_L a, za_L b] σ (fun r σ' => (¬ r = 0) ∧ σ' = σ) := by
  refine zMl_of [(0, za_L a), (2, za_L b)] (by decide) rfl rfl (Nat.le_of_ble_eq_true rfl) ?_
  intro ho p e s m args below meth c G hr
  refine zv_lload_n (j := 1) G dX10_common_0 rfl rfl ?_
  refine zv_lconst (v := 0) G dX10_common_1 (by decide) ?_
  refine zv_lcmp G dX10_common_2 ?_
  refine zv_if_ne (tgt := 10) G dX10_common_3 (by decide) (fun c_3 => ?_) (fun c_3 => ?_)
  · have nb := z_lne c_3
    refine zv_lload_n (j := 1) G dX10_common_10 rfl rfl ?_
    refine zv_lload_n (j := 0) G dX10_common_11 rfl rfl ?_
    refine zv_lload_n (j := 1) G dX10_common_12 rfl rfl ?_
    refine zv_lrem G dX10_common_13 nb ?_
    refine zv_callSl (as := [za_L b, za_L (a - a / b * b)]) G (zc_X10_common_at56 l E b (a - a / b * b) σ hb.1 (z_common (B := 56) ha hb nb) (Or.inl nb)) zk_X10_common zm_1600 rfl ⟨(Nat.le_of_ble_eq_true rfl), (Nat.le_of_ble_eq_true rfl)⟩ ⟨Nat.zero_le _, Nat.zero_le _⟩ (Nat.le_of_ble_eq_true rfl) dX10_common_14 (fun r_14 σ h_14 => ?_)
    obtain ⟨h_14, rfl⟩ := h_14
    exact zv_lret G hr dX10_common_17 ⟨h_14, rfl⟩
  · refine zv_lload_n (j := 0) G dX10_common_6 rfl rfl ?_
    refine zv_goto (tgt := 17) G dX10_common_7 (by decide) ?_
    exact zv_lret G hr dX10_common_17 ⟨(hn.resolve_right (fun h => h (z_leq c_3))), rfl⟩
set_option maxHeartbeats 4000000 in
set_option maxRecDepth 100000 in
theorem zc_X10_common_at58 (l : Launch) (E : za_E) (a : Int64) (b : Int64) (σ : za_S) (ha : 0 ≤ a.toInt) (hb : 0 ≤ b.toInt ∧ b.toInt ≤ 58) (hn : ¬ a = 0 ∨ ¬ b = 0) : zMl l E yX10_common cX10_common 4 (Option.some Jvm.ClassFile.FieldType.long) 59 1355 [za_L a, za_L b] σ (fun r σ' => (¬ r = 0) ∧ σ' = σ) := by
  refine zMl_of [(0, za_L a), (2, za_L b)] (by decide) rfl rfl (Nat.le_of_ble_eq_true rfl) ?_
  intro ho p e s m args below meth c G hr
  refine zv_lload_n (j := 1) G dX10_common_0 rfl rfl ?_
  refine zv_lconst (v := 0) G dX10_common_1 (by decide) ?_
  refine zv_lcmp G dX10_common_2 ?_
  refine zv_if_ne (tgt := 10) G dX10_common_3 (by decide) (fun c_3 => ?_) (fun c_3 => ?_)
  · have nb := z_lne c_3
    refine zv_lload_n (j := 1) G dX10_common_10 rfl rfl ?_
    refine zv_lload_n (j := 0) G dX10_common_11 rfl rfl ?_
    refine zv_lload_n (j := 1) G dX10_common_12 rfl rfl ?_
    refine zv_lrem G dX10_common_13 nb ?_
    refine zv_callSl (as := [za_L b, za_L (a - a / b * b)]) G (zc_X10_common_at57 l E b (a - a / b * b) σ hb.1 (z_common (B := 57) ha hb nb) (Or.inl nb)) zk_X10_common zm_1600 rfl ⟨(Nat.le_of_ble_eq_true rfl), (Nat.le_of_ble_eq_true rfl)⟩ ⟨Nat.zero_le _, Nat.zero_le _⟩ (Nat.le_of_ble_eq_true rfl) dX10_common_14 (fun r_14 σ h_14 => ?_)
    obtain ⟨h_14, rfl⟩ := h_14
    exact zv_lret G hr dX10_common_17 ⟨h_14, rfl⟩
  · refine zv_lload_n (j := 0) G dX10_common_6 rfl rfl ?_
    refine zv_goto (tgt := 17) G dX10_common_7 (by decide) ?_
    exact zv_lret G hr dX10_common_17 ⟨(hn.resolve_right (fun h => h (z_leq c_3))), rfl⟩
set_option maxHeartbeats 4000000 in
set_option maxRecDepth 100000 in
theorem zc_X10_common_at59 (l : Launch) (E : za_E) (a : Int64) (b : Int64) (σ : za_S) (ha : 0 ≤ a.toInt) (hb : 0 ≤ b.toInt ∧ b.toInt ≤ 59) (hn : ¬ a = 0 ∨ ¬ b = 0) : zMl l E yX10_common cX10_common 4 (Option.some Jvm.ClassFile.FieldType.long) 60 1378 [za_L a, za_L b] σ (fun r σ' => (¬ r = 0) ∧ σ' = σ) := by
  refine zMl_of [(0, za_L a), (2, za_L b)] (by decide) rfl rfl (Nat.le_of_ble_eq_true rfl) ?_
  intro ho p e s m args below meth c G hr
  refine zv_lload_n (j := 1) G dX10_common_0 rfl rfl ?_
  refine zv_lconst (v := 0) G dX10_common_1 (by decide) ?_
  refine zv_lcmp G dX10_common_2 ?_
  refine zv_if_ne (tgt := 10) G dX10_common_3 (by decide) (fun c_3 => ?_) (fun c_3 => ?_)
  · have nb := z_lne c_3
    refine zv_lload_n (j := 1) G dX10_common_10 rfl rfl ?_
    refine zv_lload_n (j := 0) G dX10_common_11 rfl rfl ?_
    refine zv_lload_n (j := 1) G dX10_common_12 rfl rfl ?_
    refine zv_lrem G dX10_common_13 nb ?_
    refine zv_callSl (as := [za_L b, za_L (a - a / b * b)]) G (zc_X10_common_at58 l E b (a - a / b * b) σ hb.1 (z_common (B := 58) ha hb nb) (Or.inl nb)) zk_X10_common zm_1600 rfl ⟨(Nat.le_of_ble_eq_true rfl), (Nat.le_of_ble_eq_true rfl)⟩ ⟨Nat.zero_le _, Nat.zero_le _⟩ (Nat.le_of_ble_eq_true rfl) dX10_common_14 (fun r_14 σ h_14 => ?_)
    obtain ⟨h_14, rfl⟩ := h_14
    exact zv_lret G hr dX10_common_17 ⟨h_14, rfl⟩
  · refine zv_lload_n (j := 0) G dX10_common_6 rfl rfl ?_
    refine zv_goto (tgt := 17) G dX10_common_7 (by decide) ?_
    exact zv_lret G hr dX10_common_17 ⟨(hn.resolve_right (fun h => h (z_leq c_3))), rfl⟩
set_option maxHeartbeats 4000000 in
set_option maxRecDepth 100000 in
theorem zc_X10_common_at60 (l : Launch) (E : za_E) (a : Int64) (b : Int64) (σ : za_S) (ha : 0 ≤ a.toInt) (hb : 0 ≤ b.toInt ∧ b.toInt ≤ 60) (hn : ¬ a = 0 ∨ ¬ b = 0) : zMl l E yX10_common cX10_common 4 (Option.some Jvm.ClassFile.FieldType.long) 61 1401 [za_L a, za_L b] σ (fun r σ' => (¬ r = 0) ∧ σ' = σ) := by
  refine zMl_of [(0, za_L a), (2, za_L b)] (by decide) rfl rfl (Nat.le_of_ble_eq_true rfl) ?_
  intro ho p e s m args below meth c G hr
  refine zv_lload_n (j := 1) G dX10_common_0 rfl rfl ?_
  refine zv_lconst (v := 0) G dX10_common_1 (by decide) ?_
  refine zv_lcmp G dX10_common_2 ?_
  refine zv_if_ne (tgt := 10) G dX10_common_3 (by decide) (fun c_3 => ?_) (fun c_3 => ?_)
  · have nb := z_lne c_3
    refine zv_lload_n (j := 1) G dX10_common_10 rfl rfl ?_
    refine zv_lload_n (j := 0) G dX10_common_11 rfl rfl ?_
    refine zv_lload_n (j := 1) G dX10_common_12 rfl rfl ?_
    refine zv_lrem G dX10_common_13 nb ?_
    refine zv_callSl (as := [za_L b, za_L (a - a / b * b)]) G (zc_X10_common_at59 l E b (a - a / b * b) σ hb.1 (z_common (B := 59) ha hb nb) (Or.inl nb)) zk_X10_common zm_1600 rfl ⟨(Nat.le_of_ble_eq_true rfl), (Nat.le_of_ble_eq_true rfl)⟩ ⟨Nat.zero_le _, Nat.zero_le _⟩ (Nat.le_of_ble_eq_true rfl) dX10_common_14 (fun r_14 σ h_14 => ?_)
    obtain ⟨h_14, rfl⟩ := h_14
    exact zv_lret G hr dX10_common_17 ⟨h_14, rfl⟩
  · refine zv_lload_n (j := 0) G dX10_common_6 rfl rfl ?_
    refine zv_goto (tgt := 17) G dX10_common_7 (by decide) ?_
    exact zv_lret G hr dX10_common_17 ⟨(hn.resolve_right (fun h => h (z_leq c_3))), rfl⟩
set_option maxHeartbeats 4000000 in
set_option maxRecDepth 100000 in
theorem zc_X10_common_at61 (l : Launch) (E : za_E) (a : Int64) (b : Int64) (σ : za_S) (ha : 0 ≤ a.toInt) (hb : 0 ≤ b.toInt ∧ b.toInt ≤ 61) (hn : ¬ a = 0 ∨ ¬ b = 0) : zMl l E yX10_common cX10_common 4 (Option.some Jvm.ClassFile.FieldType.long) 62 1424 [za_L a, za_L b] σ (fun r σ' => (¬ r = 0) ∧ σ' = σ) := by
  refine zMl_of [(0, za_L a), (2, za_L b)] (by decide) rfl rfl (Nat.le_of_ble_eq_true rfl) ?_
  intro ho p e s m args below meth c G hr
  refine zv_lload_n (j := 1) G dX10_common_0 rfl rfl ?_
  refine zv_lconst (v := 0) G dX10_common_1 (by decide) ?_
  refine zv_lcmp G dX10_common_2 ?_
  refine zv_if_ne (tgt := 10) G dX10_common_3 (by decide) (fun c_3 => ?_) (fun c_3 => ?_)
  · have nb := z_lne c_3
    refine zv_lload_n (j := 1) G dX10_common_10 rfl rfl ?_
    refine zv_lload_n (j := 0) G dX10_common_11 rfl rfl ?_
    refine zv_lload_n (j := 1) G dX10_common_12 rfl rfl ?_
    refine zv_lrem G dX10_common_13 nb ?_
    refine zv_callSl (as := [za_L b, za_L (a - a / b * b)]) G (zc_X10_common_at60 l E b (a - a / b * b) σ hb.1 (z_common (B := 60) ha hb nb) (Or.inl nb)) zk_X10_common zm_1600 rfl ⟨(Nat.le_of_ble_eq_true rfl), (Nat.le_of_ble_eq_true rfl)⟩ ⟨Nat.zero_le _, Nat.zero_le _⟩ (Nat.le_of_ble_eq_true rfl) dX10_common_14 (fun r_14 σ h_14 => ?_)
    obtain ⟨h_14, rfl⟩ := h_14
    exact zv_lret G hr dX10_common_17 ⟨h_14, rfl⟩
  · refine zv_lload_n (j := 0) G dX10_common_6 rfl rfl ?_
    refine zv_goto (tgt := 17) G dX10_common_7 (by decide) ?_
    exact zv_lret G hr dX10_common_17 ⟨(hn.resolve_right (fun h => h (z_leq c_3))), rfl⟩
set_option maxHeartbeats 4000000 in
set_option maxRecDepth 100000 in
theorem zc_X10_common_at62 (l : Launch) (E : za_E) (a : Int64) (b : Int64) (σ : za_S) (ha : 0 ≤ a.toInt) (hb : 0 ≤ b.toInt ∧ b.toInt ≤ 62) (hn : ¬ a = 0 ∨ ¬ b = 0) : zMl l E yX10_common cX10_common 4 (Option.some Jvm.ClassFile.FieldType.long) 63 1447 [za_L a, za_L b] σ (fun r σ' => (¬ r = 0) ∧ σ' = σ) := by
  refine zMl_of [(0, za_L a), (2, za_L b)] (by decide) rfl rfl (Nat.le_of_ble_eq_true rfl) ?_
  intro ho p e s m args below meth c G hr
  refine zv_lload_n (j := 1) G dX10_common_0 rfl rfl ?_
  refine zv_lconst (v := 0) G dX10_common_1 (by decide) ?_
  refine zv_lcmp G dX10_common_2 ?_
  refine zv_if_ne (tgt := 10) G dX10_common_3 (by decide) (fun c_3 => ?_) (fun c_3 => ?_)
  · have nb := z_lne c_3
    refine zv_lload_n (j := 1) G dX10_common_10 rfl rfl ?_
    refine zv_lload_n (j := 0) G dX10_common_11 rfl rfl ?_
    refine zv_lload_n (j := 1) G dX10_common_12 rfl rfl ?_
    refine zv_lrem G dX10_common_13 nb ?_
    refine zv_callSl (as := [za_L b, za_L (a - a / b * b)]) G (zc_X10_common_at61 l E b (a - a / b * b) σ hb.1 (z_common (B := 61) ha hb nb) (Or.inl nb)) zk_X10_common zm_1600 rfl ⟨(Nat.le_of_ble_eq_true rfl), (Nat.le_of_ble_eq_true rfl)⟩ ⟨Nat.zero_le _, Nat.zero_le _⟩ (Nat.le_of_ble_eq_true rfl) dX10_common_14 (fun r_14 σ h_14 => ?_)
    obtain ⟨h_14, rfl⟩ := h_14
    exact zv_lret G hr dX10_common_17 ⟨h_14, rfl⟩
  · refine zv_lload_n (j := 0) G dX10_common_6 rfl rfl ?_
    refine zv_goto (tgt := 17) G dX10_common_7 (by decide) ?_
    exact zv_lret G hr dX10_common_17 ⟨(hn.resolve_right (fun h => h (z_leq c_3))), rfl⟩
set_option maxHeartbeats 4000000 in
set_option maxRecDepth 100000 in
theorem zc_X10_common_at63 (l : Launch) (E : za_E) (a : Int64) (b : Int64) (σ : za_S) (ha : 0 ≤ a.toInt) (hb : 0 ≤ b.toInt ∧ b.toInt ≤ 63) (hn : ¬ a = 0 ∨ ¬ b = 0) : zMl l E yX10_common cX10_common 4 (Option.some Jvm.ClassFile.FieldType.long) 64 1470 [za_L a, za_L b] σ (fun r σ' => (¬ r = 0) ∧ σ' = σ) := by
  refine zMl_of [(0, za_L a), (2, za_L b)] (by decide) rfl rfl (Nat.le_of_ble_eq_true rfl) ?_
  intro ho p e s m args below meth c G hr
  refine zv_lload_n (j := 1) G dX10_common_0 rfl rfl ?_
  refine zv_lconst (v := 0) G dX10_common_1 (by decide) ?_
  refine zv_lcmp G dX10_common_2 ?_
  refine zv_if_ne (tgt := 10) G dX10_common_3 (by decide) (fun c_3 => ?_) (fun c_3 => ?_)
  · have nb := z_lne c_3
    refine zv_lload_n (j := 1) G dX10_common_10 rfl rfl ?_
    refine zv_lload_n (j := 0) G dX10_common_11 rfl rfl ?_
    refine zv_lload_n (j := 1) G dX10_common_12 rfl rfl ?_
    refine zv_lrem G dX10_common_13 nb ?_
    refine zv_callSl (as := [za_L b, za_L (a - a / b * b)]) G (zc_X10_common_at62 l E b (a - a / b * b) σ hb.1 (z_common (B := 62) ha hb nb) (Or.inl nb)) zk_X10_common zm_1600 rfl ⟨(Nat.le_of_ble_eq_true rfl), (Nat.le_of_ble_eq_true rfl)⟩ ⟨Nat.zero_le _, Nat.zero_le _⟩ (Nat.le_of_ble_eq_true rfl) dX10_common_14 (fun r_14 σ h_14 => ?_)
    obtain ⟨h_14, rfl⟩ := h_14
    exact zv_lret G hr dX10_common_17 ⟨h_14, rfl⟩
  · refine zv_lload_n (j := 0) G dX10_common_6 rfl rfl ?_
    refine zv_goto (tgt := 17) G dX10_common_7 (by decide) ?_
    exact zv_lret G hr dX10_common_17 ⟨(hn.resolve_right (fun h => h (z_leq c_3))), rfl⟩
set_option maxHeartbeats 4000000 in
set_option maxRecDepth 100000 in
theorem zc_X10_common_at64 (l : Launch) (E : za_E) (a : Int64) (b : Int64) (σ : za_S) (ha : 0 ≤ a.toInt) (hb : 0 ≤ b.toInt ∧ b.toInt ≤ 64) (hn : ¬ a = 0 ∨ ¬ b = 0) : zMl l E yX10_common cX10_common 4 (Option.some Jvm.ClassFile.FieldType.long) 65 1493 [za_L a, za_L b] σ (fun r σ' => (¬ r = 0) ∧ σ' = σ) := by
  refine zMl_of [(0, za_L a), (2, za_L b)] (by decide) rfl rfl (Nat.le_of_ble_eq_true rfl) ?_
  intro ho p e s m args below meth c G hr
  refine zv_lload_n (j := 1) G dX10_common_0 rfl rfl ?_
  refine zv_lconst (v := 0) G dX10_common_1 (by decide) ?_
  refine zv_lcmp G dX10_common_2 ?_
  refine zv_if_ne (tgt := 10) G dX10_common_3 (by decide) (fun c_3 => ?_) (fun c_3 => ?_)
  · have nb := z_lne c_3
    refine zv_lload_n (j := 1) G dX10_common_10 rfl rfl ?_
    refine zv_lload_n (j := 0) G dX10_common_11 rfl rfl ?_
    refine zv_lload_n (j := 1) G dX10_common_12 rfl rfl ?_
    refine zv_lrem G dX10_common_13 nb ?_
    refine zv_callSl (as := [za_L b, za_L (a - a / b * b)]) G (zc_X10_common_at63 l E b (a - a / b * b) σ hb.1 (z_common (B := 63) ha hb nb) (Or.inl nb)) zk_X10_common zm_1600 rfl ⟨(Nat.le_of_ble_eq_true rfl), (Nat.le_of_ble_eq_true rfl)⟩ ⟨Nat.zero_le _, Nat.zero_le _⟩ (Nat.le_of_ble_eq_true rfl) dX10_common_14 (fun r_14 σ h_14 => ?_)
    obtain ⟨h_14, rfl⟩ := h_14
    exact zv_lret G hr dX10_common_17 ⟨h_14, rfl⟩
  · refine zv_lload_n (j := 0) G dX10_common_6 rfl rfl ?_
    refine zv_goto (tgt := 17) G dX10_common_7 (by decide) ?_
    exact zv_lret G hr dX10_common_17 ⟨(hn.resolve_right (fun h => h (z_leq c_3))), rfl⟩
set_option maxHeartbeats 4000000 in
set_option maxRecDepth 100000 in
theorem zc_X10_common_at65 (l : Launch) (E : za_E) (a : Int64) (b : Int64) (σ : za_S) (ha : 0 ≤ a.toInt) (hb : 0 ≤ b.toInt ∧ b.toInt ≤ 65) (hn : ¬ a = 0 ∨ ¬ b = 0) : zMl l E yX10_common cX10_common 4 (Option.some Jvm.ClassFile.FieldType.long) 66 1516 [za_L a, za_L b] σ (fun r σ' => (¬ r = 0) ∧ σ' = σ) := by
  refine zMl_of [(0, za_L a), (2, za_L b)] (by decide) rfl rfl (Nat.le_of_ble_eq_true rfl) ?_
  intro ho p e s m args below meth c G hr
  refine zv_lload_n (j := 1) G dX10_common_0 rfl rfl ?_
  refine zv_lconst (v := 0) G dX10_common_1 (by decide) ?_
  refine zv_lcmp G dX10_common_2 ?_
  refine zv_if_ne (tgt := 10) G dX10_common_3 (by decide) (fun c_3 => ?_) (fun c_3 => ?_)
  · have nb := z_lne c_3
    refine zv_lload_n (j := 1) G dX10_common_10 rfl rfl ?_
    refine zv_lload_n (j := 0) G dX10_common_11 rfl rfl ?_
    refine zv_lload_n (j := 1) G dX10_common_12 rfl rfl ?_
    refine zv_lrem G dX10_common_13 nb ?_
    refine zv_callSl (as := [za_L b, za_L (a - a / b * b)]) G (zc_X10_common_at64 l E b (a - a / b * b) σ hb.1 (z_common (B := 64) ha hb nb) (Or.inl nb)) zk_X10_common zm_1600 rfl ⟨(Nat.le_of_ble_eq_true rfl), (Nat.le_of_ble_eq_true rfl)⟩ ⟨Nat.zero_le _, Nat.zero_le _⟩ (Nat.le_of_ble_eq_true rfl) dX10_common_14 (fun r_14 σ h_14 => ?_)
    obtain ⟨h_14, rfl⟩ := h_14
    exact zv_lret G hr dX10_common_17 ⟨h_14, rfl⟩
  · refine zv_lload_n (j := 0) G dX10_common_6 rfl rfl ?_
    refine zv_goto (tgt := 17) G dX10_common_7 (by decide) ?_
    exact zv_lret G hr dX10_common_17 ⟨(hn.resolve_right (fun h => h (z_leq c_3))), rfl⟩
set_option maxHeartbeats 4000000 in
set_option maxRecDepth 100000 in
theorem zc_X10_common_at66 (l : Launch) (E : za_E) (a : Int64) (b : Int64) (σ : za_S) (ha : 0 ≤ a.toInt) (hb : 0 ≤ b.toInt ∧ b.toInt ≤ 66) (hn : ¬ a = 0 ∨ ¬ b = 0) : zMl l E yX10_common cX10_common 4 (Option.some Jvm.ClassFile.FieldType.long) 67 1539 [za_L a, za_L b] σ (fun r σ' => (¬ r = 0) ∧ σ' = σ) := by
  refine zMl_of [(0, za_L a), (2, za_L b)] (by decide) rfl rfl (Nat.le_of_ble_eq_true rfl) ?_
  intro ho p e s m args below meth c G hr
  refine zv_lload_n (j := 1) G dX10_common_0 rfl rfl ?_
  refine zv_lconst (v := 0) G dX10_common_1 (by decide) ?_
  refine zv_lcmp G dX10_common_2 ?_
  refine zv_if_ne (tgt := 10) G dX10_common_3 (by decide) (fun c_3 => ?_) (fun c_3 => ?_)
  · have nb := z_lne c_3
    refine zv_lload_n (j := 1) G dX10_common_10 rfl rfl ?_
    refine zv_lload_n (j := 0) G dX10_common_11 rfl rfl ?_
    refine zv_lload_n (j := 1) G dX10_common_12 rfl rfl ?_
    refine zv_lrem G dX10_common_13 nb ?_
    refine zv_callSl (as := [za_L b, za_L (a - a / b * b)]) G (zc_X10_common_at65 l E b (a - a / b * b) σ hb.1 (z_common (B := 65) ha hb nb) (Or.inl nb)) zk_X10_common zm_1600 rfl ⟨(Nat.le_of_ble_eq_true rfl), (Nat.le_of_ble_eq_true rfl)⟩ ⟨Nat.zero_le _, Nat.zero_le _⟩ (Nat.le_of_ble_eq_true rfl) dX10_common_14 (fun r_14 σ h_14 => ?_)
    obtain ⟨h_14, rfl⟩ := h_14
    exact zv_lret G hr dX10_common_17 ⟨h_14, rfl⟩
  · refine zv_lload_n (j := 0) G dX10_common_6 rfl rfl ?_
    refine zv_goto (tgt := 17) G dX10_common_7 (by decide) ?_
    exact zv_lret G hr dX10_common_17 ⟨(hn.resolve_right (fun h => h (z_leq c_3))), rfl⟩
set_option maxHeartbeats 4000000 in
set_option maxRecDepth 100000 in
theorem zc_X10_common_at67 (l : Launch) (E : za_E) (a : Int64) (b : Int64) (σ : za_S) (ha : 0 ≤ a.toInt) (hb : 0 ≤ b.toInt ∧ b.toInt ≤ 67) (hn : ¬ a = 0 ∨ ¬ b = 0) : zMl l E yX10_common cX10_common 4 (Option.some Jvm.ClassFile.FieldType.long) 68 1562 [za_L a, za_L b] σ (fun r σ' => (¬ r = 0) ∧ σ' = σ) := by
  refine zMl_of [(0, za_L a), (2, za_L b)] (by decide) rfl rfl (Nat.le_of_ble_eq_true rfl) ?_
  intro ho p e s m args below meth c G hr
  refine zv_lload_n (j := 1) G dX10_common_0 rfl rfl ?_
  refine zv_lconst (v := 0) G dX10_common_1 (by decide) ?_
  refine zv_lcmp G dX10_common_2 ?_
  refine zv_if_ne (tgt := 10) G dX10_common_3 (by decide) (fun c_3 => ?_) (fun c_3 => ?_)
  · have nb := z_lne c_3
    refine zv_lload_n (j := 1) G dX10_common_10 rfl rfl ?_
    refine zv_lload_n (j := 0) G dX10_common_11 rfl rfl ?_
    refine zv_lload_n (j := 1) G dX10_common_12 rfl rfl ?_
    refine zv_lrem G dX10_common_13 nb ?_
    refine zv_callSl (as := [za_L b, za_L (a - a / b * b)]) G (zc_X10_common_at66 l E b (a - a / b * b) σ hb.1 (z_common (B := 66) ha hb nb) (Or.inl nb)) zk_X10_common zm_1600 rfl ⟨(Nat.le_of_ble_eq_true rfl), (Nat.le_of_ble_eq_true rfl)⟩ ⟨Nat.zero_le _, Nat.zero_le _⟩ (Nat.le_of_ble_eq_true rfl) dX10_common_14 (fun r_14 σ h_14 => ?_)
    obtain ⟨h_14, rfl⟩ := h_14
    exact zv_lret G hr dX10_common_17 ⟨h_14, rfl⟩
  · refine zv_lload_n (j := 0) G dX10_common_6 rfl rfl ?_
    refine zv_goto (tgt := 17) G dX10_common_7 (by decide) ?_
    exact zv_lret G hr dX10_common_17 ⟨(hn.resolve_right (fun h => h (z_leq c_3))), rfl⟩
set_option maxHeartbeats 4000000 in
set_option maxRecDepth 100000 in
theorem zc_X10_common_at68 (l : Launch) (E : za_E) (a : Int64) (b : Int64) (σ : za_S) (ha : 0 ≤ a.toInt) (hb : 0 ≤ b.toInt ∧ b.toInt ≤ 68) (hn : ¬ a = 0 ∨ ¬ b = 0) : zMl l E yX10_common cX10_common 4 (Option.some Jvm.ClassFile.FieldType.long) 69 1585 [za_L a, za_L b] σ (fun r σ' => (¬ r = 0) ∧ σ' = σ) := by
  refine zMl_of [(0, za_L a), (2, za_L b)] (by decide) rfl rfl (Nat.le_of_ble_eq_true rfl) ?_
  intro ho p e s m args below meth c G hr
  refine zv_lload_n (j := 1) G dX10_common_0 rfl rfl ?_
  refine zv_lconst (v := 0) G dX10_common_1 (by decide) ?_
  refine zv_lcmp G dX10_common_2 ?_
  refine zv_if_ne (tgt := 10) G dX10_common_3 (by decide) (fun c_3 => ?_) (fun c_3 => ?_)
  · have nb := z_lne c_3
    refine zv_lload_n (j := 1) G dX10_common_10 rfl rfl ?_
    refine zv_lload_n (j := 0) G dX10_common_11 rfl rfl ?_
    refine zv_lload_n (j := 1) G dX10_common_12 rfl rfl ?_
    refine zv_lrem G dX10_common_13 nb ?_
    refine zv_callSl (as := [za_L b, za_L (a - a / b * b)]) G (zc_X10_common_at67 l E b (a - a / b * b) σ hb.1 (z_common (B := 67) ha hb nb) (Or.inl nb)) zk_X10_common zm_1600 rfl ⟨(Nat.le_of_ble_eq_true rfl), (Nat.le_of_ble_eq_true rfl)⟩ ⟨Nat.zero_le _, Nat.zero_le _⟩ (Nat.le_of_ble_eq_true rfl) dX10_common_14 (fun r_14 σ h_14 => ?_)
    obtain ⟨h_14, rfl⟩ := h_14
    exact zv_lret G hr dX10_common_17 ⟨h_14, rfl⟩
  · refine zv_lload_n (j := 0) G dX10_common_6 rfl rfl ?_
    refine zv_goto (tgt := 17) G dX10_common_7 (by decide) ?_
    exact zv_lret G hr dX10_common_17 ⟨(hn.resolve_right (fun h => h (z_leq c_3))), rfl⟩
set_option maxHeartbeats 4000000 in
set_option maxRecDepth 100000 in
theorem zc_X10_common_at69 (l : Launch) (E : za_E) (a : Int64) (b : Int64) (σ : za_S) (ha : 0 ≤ a.toInt) (hb : 0 ≤ b.toInt ∧ b.toInt ≤ 69) (hn : ¬ a = 0 ∨ ¬ b = 0) : zMl l E yX10_common cX10_common 4 (Option.some Jvm.ClassFile.FieldType.long) 70 1608 [za_L a, za_L b] σ (fun r σ' => (¬ r = 0) ∧ σ' = σ) := by
  refine zMl_of [(0, za_L a), (2, za_L b)] (by decide) rfl rfl (Nat.le_of_ble_eq_true rfl) ?_
  intro ho p e s m args below meth c G hr
  refine zv_lload_n (j := 1) G dX10_common_0 rfl rfl ?_
  refine zv_lconst (v := 0) G dX10_common_1 (by decide) ?_
  refine zv_lcmp G dX10_common_2 ?_
  refine zv_if_ne (tgt := 10) G dX10_common_3 (by decide) (fun c_3 => ?_) (fun c_3 => ?_)
  · have nb := z_lne c_3
    refine zv_lload_n (j := 1) G dX10_common_10 rfl rfl ?_
    refine zv_lload_n (j := 0) G dX10_common_11 rfl rfl ?_
    refine zv_lload_n (j := 1) G dX10_common_12 rfl rfl ?_
    refine zv_lrem G dX10_common_13 nb ?_
    refine zv_callSl (as := [za_L b, za_L (a - a / b * b)]) G (zc_X10_common_at68 l E b (a - a / b * b) σ hb.1 (z_common (B := 68) ha hb nb) (Or.inl nb)) zk_X10_common zm_1600 rfl ⟨(Nat.le_of_ble_eq_true rfl), (Nat.le_of_ble_eq_true rfl)⟩ ⟨Nat.zero_le _, Nat.zero_le _⟩ (Nat.le_of_ble_eq_true rfl) dX10_common_14 (fun r_14 σ h_14 => ?_)
    obtain ⟨h_14, rfl⟩ := h_14
    exact zv_lret G hr dX10_common_17 ⟨h_14, rfl⟩
  · refine zv_lload_n (j := 0) G dX10_common_6 rfl rfl ?_
    refine zv_goto (tgt := 17) G dX10_common_7 (by decide) ?_
    exact zv_lret G hr dX10_common_17 ⟨(hn.resolve_right (fun h => h (z_leq c_3))), rfl⟩
set_option maxHeartbeats 4000000 in
set_option maxRecDepth 100000 in
theorem zc_X10_common_at70 (l : Launch) (E : za_E) (a : Int64) (b : Int64) (σ : za_S) (ha : 0 ≤ a.toInt) (hb : 0 ≤ b.toInt ∧ b.toInt ≤ 70) (hn : ¬ a = 0 ∨ ¬ b = 0) : zMl l E yX10_common cX10_common 4 (Option.some Jvm.ClassFile.FieldType.long) 71 1631 [za_L a, za_L b] σ (fun r σ' => (¬ r = 0) ∧ σ' = σ) := by
  refine zMl_of [(0, za_L a), (2, za_L b)] (by decide) rfl rfl (Nat.le_of_ble_eq_true rfl) ?_
  intro ho p e s m args below meth c G hr
  refine zv_lload_n (j := 1) G dX10_common_0 rfl rfl ?_
  refine zv_lconst (v := 0) G dX10_common_1 (by decide) ?_
  refine zv_lcmp G dX10_common_2 ?_
  refine zv_if_ne (tgt := 10) G dX10_common_3 (by decide) (fun c_3 => ?_) (fun c_3 => ?_)
  · have nb := z_lne c_3
    refine zv_lload_n (j := 1) G dX10_common_10 rfl rfl ?_
    refine zv_lload_n (j := 0) G dX10_common_11 rfl rfl ?_
    refine zv_lload_n (j := 1) G dX10_common_12 rfl rfl ?_
    refine zv_lrem G dX10_common_13 nb ?_
    refine zv_callSl (as := [za_L b, za_L (a - a / b * b)]) G (zc_X10_common_at69 l E b (a - a / b * b) σ hb.1 (z_common (B := 69) ha hb nb) (Or.inl nb)) zk_X10_common zm_1600 rfl ⟨(Nat.le_of_ble_eq_true rfl), (Nat.le_of_ble_eq_true rfl)⟩ ⟨Nat.zero_le _, Nat.zero_le _⟩ (Nat.le_of_ble_eq_true rfl) dX10_common_14 (fun r_14 σ h_14 => ?_)
    obtain ⟨h_14, rfl⟩ := h_14
    exact zv_lret G hr dX10_common_17 ⟨h_14, rfl⟩
  · refine zv_lload_n (j := 0) G dX10_common_6 rfl rfl ?_
    refine zv_goto (tgt := 17) G dX10_common_7 (by decide) ?_
    exact zv_lret G hr dX10_common_17 ⟨(hn.resolve_right (fun h => h (z_leq c_3))), rfl⟩
set_option maxHeartbeats 4000000 in
set_option maxRecDepth 100000 in
theorem zc_X10_common_at71 (l : Launch) (E : za_E) (a : Int64) (b : Int64) (σ : za_S) (ha : 0 ≤ a.toInt) (hb : 0 ≤ b.toInt ∧ b.toInt ≤ 71) (hn : ¬ a = 0 ∨ ¬ b = 0) : zMl l E yX10_common cX10_common 4 (Option.some Jvm.ClassFile.FieldType.long) 72 1654 [za_L a, za_L b] σ (fun r σ' => (¬ r = 0) ∧ σ' = σ) := by
  refine zMl_of [(0, za_L a), (2, za_L b)] (by decide) rfl rfl (Nat.le_of_ble_eq_true rfl) ?_
  intro ho p e s m args below meth c G hr
  refine zv_lload_n (j := 1) G dX10_common_0 rfl rfl ?_
  refine zv_lconst (v := 0) G dX10_common_1 (by decide) ?_
  refine zv_lcmp G dX10_common_2 ?_
  refine zv_if_ne (tgt := 10) G dX10_common_3 (by decide) (fun c_3 => ?_) (fun c_3 => ?_)
  · have nb := z_lne c_3
    refine zv_lload_n (j := 1) G dX10_common_10 rfl rfl ?_
    refine zv_lload_n (j := 0) G dX10_common_11 rfl rfl ?_
    refine zv_lload_n (j := 1) G dX10_common_12 rfl rfl ?_
    refine zv_lrem G dX10_common_13 nb ?_
    refine zv_callSl (as := [za_L b, za_L (a - a / b * b)]) G (zc_X10_common_at70 l E b (a - a / b * b) σ hb.1 (z_common (B := 70) ha hb nb) (Or.inl nb)) zk_X10_common zm_1600 rfl ⟨(Nat.le_of_ble_eq_true rfl), (Nat.le_of_ble_eq_true rfl)⟩ ⟨Nat.zero_le _, Nat.zero_le _⟩ (Nat.le_of_ble_eq_true rfl) dX10_common_14 (fun r_14 σ h_14 => ?_)
    obtain ⟨h_14, rfl⟩ := h_14
    exact zv_lret G hr dX10_common_17 ⟨h_14, rfl⟩
  · refine zv_lload_n (j := 0) G dX10_common_6 rfl rfl ?_
    refine zv_goto (tgt := 17) G dX10_common_7 (by decide) ?_
    exact zv_lret G hr dX10_common_17 ⟨(hn.resolve_right (fun h => h (z_leq c_3))), rfl⟩
set_option maxHeartbeats 4000000 in
set_option maxRecDepth 100000 in
theorem zc_X10_common_at72 (l : Launch) (E : za_E) (a : Int64) (b : Int64) (σ : za_S) (ha : 0 ≤ a.toInt) (hb : 0 ≤ b.toInt ∧ b.toInt ≤ 72) (hn : ¬ a = 0 ∨ ¬ b = 0) : zMl l E yX10_common cX10_common 4 (Option.some Jvm.ClassFile.FieldType.long) 73 1677 [za_L a, za_L b] σ (fun r σ' => (¬ r = 0) ∧ σ' = σ) := by
  refine zMl_of [(0, za_L a), (2, za_L b)] (by decide) rfl rfl (Nat.le_of_ble_eq_true rfl) ?_
  intro ho p e s m args below meth c G hr
  refine zv_lload_n (j := 1) G dX10_common_0 rfl rfl ?_
  refine zv_lconst (v := 0) G dX10_common_1 (by decide) ?_
  refine zv_lcmp G dX10_common_2 ?_
  refine zv_if_ne (tgt := 10) G dX10_common_3 (by decide) (fun c_3 => ?_) (fun c_3 => ?_)
  · have nb := z_lne c_3
    refine zv_lload_n (j := 1) G dX10_common_10 rfl rfl ?_
    refine zv_lload_n (j := 0) G dX10_common_11 rfl rfl ?_
    refine zv_lload_n (j := 1) G dX10_common_12 rfl rfl ?_
    refine zv_lrem G dX10_common_13 nb ?_
    refine zv_callSl (as := [za_L b, za_L (a - a / b * b)]) G (zc_X10_common_at71 l E b (a - a / b * b) σ hb.1 (z_common (B := 71) ha hb nb) (Or.inl nb)) zk_X10_common zm_1600 rfl ⟨(Nat.le_of_ble_eq_true rfl), (Nat.le_of_ble_eq_true rfl)⟩ ⟨Nat.zero_le _, Nat.zero_le _⟩ (Nat.le_of_ble_eq_true rfl) dX10_common_14 (fun r_14 σ h_14 => ?_)
    obtain ⟨h_14, rfl⟩ := h_14
    exact zv_lret G hr dX10_common_17 ⟨h_14, rfl⟩
  · refine zv_lload_n (j := 0) G dX10_common_6 rfl rfl ?_
    refine zv_goto (tgt := 17) G dX10_common_7 (by decide) ?_
    exact zv_lret G hr dX10_common_17 ⟨(hn.resolve_right (fun h => h (z_leq c_3))), rfl⟩
set_option maxHeartbeats 4000000 in
set_option maxRecDepth 100000 in
theorem zc_X10_common_at73 (l : Launch) (E : za_E) (a : Int64) (b : Int64) (σ : za_S) (ha : 0 ≤ a.toInt) (hb : 0 ≤ b.toInt ∧ b.toInt ≤ 73) (hn : ¬ a = 0 ∨ ¬ b = 0) : zMl l E yX10_common cX10_common 4 (Option.some Jvm.ClassFile.FieldType.long) 74 1700 [za_L a, za_L b] σ (fun r σ' => (¬ r = 0) ∧ σ' = σ) := by
  refine zMl_of [(0, za_L a), (2, za_L b)] (by decide) rfl rfl (Nat.le_of_ble_eq_true rfl) ?_
  intro ho p e s m args below meth c G hr
  refine zv_lload_n (j := 1) G dX10_common_0 rfl rfl ?_
  refine zv_lconst (v := 0) G dX10_common_1 (by decide) ?_
  refine zv_lcmp G dX10_common_2 ?_
  refine zv_if_ne (tgt := 10) G dX10_common_3 (by decide) (fun c_3 => ?_) (fun c_3 => ?_)
  · have nb := z_lne c_3
    refine zv_lload_n (j := 1) G dX10_common_10 rfl rfl ?_
    refine zv_lload_n (j := 0) G dX10_common_11 rfl rfl ?_
    refine zv_lload_n (j := 1) G dX10_common_12 rfl rfl ?_
    refine zv_lrem G dX10_common_13 nb ?_
    refine zv_callSl (as := [za_L b, za_L (a - a / b * b)]) G (zc_X10_common_at72 l E b (a - a / b * b) σ hb.1 (z_common (B := 72) ha hb nb) (Or.inl nb)) zk_X10_common zm_1600 rfl ⟨(Nat.le_of_ble_eq_true rfl), (Nat.le_of_ble_eq_true rfl)⟩ ⟨Nat.zero_le _, Nat.zero_le _⟩ (Nat.le_of_ble_eq_true rfl) dX10_common_14 (fun r_14 σ h_14 => ?_)
    obtain ⟨h_14, rfl⟩ := h_14
    exact zv_lret G hr dX10_common_17 ⟨h_14, rfl⟩
  · refine zv_lload_n (j := 0) G dX10_common_6 rfl rfl ?_
    refine zv_goto (tgt := 17) G dX10_common_7 (by decide) ?_
    exact zv_lret G hr dX10_common_17 ⟨(hn.resolve_right (fun h => h (z_leq c_3))), rfl⟩
set_option maxHeartbeats 4000000 in
set_option maxRecDepth 100000 in
theorem zc_X10_common_at74 (l : Launch) (E : za_E) (a : Int64) (b : Int64) (σ : za_S) (ha : 0 ≤ a.toInt) (hb : 0 ≤ b.toInt ∧ b.toInt ≤ 74) (hn : ¬ a = 0 ∨ ¬ b = 0) : zMl l E yX10_common cX10_common 4 (Option.some Jvm.ClassFile.FieldType.long) 75 1723 [za_L a, za_L b] σ (fun r σ' => (¬ r = 0) ∧ σ' = σ) := by
  refine zMl_of [(0, za_L a), (2, za_L b)] (by decide) rfl rfl (Nat.le_of_ble_eq_true rfl) ?_
  intro ho p e s m args below meth c G hr
  refine zv_lload_n (j := 1) G dX10_common_0 rfl rfl ?_
  refine zv_lconst (v := 0) G dX10_common_1 (by decide) ?_
  refine zv_lcmp G dX10_common_2 ?_
  refine zv_if_ne (tgt := 10) G dX10_common_3 (by decide) (fun c_3 => ?_) (fun c_3 => ?_)
  · have nb := z_lne c_3
    refine zv_lload_n (j := 1) G dX10_common_10 rfl rfl ?_
    refine zv_lload_n (j := 0) G dX10_common_11 rfl rfl ?_
    refine zv_lload_n (j := 1) G dX10_common_12 rfl rfl ?_
    refine zv_lrem G dX10_common_13 nb ?_
    refine zv_callSl (as := [za_L b, za_L (a - a / b * b)]) G (zc_X10_common_at73 l E b (a - a / b * b) σ hb.1 (z_common (B := 73) ha hb nb) (Or.inl nb)) zk_X10_common zm_1600 rfl ⟨(Nat.le_of_ble_eq_true rfl), (Nat.le_of_ble_eq_true rfl)⟩ ⟨Nat.zero_le _, Nat.zero_le _⟩ (Nat.le_of_ble_eq_true rfl) dX10_common_14 (fun r_14 σ h_14 => ?_)
    obtain ⟨h_14, rfl⟩ := h_14
    exact zv_lret G hr dX10_common_17 ⟨h_14, rfl⟩
  · refine zv_lload_n (j := 0) G dX10_common_6 rfl rfl ?_
    refine zv_goto (tgt := 17) G dX10_common_7 (by decide) ?_
    exact zv_lret G hr dX10_common_17 ⟨(hn.resolve_right (fun h => h (z_leq c_3))), rfl⟩
set_option maxHeartbeats 4000000 in
set_option maxRecDepth 100000 in
theorem zc_X10_common_at75 (l : Launch) (E : za_E) (a : Int64) (b : Int64) (σ : za_S) (ha : 0 ≤ a.toInt) (hb : 0 ≤ b.toInt ∧ b.toInt ≤ 75) (hn : ¬ a = 0 ∨ ¬ b = 0) : zMl l E yX10_common cX10_common 4 (Option.some Jvm.ClassFile.FieldType.long) 76 1746 [za_L a, za_L b] σ (fun r σ' => (¬ r = 0) ∧ σ' = σ) := by
  refine zMl_of [(0, za_L a), (2, za_L b)] (by decide) rfl rfl (Nat.le_of_ble_eq_true rfl) ?_
  intro ho p e s m args below meth c G hr
  refine zv_lload_n (j := 1) G dX10_common_0 rfl rfl ?_
  refine zv_lconst (v := 0) G dX10_common_1 (by decide) ?_
  refine zv_lcmp G dX10_common_2 ?_
  refine zv_if_ne (tgt := 10) G dX10_common_3 (by decide) (fun c_3 => ?_) (fun c_3 => ?_)
  · have nb := z_lne c_3
    refine zv_lload_n (j := 1) G dX10_common_10 rfl rfl ?_
    refine zv_lload_n (j := 0) G dX10_common_11 rfl rfl ?_
    refine zv_lload_n (j := 1) G dX10_common_12 rfl rfl ?_
    refine zv_lrem G dX10_common_13 nb ?_
    refine zv_callSl (as := [za_L b, za_L (a - a / b * b)]) G (zc_X10_common_at74 l E b (a - a / b * b) σ hb.1 (z_common (B := 74) ha hb nb) (Or.inl nb)) zk_X10_common zm_1600 rfl ⟨(Nat.le_of_ble_eq_true rfl), (Nat.le_of_ble_eq_true rfl)⟩ ⟨Nat.zero_le _, Nat.zero_le _⟩ (Nat.le_of_ble_eq_true rfl) dX10_common_14 (fun r_14 σ h_14 => ?_)
    obtain ⟨h_14, rfl⟩ := h_14
    exact zv_lret G hr dX10_common_17 ⟨h_14, rfl⟩
  · refine zv_lload_n (j := 0) G dX10_common_6 rfl rfl ?_
    refine zv_goto (tgt := 17) G dX10_common_7 (by decide) ?_
    exact zv_lret G hr dX10_common_17 ⟨(hn.resolve_right (fun h => h (z_leq c_3))), rfl⟩
set_option maxHeartbeats 4000000 in
set_option maxRecDepth 100000 in
theorem zc_X10_common_at76 (l : Launch) (E : za_E) (a : Int64) (b : Int64) (σ : za_S) (ha : 0 ≤ a.toInt) (hb : 0 ≤ b.toInt ∧ b.toInt ≤ 76) (hn : ¬ a = 0 ∨ ¬ b = 0) : zMl l E yX10_common cX10_common 4 (Option.some Jvm.ClassFile.FieldType.long) 77 1769 [za_L a, za_L b] σ (fun r σ' => (¬ r = 0) ∧ σ' = σ) := by
  refine zMl_of [(0, za_L a), (2, za_L b)] (by decide) rfl rfl (Nat.le_of_ble_eq_true rfl) ?_
  intro ho p e s m args below meth c G hr
  refine zv_lload_n (j := 1) G dX10_common_0 rfl rfl ?_
  refine zv_lconst (v := 0) G dX10_common_1 (by decide) ?_
  refine zv_lcmp G dX10_common_2 ?_
  refine zv_if_ne (tgt := 10) G dX10_common_3 (by decide) (fun c_3 => ?_) (fun c_3 => ?_)
  · have nb := z_lne c_3
    refine zv_lload_n (j := 1) G dX10_common_10 rfl rfl ?_
    refine zv_lload_n (j := 0) G dX10_common_11 rfl rfl ?_
    refine zv_lload_n (j := 1) G dX10_common_12 rfl rfl ?_
    refine zv_lrem G dX10_common_13 nb ?_
    refine zv_callSl (as := [za_L b, za_L (a - a / b * b)]) G (zc_X10_common_at75 l E b (a - a / b * b) σ hb.1 (z_common (B := 75) ha hb nb) (Or.inl nb)) zk_X10_common zm_1600 rfl ⟨(Nat.le_of_ble_eq_true rfl), (Nat.le_of_ble_eq_true rfl)⟩ ⟨Nat.zero_le _, Nat.zero_le _⟩ (Nat.le_of_ble_eq_true rfl) dX10_common_14 (fun r_14 σ h_14 => ?_)
    obtain ⟨h_14, rfl⟩ := h_14
    exact zv_lret G hr dX10_common_17 ⟨h_14, rfl⟩
  · refine zv_lload_n (j := 0) G dX10_common_6 rfl rfl ?_
    refine zv_goto (tgt := 17) G dX10_common_7 (by decide) ?_
    exact zv_lret G hr dX10_common_17 ⟨(hn.resolve_right (fun h => h (z_leq c_3))), rfl⟩
set_option maxHeartbeats 4000000 in
set_option maxRecDepth 100000 in
theorem zc_X10_common_at77 (l : Launch) (E : za_E) (a : Int64) (b : Int64) (σ : za_S) (ha : 0 ≤ a.toInt) (hb : 0 ≤ b.toInt ∧ b.toInt ≤ 77) (hn : ¬ a = 0 ∨ ¬ b = 0) : zMl l E yX10_common cX10_common 4 (Option.some Jvm.ClassFile.FieldType.long) 78 1792 [za_L a, za_L b] σ (fun r σ' => (¬ r = 0) ∧ σ' = σ) := by
  refine zMl_of [(0, za_L a), (2, za_L b)] (by decide) rfl rfl (Nat.le_of_ble_eq_true rfl) ?_
  intro ho p e s m args below meth c G hr
  refine zv_lload_n (j := 1) G dX10_common_0 rfl rfl ?_
  refine zv_lconst (v := 0) G dX10_common_1 (by decide) ?_
  refine zv_lcmp G dX10_common_2 ?_
  refine zv_if_ne (tgt := 10) G dX10_common_3 (by decide) (fun c_3 => ?_) (fun c_3 => ?_)
  · have nb := z_lne c_3
    refine zv_lload_n (j := 1) G dX10_common_10 rfl rfl ?_
    refine zv_lload_n (j := 0) G dX10_common_11 rfl rfl ?_
    refine zv_lload_n (j := 1) G dX10_common_12 rfl rfl ?_
    refine zv_lrem G dX10_common_13 nb ?_
    refine zv_callSl (as := [za_L b, za_L (a - a / b * b)]) G (zc_X10_common_at76 l E b (a - a / b * b) σ hb.1 (z_common (B := 76) ha hb nb) (Or.inl nb)) zk_X10_common zm_1600 rfl ⟨(Nat.le_of_ble_eq_true rfl), (Nat.le_of_ble_eq_true rfl)⟩ ⟨Nat.zero_le _, Nat.zero_le _⟩ (Nat.le_of_ble_eq_true rfl) dX10_common_14 (fun r_14 σ h_14 => ?_)
    obtain ⟨h_14, rfl⟩ := h_14
    exact zv_lret G hr dX10_common_17 ⟨h_14, rfl⟩
  · refine zv_lload_n (j := 0) G dX10_common_6 rfl rfl ?_
    refine zv_goto (tgt := 17) G dX10_common_7 (by decide) ?_
    exact zv_lret G hr dX10_common_17 ⟨(hn.resolve_right (fun h => h (z_leq c_3))), rfl⟩
set_option maxHeartbeats 4000000 in
set_option maxRecDepth 100000 in
theorem zc_X10_common_at78 (l : Launch) (E : za_E) (a : Int64) (b : Int64) (σ : za_S) (ha : 0 ≤ a.toInt) (hb : 0 ≤ b.toInt ∧ b.toInt ≤ 78) (hn : ¬ a = 0 ∨ ¬ b = 0) : zMl l E yX10_common cX10_common 4 (Option.some Jvm.ClassFile.FieldType.long) 79 1815 [za_L a, za_L b] σ (fun r σ' => (¬ r = 0) ∧ σ' = σ) := by
  refine zMl_of [(0, za_L a), (2, za_L b)] (by decide) rfl rfl (Nat.le_of_ble_eq_true rfl) ?_
  intro ho p e s m args below meth c G hr
  refine zv_lload_n (j := 1) G dX10_common_0 rfl rfl ?_
  refine zv_lconst (v := 0) G dX10_common_1 (by decide) ?_
  refine zv_lcmp G dX10_common_2 ?_
  refine zv_if_ne (tgt := 10) G dX10_common_3 (by decide) (fun c_3 => ?_) (fun c_3 => ?_)
  · have nb := z_lne c_3
    refine zv_lload_n (j := 1) G dX10_common_10 rfl rfl ?_
    refine zv_lload_n (j := 0) G dX10_common_11 rfl rfl ?_
    refine zv_lload_n (j := 1) G dX10_common_12 rfl rfl ?_
    refine zv_lrem G dX10_common_13 nb ?_
    refine zv_callSl (as := [za_L b, za_L (a - a / b * b)]) G (zc_X10_common_at77 l E b (a - a / b * b) σ hb.1 (z_common (B := 77) ha hb nb) (Or.inl nb)) zk_X10_common zm_1600 rfl ⟨(Nat.le_of_ble_eq_true rfl), (Nat.le_of_ble_eq_true rfl)⟩ ⟨Nat.zero_le _, Nat.zero_le _⟩ (Nat.le_of_ble_eq_true rfl) dX10_common_14 (fun r_14 σ h_14 => ?_)
    obtain ⟨h_14, rfl⟩ := h_14
    exact zv_lret G hr dX10_common_17 ⟨h_14, rfl⟩
  · refine zv_lload_n (j := 0) G dX10_common_6 rfl rfl ?_
    refine zv_goto (tgt := 17) G dX10_common_7 (by decide) ?_
    exact zv_lret G hr dX10_common_17 ⟨(hn.resolve_right (fun h => h (z_leq c_3))), rfl⟩
set_option maxHeartbeats 4000000 in
set_option maxRecDepth 100000 in
theorem zc_X10_common_at79 (l : Launch) (E : za_E) (a : Int64) (b : Int64) (σ : za_S) (ha : 0 ≤ a.toInt) (hb : 0 ≤ b.toInt ∧ b.toInt ≤ 79) (hn : ¬ a = 0 ∨ ¬ b = 0) : zMl l E yX10_common cX10_common 4 (Option.some Jvm.ClassFile.FieldType.long) 80 1838 [za_L a, za_L b] σ (fun r σ' => (¬ r = 0) ∧ σ' = σ) := by
  refine zMl_of [(0, za_L a), (2, za_L b)] (by decide) rfl rfl (Nat.le_of_ble_eq_true rfl) ?_
  intro ho p e s m args below meth c G hr
  refine zv_lload_n (j := 1) G dX10_common_0 rfl rfl ?_
  refine zv_lconst (v := 0) G dX10_common_1 (by decide) ?_
  refine zv_lcmp G dX10_common_2 ?_
  refine zv_if_ne (tgt := 10) G dX10_common_3 (by decide) (fun c_3 => ?_) (fun c_3 => ?_)
  · have nb := z_lne c_3
    refine zv_lload_n (j := 1) G dX10_common_10 rfl rfl ?_
    refine zv_lload_n (j := 0) G dX10_common_11 rfl rfl ?_
    refine zv_lload_n (j := 1) G dX10_common_12 rfl rfl ?_
    refine zv_lrem G dX10_common_13 nb ?_
    refine zv_callSl (as := [za_L b, za_L (a - a / b * b)]) G (zc_X10_common_at78 l E b (a - a / b * b) σ hb.1 (z_common (B := 78) ha hb nb) (Or.inl nb)) zk_X10_common zm_1600 rfl ⟨(Nat.le_of_ble_eq_true rfl), (Nat.le_of_ble_eq_true rfl)⟩ ⟨Nat.zero_le _, Nat.zero_le _⟩ (Nat.le_of_ble_eq_true rfl) dX10_common_14 (fun r_14 σ h_14 => ?_)
    obtain ⟨h_14, rfl⟩ := h_14
    exact zv_lret G hr dX10_common_17 ⟨h_14, rfl⟩
  · refine zv_lload_n (j := 0) G dX10_common_6 rfl rfl ?_
    refine zv_goto (tgt := 17) G dX10_common_7 (by decide) ?_
    exact zv_lret G hr dX10_common_17 ⟨(hn.resolve_right (fun h => h (z_leq c_3))), rfl⟩
set_option maxHeartbeats 4000000 in
set_option maxRecDepth 100000 in
theorem zc_X10_common_at80 (l : Launch) (E : za_E) (a : Int64) (b : Int64) (σ : za_S) (ha : 0 ≤ a.toInt) (hb : 0 ≤ b.toInt ∧ b.toInt ≤ 80) (hn : ¬ a = 0 ∨ ¬ b = 0) : zMl l E yX10_common cX10_common 4 (Option.some Jvm.ClassFile.FieldType.long) 81 1861 [za_L a, za_L b] σ (fun r σ' => (¬ r = 0) ∧ σ' = σ) := by
  refine zMl_of [(0, za_L a), (2, za_L b)] (by decide) rfl rfl (Nat.le_of_ble_eq_true rfl) ?_
  intro ho p e s m args below meth c G hr
  refine zv_lload_n (j := 1) G dX10_common_0 rfl rfl ?_
  refine zv_lconst (v := 0) G dX10_common_1 (by decide) ?_
  refine zv_lcmp G dX10_common_2 ?_
  refine zv_if_ne (tgt := 10) G dX10_common_3 (by decide) (fun c_3 => ?_) (fun c_3 => ?_)
  · have nb := z_lne c_3
    refine zv_lload_n (j := 1) G dX10_common_10 rfl rfl ?_
    refine zv_lload_n (j := 0) G dX10_common_11 rfl rfl ?_
    refine zv_lload_n (j := 1) G dX10_common_12 rfl rfl ?_
    refine zv_lrem G dX10_common_13 nb ?_
    refine zv_callSl (as := [za_L b, za_L (a - a / b * b)]) G (zc_X10_common_at79 l E b (a - a / b * b) σ hb.1 (z_common (B := 79) ha hb nb) (Or.inl nb)) zk_X10_common zm_1600 rfl ⟨(Nat.le_of_ble_eq_true rfl), (Nat.le_of_ble_eq_true rfl)⟩ ⟨Nat.zero_le _, Nat.zero_le _⟩ (Nat.le_of_ble_eq_true rfl) dX10_common_14 (fun r_14 σ h_14 => ?_)
    obtain ⟨h_14, rfl⟩ := h_14
    exact zv_lret G hr dX10_common_17 ⟨h_14, rfl⟩
  · refine zv_lload_n (j := 0) G dX10_common_6 rfl rfl ?_
    refine zv_goto (tgt := 17) G dX10_common_7 (by decide) ?_
    exact zv_lret G hr dX10_common_17 ⟨(hn.resolve_right (fun h => h (z_leq c_3))), rfl⟩
set_option maxHeartbeats 4000000 in
set_option maxRecDepth 100000 in
theorem zc_X10_common_at81 (l : Launch) (E : za_E) (a : Int64) (b : Int64) (σ : za_S) (ha : 0 ≤ a.toInt) (hb : 0 ≤ b.toInt ∧ b.toInt ≤ 81) (hn : ¬ a = 0 ∨ ¬ b = 0) : zMl l E yX10_common cX10_common 4 (Option.some Jvm.ClassFile.FieldType.long) 82 1884 [za_L a, za_L b] σ (fun r σ' => (¬ r = 0) ∧ σ' = σ) := by
  refine zMl_of [(0, za_L a), (2, za_L b)] (by decide) rfl rfl (Nat.le_of_ble_eq_true rfl) ?_
  intro ho p e s m args below meth c G hr
  refine zv_lload_n (j := 1) G dX10_common_0 rfl rfl ?_
  refine zv_lconst (v := 0) G dX10_common_1 (by decide) ?_
  refine zv_lcmp G dX10_common_2 ?_
  refine zv_if_ne (tgt := 10) G dX10_common_3 (by decide) (fun c_3 => ?_) (fun c_3 => ?_)
  · have nb := z_lne c_3
    refine zv_lload_n (j := 1) G dX10_common_10 rfl rfl ?_
    refine zv_lload_n (j := 0) G dX10_common_11 rfl rfl ?_
    refine zv_lload_n (j := 1) G dX10_common_12 rfl rfl ?_
    refine zv_lrem G dX10_common_13 nb ?_
    refine zv_callSl (as := [za_L b, za_L (a - a / b * b)]) G (zc_X10_common_at80 l E b (a - a / b * b) σ hb.1 (z_common (B := 80) ha hb nb) (Or.inl nb)) zk_X10_common zm_1600 rfl ⟨(Nat.le_of_ble_eq_true rfl), (Nat.le_of_ble_eq_true rfl)⟩ ⟨Nat.zero_le _, Nat.zero_le _⟩ (Nat.le_of_ble_eq_true rfl) dX10_common_14 (fun r_14 σ h_14 => ?_)
    obtain ⟨h_14, rfl⟩ := h_14
    exact zv_lret G hr dX10_common_17 ⟨h_14, rfl⟩
  · refine zv_lload_n (j := 0) G dX10_common_6 rfl rfl ?_
    refine zv_goto (tgt := 17) G dX10_common_7 (by decide) ?_
    exact zv_lret G hr dX10_common_17 ⟨(hn.resolve_right (fun h => h (z_leq c_3))), rfl⟩
set_option maxHeartbeats 4000000 in
set_option maxRecDepth 100000 in
theorem zc_X10_common_at82 (l : Launch) (E : za_E) (a : Int64) (b : Int64) (σ : za_S) (ha : 0 ≤ a.toInt) (hb : 0 ≤ b.toInt ∧ b.toInt ≤ 82) (hn : ¬ a = 0 ∨ ¬ b = 0) : zMl l E yX10_common cX10_common 4 (Option.some Jvm.ClassFile.FieldType.long) 83 1907 [za_L a, za_L b] σ (fun r σ' => (¬ r = 0) ∧ σ' = σ) := by
  refine zMl_of [(0, za_L a), (2, za_L b)] (by decide) rfl rfl (Nat.le_of_ble_eq_true rfl) ?_
  intro ho p e s m args below meth c G hr
  refine zv_lload_n (j := 1) G dX10_common_0 rfl rfl ?_
  refine zv_lconst (v := 0) G dX10_common_1 (by decide) ?_
  refine zv_lcmp G dX10_common_2 ?_
  refine zv_if_ne (tgt := 10) G dX10_common_3 (by decide) (fun c_3 => ?_) (fun c_3 => ?_)
  · have nb := z_lne c_3
    refine zv_lload_n (j := 1) G dX10_common_10 rfl rfl ?_
    refine zv_lload_n (j := 0) G dX10_common_11 rfl rfl ?_
    refine zv_lload_n (j := 1) G dX10_common_12 rfl rfl ?_
    refine zv_lrem G dX10_common_13 nb ?_
    refine zv_callSl (as := [za_L b, za_L (a - a / b * b)]) G (zc_X10_common_at81 l E b (a - a / b * b) σ hb.1 (z_common (B := 81) ha hb nb) (Or.inl nb)) zk_X10_common zm_1600 rfl ⟨(Nat.le_of_ble_eq_true rfl), (Nat.le_of_ble_eq_true rfl)⟩ ⟨Nat.zero_le _, Nat.zero_le _⟩ (Nat.le_of_ble_eq_true rfl) dX10_common_14 (fun r_14 σ h_14 => ?_)
    obtain ⟨h_14, rfl⟩ := h_14
    exact zv_lret G hr dX10_common_17 ⟨h_14, rfl⟩
  · refine zv_lload_n (j := 0) G dX10_common_6 rfl rfl ?_
    refine zv_goto (tgt := 17) G dX10_common_7 (by decide) ?_
    exact zv_lret G hr dX10_common_17 ⟨(hn.resolve_right (fun h => h (z_leq c_3))), rfl⟩
set_option maxHeartbeats 4000000 in
set_option maxRecDepth 100000 in
theorem zc_X10_common_at83 (l : Launch) (E : za_E) (a : Int64) (b : Int64) (σ : za_S) (ha : 0 ≤ a.toInt) (hb : 0 ≤ b.toInt ∧ b.toInt ≤ 83) (hn : ¬ a = 0 ∨ ¬ b = 0) : zMl l E yX10_common cX10_common 4 (Option.some Jvm.ClassFile.FieldType.long) 84 1930 [za_L a, za_L b] σ (fun r σ' => (¬ r = 0) ∧ σ' = σ) := by
  refine zMl_of [(0, za_L a), (2, za_L b)] (by decide) rfl rfl (Nat.le_of_ble_eq_true rfl) ?_
  intro ho p e s m args below meth c G hr
  refine zv_lload_n (j := 1) G dX10_common_0 rfl rfl ?_
  refine zv_lconst (v := 0) G dX10_common_1 (by decide) ?_
  refine zv_lcmp G dX10_common_2 ?_
  refine zv_if_ne (tgt := 10) G dX10_common_3 (by decide) (fun c_3 => ?_) (fun c_3 => ?_)
  · have nb := z_lne c_3
    refine zv_lload_n (j := 1) G dX10_common_10 rfl rfl ?_
    refine zv_lload_n (j := 0) G dX10_common_11 rfl rfl ?_
    refine zv_lload_n (j := 1) G dX10_common_12 rfl rfl ?_
    refine zv_lrem G dX10_common_13 nb ?_
    refine zv_callSl (as := [za_L b, za_L (a - a / b * b)]) G (zc_X10_common_at82 l E b (a - a / b * b) σ hb.1 (z_common (B := 82) ha hb nb) (Or.inl nb)) zk_X10_common zm_1600 rfl ⟨(Nat.le_of_ble_eq_true rfl), (Nat.le_of_ble_eq_true rfl)⟩ ⟨Nat.zero_le _, Nat.zero_le _⟩ (Nat.le_of_ble_eq_true rfl) dX10_common_14 (fun r_14 σ h_14 => ?_)
    obtain ⟨h_14, rfl⟩ := h_14
    exact zv_lret G hr dX10_common_17 ⟨h_14, rfl⟩
  · refine zv_lload_n (j := 0) G dX10_common_6 rfl rfl ?_
    refine zv_goto (tgt := 17) G dX10_common_7 (by decide) ?_
    exact zv_lret G hr dX10_common_17 ⟨(hn.resolve_right (fun h => h (z_leq c_3))), rfl⟩
set_option maxHeartbeats 4000000 in
set_option maxRecDepth 100000 in
theorem zc_X10_common_at84 (l : Launch) (E : za_E) (a : Int64) (b : Int64) (σ : za_S) (ha : 0 ≤ a.toInt) (hb : 0 ≤ b.toInt ∧ b.toInt ≤ 84) (hn : ¬ a = 0 ∨ ¬ b = 0) : zMl l E yX10_common cX10_common 4 (Option.some Jvm.ClassFile.FieldType.long) 85 1953 [za_L a, za_L b] σ (fun r σ' => (¬ r = 0) ∧ σ' = σ) := by
  refine zMl_of [(0, za_L a), (2, za_L b)] (by decide) rfl rfl (Nat.le_of_ble_eq_true rfl) ?_
  intro ho p e s m args below meth c G hr
  refine zv_lload_n (j := 1) G dX10_common_0 rfl rfl ?_
  refine zv_lconst (v := 0) G dX10_common_1 (by decide) ?_
  refine zv_lcmp G dX10_common_2 ?_
  refine zv_if_ne (tgt := 10) G dX10_common_3 (by decide) (fun c_3 => ?_) (fun c_3 => ?_)
  · have nb := z_lne c_3
    refine zv_lload_n (j := 1) G dX10_common_10 rfl rfl ?_
    refine zv_lload_n (j := 0) G dX10_common_11 rfl rfl ?_
    refine zv_lload_n (j := 1) G dX10_common_12 rfl rfl ?_
    refine zv_lrem G dX10_common_13 nb ?_
    refine zv_callSl (as := [za_L b, za_L (a - a / b * b)]) G (zc_X10_common_at83 l E b (a - a / b * b) σ hb.1 (z_common (B := 83) ha hb nb) (Or.inl nb)) zk_X10_common zm_1600 rfl ⟨(Nat.le_of_ble_eq_true rfl), (Nat.le_of_ble_eq_true rfl)⟩ ⟨Nat.zero_le _, Nat.zero_le _⟩ (Nat.le_of_ble_eq_true rfl) dX10_common_14 (fun r_14 σ h_14 => ?_)
    obtain ⟨h_14, rfl⟩ := h_14
    exact zv_lret G hr dX10_common_17 ⟨h_14, rfl⟩
  · refine zv_lload_n (j := 0) G dX10_common_6 rfl rfl ?_
    refine zv_goto (tgt := 17) G dX10_common_7 (by decide) ?_
    exact zv_lret G hr dX10_common_17 ⟨(hn.resolve_right (fun h => h (z_leq c_3))), rfl⟩
set_option maxHeartbeats 4000000 in
set_option maxRecDepth 100000 in
theorem zc_X10_common_at85 (l : Launch) (E : za_E) (a : Int64) (b : Int64) (σ : za_S) (ha : 0 ≤ a.toInt) (hb : 0 ≤ b.toInt ∧ b.toInt ≤ 85) (hn : ¬ a = 0 ∨ ¬ b = 0) : zMl l E yX10_common cX10_common 4 (Option.some Jvm.ClassFile.FieldType.long) 86 1976 [za_L a, za_L b] σ (fun r σ' => (¬ r = 0) ∧ σ' = σ) := by
  refine zMl_of [(0, za_L a), (2, za_L b)] (by decide) rfl rfl (Nat.le_of_ble_eq_true rfl) ?_
  intro ho p e s m args below meth c G hr
  refine zv_lload_n (j := 1) G dX10_common_0 rfl rfl ?_
  refine zv_lconst (v := 0) G dX10_common_1 (by decide) ?_
  refine zv_lcmp G dX10_common_2 ?_
  refine zv_if_ne (tgt := 10) G dX10_common_3 (by decide) (fun c_3 => ?_) (fun c_3 => ?_)
  · have nb := z_lne c_3
    refine zv_lload_n (j := 1) G dX10_common_10 rfl rfl ?_
    refine zv_lload_n (j := 0) G dX10_common_11 rfl rfl ?_
    refine zv_lload_n (j := 1) G dX10_common_12 rfl rfl ?_
    refine zv_lrem G dX10_common_13 nb ?_
    refine zv_callSl (as := [za_L b, za_L (a - a / b * b)]) G (zc_X10_common_at84 l E b (a - a / b * b) σ hb.1 (z_common (B := 84) ha hb nb) (Or.inl nb)) zk_X10_common zm_1600 rfl ⟨(Nat.le_of_ble_eq_true rfl), (Nat.le_of_ble_eq_true rfl)⟩ ⟨Nat.zero_le _, Nat.zero_le _⟩ (Nat.le_of_ble_eq_true rfl) dX10_common_14 (fun r_14 σ h_14 => ?_)
    obtain ⟨h_14, rfl⟩ := h_14
    exact zv_lret G hr dX10_common_17 ⟨h_14, rfl⟩
  · refine zv_lload_n (j := 0) G dX10_common_6 rfl rfl ?_
    refine zv_goto (tgt := 17) G dX10_common_7 (by decide) ?_
    exact zv_lret G hr dX10_common_17 ⟨(hn.resolve_right (fun h => h (z_leq c_3))), rfl⟩
set_option maxHeartbeats 4000000 in
set_option maxRecDepth 100000 in
theorem zc_X10_common_at86 (l : Launch) (E : za_E) (a : Int64) (b : Int64) (σ : za_S) (ha : 0 ≤ a.toInt) (hb : 0 ≤ b.toInt ∧ b.toInt ≤ 86) (hn : ¬ a = 0 ∨ ¬ b = 0) : zMl l E yX10_common cX10_common 4 (Option.some Jvm.ClassFile.FieldType.long) 87 1999 [za_L a, za_L b] σ (fun r σ' => (¬ r = 0) ∧ σ' = σ) := by
  refine zMl_of [(0, za_L a), (2, za_L b)] (by decide) rfl rfl (Nat.le_of_ble_eq_true rfl) ?_
  intro ho p e s m args below meth c G hr
  refine zv_lload_n (j := 1) G dX10_common_0 rfl rfl ?_
  refine zv_lconst (v := 0) G dX10_common_1 (by decide) ?_
  refine zv_lcmp G dX10_common_2 ?_
  refine zv_if_ne (tgt := 10) G dX10_common_3 (by decide) (fun c_3 => ?_) (fun c_3 => ?_)
  · have nb := z_lne c_3
    refine zv_lload_n (j := 1) G dX10_common_10 rfl rfl ?_
    refine zv_lload_n (j := 0) G dX10_common_11 rfl rfl ?_
    refine zv_lload_n (j := 1) G dX10_common_12 rfl rfl ?_
    refine zv_lrem G dX10_common_13 nb ?_
    refine zv_callSl (as := [za_L b, za_L (a - a / b * b)]) G (zc_X10_common_at85 l E b (a - a / b * b) σ hb.1 (z_common (B := 85) ha hb nb) (Or.inl nb)) zk_X10_common zm_1600 rfl ⟨(Nat.le_of_ble_eq_true rfl), (Nat.le_of_ble_eq_true rfl)⟩ ⟨Nat.zero_le _, Nat.zero_le _⟩ (Nat.le_of_ble_eq_true rfl) dX10_common_14 (fun r_14 σ h_14 => ?_)
    obtain ⟨h_14, rfl⟩ := h_14
    exact zv_lret G hr dX10_common_17 ⟨h_14, rfl⟩
  · refine zv_lload_n (j := 0) G dX10_common_6 rfl rfl ?_
    refine zv_goto (tgt := 17) G dX10_common_7 (by decide) ?_
    exact zv_lret G hr dX10_common_17 ⟨(hn.resolve_right (fun h => h (z_leq c_3))), rfl⟩
set_option maxHeartbeats 4000000 in
set_option maxRecDepth 100000 in
theorem zc_X10_common_at87 (l : Launch) (E : za_E) (a : Int64) (b : Int64) (σ : za_S) (ha : 0 ≤ a.toInt) (hb : 0 ≤ b.toInt ∧ b.toInt ≤ 87) (hn : ¬ a = 0 ∨ ¬ b = 0) : zMl l E yX10_common cX10_common 4 (Option.some Jvm.ClassFile.FieldType.long) 88 2022 [za_L a, za_L b] σ (fun r σ' => (¬ r = 0) ∧ σ' = σ) := by
  refine zMl_of [(0, za_L a), (2, za_L b)] (by decide) rfl rfl (Nat.le_of_ble_eq_true rfl) ?_
  intro ho p e s m args below meth c G hr
  refine zv_lload_n (j := 1) G dX10_common_0 rfl rfl ?_
  refine zv_lconst (v := 0) G dX10_common_1 (by decide) ?_
  refine zv_lcmp G dX10_common_2 ?_
  refine zv_if_ne (tgt := 10) G dX10_common_3 (by decide) (fun c_3 => ?_) (fun c_3 => ?_)
  · have nb := z_lne c_3
    refine zv_lload_n (j := 1) G dX10_common_10 rfl rfl ?_
    refine zv_lload_n (j := 0) G dX10_common_11 rfl rfl ?_
    refine zv_lload_n (j := 1) G dX10_common_12 rfl rfl ?_
    refine zv_lrem G dX10_common_13 nb ?_
    refine zv_callSl (as := [za_L b, za_L (a - a / b * b)]) G (zc_X10_common_at86 l E b (a - a / b * b) σ hb.1 (z_common (B := 86) ha hb nb) (Or.inl nb)) zk_X10_common zm_1600 rfl ⟨(Nat.le_of_ble_eq_true rfl), (Nat.le_of_ble_eq_true rfl)⟩ ⟨Nat.zero_le _, Nat.zero_le _⟩ (Nat.le_of_ble_eq_true rfl) dX10_common_14 (fun r_14 σ h_14 => ?_)
    obtain ⟨h_14, rfl⟩ := h_14
    exact zv_lret G hr dX10_common_17 ⟨h_14, rfl⟩
  · refine zv_lload_n (j := 0) G dX10_common_6 rfl rfl ?_
    refine zv_goto (tgt := 17) G dX10_common_7 (by decide) ?_
    exact zv_lret G hr dX10_common_17 ⟨(hn.resolve_right (fun h => h (z_leq c_3))), rfl⟩
set_option maxHeartbeats 4000000 in
set_option maxRecDepth 100000 in
theorem zc_X10_common_at88 (l : Launch) (E : za_E) (a : Int64) (b : Int64) (σ : za_S) (ha : 0 ≤ a.toInt) (hb : 0 ≤ b.toInt ∧ b.toInt ≤ 88) (hn : ¬ a = 0 ∨ ¬ b = 0) : zMl l E yX10_common cX10_common 4 (Option.some Jvm.ClassFile.FieldType.long) 89 2045 [za_L a, za_L b] σ (fun r σ' => (¬ r = 0) ∧ σ' = σ) := by
  refine zMl_of [(0, za_L a), (2, za_L b)] (by decide) rfl rfl (Nat.le_of_ble_eq_true rfl) ?_
  intro ho p e s m args below meth c G hr
  refine zv_lload_n (j := 1) G dX10_common_0 rfl rfl ?_
  refine zv_lconst (v := 0) G dX10_common_1 (by decide) ?_
  refine zv_lcmp G dX10_common_2 ?_
  refine zv_if_ne (tgt := 10) G dX10_common_3 (by decide) (fun c_3 => ?_) (fun c_3 => ?_)
  · have nb := z_lne c_3
    refine zv_lload_n (j := 1) G dX10_common_10 rfl rfl ?_
    refine zv_lload_n (j := 0) G dX10_common_11 rfl rfl ?_
    refine zv_lload_n (j := 1) G dX10_common_12 rfl rfl ?_
    refine zv_lrem G dX10_common_13 nb ?_
    refine zv_callSl (as := [za_L b, za_L (a - a / b * b)]) G (zc_X10_common_at87 l E b (a - a / b * b) σ hb.1 (z_common (B := 87) ha hb nb) (Or.inl nb)) zk_X10_common zm_1600 rfl ⟨(Nat.le_of_ble_eq_true rfl), (Nat.le_of_ble_eq_true rfl)⟩ ⟨Nat.zero_le _, Nat.zero_le _⟩ (Nat.le_of_ble_eq_true rfl) dX10_common_14 (fun r_14 σ h_14 => ?_)
    obtain ⟨h_14, rfl⟩ := h_14
    exact zv_lret G hr dX10_common_17 ⟨h_14, rfl⟩
  · refine zv_lload_n (j := 0) G dX10_common_6 rfl rfl ?_
    refine zv_goto (tgt := 17) G dX10_common_7 (by decide) ?_
    exact zv_lret G hr dX10_common_17 ⟨(hn.resolve_right (fun h => h (z_leq c_3))), rfl⟩
set_option maxHeartbeats 4000000 in
set_option maxRecDepth 100000 in
theorem zc_X10_common_at89 (l : Launch) (E : za_E) (a : Int64) (b : Int64) (σ : za_S) (ha : 0 ≤ a.toInt) (hb : 0 ≤ b.toInt ∧ b.toInt ≤ 89) (hn : ¬ a = 0 ∨ ¬ b = 0) : zMl l E yX10_common cX10_common 4 (Option.some Jvm.ClassFile.FieldType.long) 90 2068 [za_L a, za_L b] σ (fun r σ' => (¬ r = 0) ∧ σ' = σ) := by
  refine zMl_of [(0, za_L a), (2, za_L b)] (by decide) rfl rfl (Nat.le_of_ble_eq_true rfl) ?_
  intro ho p e s m args below meth c G hr
  refine zv_lload_n (j := 1) G dX10_common_0 rfl rfl ?_
  refine zv_lconst (v := 0) G dX10_common_1 (by decide) ?_
  refine zv_lcmp G dX10_common_2 ?_
  refine zv_if_ne (tgt := 10) G dX10_common_3 (by decide) (fun c_3 => ?_) (fun c_3 => ?_)
  · have nb := z_lne c_3
    refine zv_lload_n (j := 1) G dX10_common_10 rfl rfl ?_
    refine zv_lload_n (j := 0) G dX10_common_11 rfl rfl ?_
    refine zv_lload_n (j := 1) G dX10_common_12 rfl rfl ?_
    refine zv_lrem G dX10_common_13 nb ?_
    refine zv_callSl (as := [za_L b, za_L (a - a / b * b)]) G (zc_X10_common_at88 l E b (a - a / b * b) σ hb.1 (z_common (B := 88) ha hb nb) (Or.inl nb)) zk_X10_common zm_1600 rfl ⟨(Nat.le_of_ble_eq_true rfl), (Nat.le_of_ble_eq_true rfl)⟩ ⟨Nat.zero_le _, Nat.zero_le _⟩ (Nat.le_of_ble_eq_true rfl) dX10_common_14 (fun r_14 σ h_14 => ?_)
    obtain ⟨h_14, rfl⟩ := h_14
    exact zv_lret G hr dX10_common_17 ⟨h_14, rfl⟩
  · refine zv_lload_n (j := 0) G dX10_common_6 rfl rfl ?_
    refine zv_goto (tgt := 17) G dX10_common_7 (by decide) ?_
    exact zv_lret G hr dX10_common_17 ⟨(hn.resolve_right (fun h => h (z_leq c_3))), rfl⟩
set_option maxHeartbeats 4000000 in
set_option maxRecDepth 100000 in
theorem zc_X10_common_at90 (l : Launch) (E : za_E) (a : Int64) (b : Int64) (σ : za_S) (ha : 0 ≤ a.toInt) (hb : 0 ≤ b.toInt ∧ b.toInt ≤ 90) (hn : ¬ a = 0 ∨ ¬ b = 0) : zMl l E yX10_common cX10_common 4 (Option.some Jvm.ClassFile.FieldType.long) 91 2091 [za_L a, za_L b] σ (fun r σ' => (¬ r = 0) ∧ σ' = σ) := by
  refine zMl_of [(0, za_L a), (2, za_L b)] (by decide) rfl rfl (Nat.le_of_ble_eq_true rfl) ?_
  intro ho p e s m args below meth c G hr
  refine zv_lload_n (j := 1) G dX10_common_0 rfl rfl ?_
  refine zv_lconst (v := 0) G dX10_common_1 (by decide) ?_
  refine zv_lcmp G dX10_common_2 ?_
  refine zv_if_ne (tgt := 10) G dX10_common_3 (by decide) (fun c_3 => ?_) (fun c_3 => ?_)
  · have nb := z_lne c_3
    refine zv_lload_n (j := 1) G dX10_common_10 rfl rfl ?_
    refine zv_lload_n (j := 0) G dX10_common_11 rfl rfl ?_
    refine zv_lload_n (j := 1) G dX10_common_12 rfl rfl ?_
    refine zv_lrem G dX10_common_13 nb ?_
    refine zv_callSl (as := [za_L b, za_L (a - a / b * b)]) G (zc_X10_common_at89 l E b (a - a / b * b) σ hb.1 (z_common (B := 89) ha hb nb) (Or.inl nb)) zk_X10_common zm_1600 rfl ⟨(Nat.le_of_ble_eq_true rfl), (Nat.le_of_ble_eq_true rfl)⟩ ⟨Nat.zero_le _, Nat.zero_le _⟩ (Nat.le_of_ble_eq_true rfl) dX10_common_14 (fun r_14 σ h_14 => ?_)
    obtain ⟨h_14, rfl⟩ := h_14
    exact zv_lret G hr dX10_common_17 ⟨h_14, rfl⟩
  · refine zv_lload_n (j := 0) G dX10_common_6 rfl rfl ?_
    refine zv_goto (tgt := 17) G dX10_common_7 (by decide) ?_
    exact zv_lret G hr dX10_common_17 ⟨(hn.resolve_right (fun h => h (z_leq c_3))), rfl⟩
set_option maxHeartbeats 4000000 in
set_option maxRecDepth 100000 in
theorem zc_X10_common_at91 (l : Launch) (E : za_E) (a : Int64) (b : Int64) (σ : za_S) (ha : 0 ≤ a.toInt) (hb : 0 ≤ b.toInt ∧ b.toInt ≤ 91) (hn : ¬ a = 0 ∨ ¬ b = 0) : zMl l E yX10_common cX10_common 4 (Option.some Jvm.ClassFile.FieldType.long) 92 2114 [za_L a, za_L b] σ (fun r σ' => (¬ r = 0) ∧ σ' = σ) := by
  refine zMl_of [(0, za_L a), (2, za_L b)] (by decide) rfl rfl (Nat.le_of_ble_eq_true rfl) ?_
  intro ho p e s m args below meth c G hr
  refine zv_lload_n (j := 1) G dX10_common_0 rfl rfl ?_
  refine zv_lconst (v := 0) G dX10_common_1 (by decide) ?_
  refine zv_lcmp G dX10_common_2 ?_
  refine zv_if_ne (tgt := 10) G dX10_common_3 (by decide) (fun c_3 => ?_) (fun c_3 => ?_)
  · have nb := z_lne c_3
    refine zv_lload_n (j := 1) G dX10_common_10 rfl rfl ?_
    refine zv_lload_n (j := 0) G dX10_common_11 rfl rfl ?_
    refine zv_lload_n (j := 1) G dX10_common_12 rfl rfl ?_
    refine zv_lrem G dX10_common_13 nb ?_
    refine zv_callSl (as := [za_L b, za_L (a - a / b * b)]) G (zc_X10_common_at90 l E b (a - a / b * b) σ hb.1 (z_common (B := 90) ha hb nb) (Or.inl nb)) zk_X10_common zm_1600 rfl ⟨(Nat.le_of_ble_eq_true rfl), (Nat.le_of_ble_eq_true rfl)⟩ ⟨Nat.zero_le _, Nat.zero_le _⟩ (Nat.le_of_ble_eq_true rfl) dX10_common_14 (fun r_14 σ h_14 => ?_)
    obtain ⟨h_14, rfl⟩ := h_14
    exact zv_lret G hr dX10_common_17 ⟨h_14, rfl⟩
  · refine zv_lload_n (j := 0) G dX10_common_6 rfl rfl ?_
    refine zv_goto (tgt := 17) G dX10_common_7 (by decide) ?_
    exact zv_lret G hr dX10_common_17 ⟨(hn.resolve_right (fun h => h (z_leq c_3))), rfl⟩
set_option maxHeartbeats 4000000 in
set_option maxRecDepth 100000 in
theorem zc_X10_common_at92 (l : Launch) (E : za_E) (a : Int64) (b : Int64) (σ : za_S) (ha : 0 ≤ a.toInt) (hb : 0 ≤ b.toInt ∧ b.toInt ≤ 92) (hn : ¬ a = 0 ∨ ¬ b = 0) : zMl l E yX10_common cX10_common 4 (Option.some Jvm.ClassFile.FieldType.long) 93 2137 [za_L a, za_L b] σ (fun r σ' => (¬ r = 0) ∧ σ' = σ) := by
  refine zMl_of [(0, za_L a), (2, za_L b)] (by decide) rfl rfl (Nat.le_of_ble_eq_true rfl) ?_
  intro ho p e s m args below meth c G hr
  refine zv_lload_n (j := 1) G dX10_common_0 rfl rfl ?_
  refine zv_lconst (v := 0) G dX10_common_1 (by decide) ?_
  refine zv_lcmp G dX10_common_2 ?_
  refine zv_if_ne (tgt := 10) G dX10_common_3 (by decide) (fun c_3 => ?_) (fun c_3 => ?_)
  · have nb := z_lne c_3
    refine zv_lload_n (j := 1) G dX10_common_10 rfl rfl ?_
    refine zv_lload_n (j := 0) G dX10_common_11 rfl rfl ?_
    refine zv_lload_n (j := 1) G dX10_common_12 rfl rfl ?_
    refine zv_lrem G dX10_common_13 nb ?_
    refine zv_callSl (as := [za_L b, za_L (a - a / b * b)]) G (zc_X10_common_at91 l E b (a - a / b * b) σ hb.1 (z_common (B := 91) ha hb nb) (Or.inl nb)) zk_X10_common zm_1600 rfl ⟨(Nat.le_of_ble_eq_true rfl), (Nat.le_of_ble_eq_true rfl)⟩ ⟨Nat.zero_le _, Nat.zero_le _⟩ (Nat.le_of_ble_eq_true rfl) dX10_common_14 (fun r_14 σ h_14 => ?_)
    obtain ⟨h_14, rfl⟩ := h_14
    exact zv_lret G hr dX10_common_17 ⟨h_14, rfl⟩
  · refine zv_lload_n (j := 0) G dX10_common_6 rfl rfl ?_
    refine zv_goto (tgt := 17) G dX10_common_7 (by decide) ?_
    exact zv_lret G hr dX10_common_17 ⟨(hn.resolve_right (fun h => h (z_leq c_3))), rfl⟩
set_option maxHeartbeats 4000000 in
set_option maxRecDepth 100000 in
theorem zc_X10_common_at93 (l : Launch) (E : za_E) (a : Int64) (b : Int64) (σ : za_S) (ha : 0 ≤ a.toInt) (hb : 0 ≤ b.toInt ∧ b.toInt ≤ 93) (hn : ¬ a = 0 ∨ ¬ b = 0) : zMl l E yX10_common cX10_common 4 (Option.some Jvm.ClassFile.FieldType.long) 94 2160 [za_L a, za_L b] σ (fun r σ' => (¬ r = 0) ∧ σ' = σ) := by
  refine zMl_of [(0, za_L a), (2, za_L b)] (by decide) rfl rfl (Nat.le_of_ble_eq_true rfl) ?_
  intro ho p e s m args below meth c G hr
  refine zv_lload_n (j := 1) G dX10_common_0 rfl rfl ?_
  refine zv_lconst (v := 0) G dX10_common_1 (by decide) ?_
  refine zv_lcmp G dX10_common_2 ?_
  refine zv_if_ne (tgt := 10) G dX10_common_3 (by decide) (fun c_3 => ?_) (fun c_3 => ?_)
  · have nb := z_lne c_3
    refine zv_lload_n (j := 1) G dX10_common_10 rfl rfl ?_
    refine zv_lload_n (j := 0) G dX10_common_11 rfl rfl ?_
    refine zv_lload_n (j := 1) G dX10_common_12 rfl rfl ?_
    refine zv_lrem G dX10_common_13 nb ?_
    refine zv_callSl (as := [za_L b, za_L (a - a / b * b)]) G (zc_X10_common_at92 l E b (a - a / b * b) σ hb.1 (z_common (B := 92) ha hb nb) (Or.inl nb)) zk_X10_common zm_1600 rfl ⟨(Nat.le_of_ble_eq_true rfl), (Nat.le_of_ble_eq_true rfl)⟩ ⟨Nat.zero_le _, Nat.zero_le _⟩ (Nat.le_of_ble_eq_true rfl) dX10_common_14 (fun r_14 σ h_14 => ?_)
    obtain ⟨h_14, rfl⟩ := h_14
    exact zv_lret G hr dX10_common_17 ⟨h_14, rfl⟩
  · refine zv_lload_n (j := 0) G dX10_common_6 rfl rfl ?_
    refine zv_goto (tgt := 17) G dX10_common_7 (by decide) ?_
    exact zv_lret G hr dX10_common_17 ⟨(hn.resolve_right (fun h => h (z_leq c_3))), rfl⟩
set_option maxHeartbeats 4000000 in
set_option maxRecDepth 100000 in
theorem zc_X10_common_at94 (l : Launch) (E : za_E) (a : Int64) (b : Int64) (σ : za_S) (ha : 0 ≤ a.toInt) (hb : 0 ≤ b.toInt ∧ b.toInt ≤ 94) (hn : ¬ a = 0 ∨ ¬ b = 0) : zMl l E yX10_common cX10_common 4 (Option.some Jvm.ClassFile.FieldType.long) 95 2183 [za_L a, za_L b] σ (fun r σ' => (¬ r = 0) ∧ σ' = σ) := by
  refine zMl_of [(0, za_L a), (2, za_L b)] (by decide) rfl rfl (Nat.le_of_ble_eq_true rfl) ?_
  intro ho p e s m args below meth c G hr
  refine zv_lload_n (j := 1) G dX10_common_0 rfl rfl ?_
  refine zv_lconst (v := 0) G dX10_common_1 (by decide) ?_
  refine zv_lcmp G dX10_common_2 ?_
  refine zv_if_ne (tgt := 10) G dX10_common_3 (by decide) (fun c_3 => ?_) (fun c_3 => ?_)
  · have nb := z_lne c_3
    refine zv_lload_n (j := 1) G dX10_common_10 rfl rfl ?_
    refine zv_lload_n (j := 0) G dX10_common_11 rfl rfl ?_
    refine zv_lload_n (j := 1) G dX10_common_12 rfl rfl ?_
    refine zv_lrem G dX10_common_13 nb ?_
    refine zv_callSl (as := [za_L b, za_L (a - a / b * b)]) G (zc_X10_common_at93 l E b (a - a / b * b) σ hb.1 (z_common (B := 93) ha hb nb) (Or.inl nb)) zk_X10_common zm_1600 rfl ⟨(Nat.le_of_ble_eq_true rfl), (Nat.le_of_ble_eq_true rfl)⟩ ⟨Nat.zero_le _, Nat.zero_le _⟩ (Nat.le_of_ble_eq_true rfl) dX10_common_14 (fun r_14 σ h_14 => ?_)
    obtain ⟨h_14, rfl⟩ := h_14
    exact zv_lret G hr dX10_common_17 ⟨h_14, rfl⟩
  · refine zv_lload_n (j := 0) G dX10_common_6 rfl rfl ?_
    refine zv_goto (tgt := 17) G dX10_common_7 (by decide) ?_
    exact zv_lret G hr dX10_common_17 ⟨(hn.resolve_right (fun h => h (z_leq c_3))), rfl⟩
set_option maxHeartbeats 4000000 in
set_option maxRecDepth 100000 in
theorem zc_X10_common_at95 (l : Launch) (E : za_E) (a : Int64) (b : Int64) (σ : za_S) (ha : 0 ≤ a.toInt) (hb : 0 ≤ b.toInt ∧ b.toInt ≤ 95) (hn : ¬ a = 0 ∨ ¬ b = 0) : zMl l E yX10_common cX10_common 4 (Option.some Jvm.ClassFile.FieldType.long) 96 2206 [za_L a, za_L b] σ (fun r σ' => (¬ r = 0) ∧ σ' = σ) := by
  refine zMl_of [(0, za_L a), (2, za_L b)] (by decide) rfl rfl (Nat.le_of_ble_eq_true rfl) ?_
  intro ho p e s m args below meth c G hr
  refine zv_lload_n (j := 1) G dX10_common_0 rfl rfl ?_
  refine zv_lconst (v := 0) G dX10_common_1 (by decide) ?_
  refine zv_lcmp G dX10_common_2 ?_
  refine zv_if_ne (tgt := 10) G dX10_common_3 (by decide) (fun c_3 => ?_) (fun c_3 => ?_)
  · have nb := z_lne c_3
    refine zv_lload_n (j := 1) G dX10_common_10 rfl rfl ?_
    refine zv_lload_n (j := 0) G dX10_common_11 rfl rfl ?_
    refine zv_lload_n (j := 1) G dX10_common_12 rfl rfl ?_
    refine zv_lrem G dX10_common_13 nb ?_
    refine zv_callSl (as := [za_L b, za_L (a - a / b * b)]) G (zc_X10_common_at94 l E b (a - a / b * b) σ hb.1 (z_common (B := 94) ha hb nb) (Or.inl nb)) zk_X10_common zm_1600 rfl ⟨(Nat.le_of_ble_eq_true rfl), (Nat.le_of_ble_eq_true rfl)⟩ ⟨Nat.zero_le _, Nat.zero_le _⟩ (Nat.le_of_ble_eq_true rfl) dX10_common_14 (fun r_14 σ h_14 => ?_)
    obtain ⟨h_14, rfl⟩ := h_14
    exact zv_lret G hr dX10_common_17 ⟨h_14, rfl⟩
  · refine zv_lload_n (j := 0) G dX10_common_6 rfl rfl ?_
    refine zv_goto (tgt := 17) G dX10_common_7 (by decide) ?_
    exact zv_lret G hr dX10_common_17 ⟨(hn.resolve_right (fun h => h (z_leq c_3))), rfl⟩
set_option maxHeartbeats 4000000 in
set_option maxRecDepth 100000 in
theorem zc_X10_common_at96 (l : Launch) (E : za_E) (a : Int64) (b : Int64) (σ : za_S) (ha : 0 ≤ a.toInt) (hb : 0 ≤ b.toInt ∧ b.toInt ≤ 96) (hn : ¬ a = 0 ∨ ¬ b = 0) : zMl l E yX10_common cX10_common 4 (Option.some Jvm.ClassFile.FieldType.long) 97 2229 [za_L a, za_L b] σ (fun r σ' => (¬ r = 0) ∧ σ' = σ) := by
  refine zMl_of [(0, za_L a), (2, za_L b)] (by decide) rfl rfl (Nat.le_of_ble_eq_true rfl) ?_
  intro ho p e s m args below meth c G hr
  refine zv_lload_n (j := 1) G dX10_common_0 rfl rfl ?_
  refine zv_lconst (v := 0) G dX10_common_1 (by decide) ?_
  refine zv_lcmp G dX10_common_2 ?_
  refine zv_if_ne (tgt := 10) G dX10_common_3 (by decide) (fun c_3 => ?_) (fun c_3 => ?_)
  · have nb := z_lne c_3
    refine zv_lload_n (j := 1) G dX10_common_10 rfl rfl ?_
    refine zv_lload_n (j := 0) G dX10_common_11 rfl rfl ?_
    refine zv_lload_n (j := 1) G dX10_common_12 rfl rfl ?_
    refine zv_lrem G dX10_common_13 nb ?_
    refine zv_callSl (as := [za_L b, za_L (a - a / b * b)]) G (zc_X10_common_at95 l E b (a - a / b * b) σ hb.1 (z_common (B := 95) ha hb nb) (Or.inl nb)) zk_X10_common zm_1600 rfl ⟨(Nat.le_of_ble_eq_true rfl), (Nat.le_of_ble_eq_true rfl)⟩ ⟨Nat.zero_le _, Nat.zero_le _⟩ (Nat.le_of_ble_eq_true rfl) dX10_common_14 (fun r_14 σ h_14 => ?_)
    obtain ⟨h_14, rfl⟩ := h_14
    exact zv_lret G hr dX10_common_17 ⟨h_14, rfl⟩
  · refine zv_lload_n (j := 0) G dX10_common_6 rfl rfl ?_
    refine zv_goto (tgt := 17) G dX10_common_7 (by decide) ?_
    exact zv_lret G hr dX10_common_17 ⟨(hn.resolve_right (fun h => h (z_leq c_3))), rfl⟩
set_option maxHeartbeats 4000000 in
set_option maxRecDepth 100000 in
theorem zc_X10_common_at97 (l : Launch) (E : za_E) (a : Int64) (b : Int64) (σ : za_S) (ha : 0 ≤ a.toInt) (hb : 0 ≤ b.toInt ∧ b.toInt ≤ 97) (hn : ¬ a = 0 ∨ ¬ b = 0) : zMl l E yX10_common cX10_common 4 (Option.some Jvm.ClassFile.FieldType.long) 98 2252 [za_L a, za_L b] σ (fun r σ' => (¬ r = 0) ∧ σ' = σ) := by
  refine zMl_of [(0, za_L a), (2, za_L b)] (by decide) rfl rfl (Nat.le_of_ble_eq_true rfl) ?_
  intro ho p e s m args below meth c G hr
  refine zv_lload_n (j := 1) G dX10_common_0 rfl rfl ?_
  refine zv_lconst (v := 0) G dX10_common_1 (by decide) ?_
  refine zv_lcmp G dX10_common_2 ?_
  refine zv_if_ne (tgt := 10) G dX10_common_3 (by decide) (fun c_3 => ?_) (fun c_3 => ?_)
  · have nb := z_lne c_3
    refine zv_lload_n (j := 1) G dX10_common_10 rfl rfl ?_
    refine zv_lload_n (j := 0) G dX10_common_11 rfl rfl ?_
    refine zv_lload_n (j := 1) G dX10_common_12 rfl rfl ?_
    refine zv_lrem G dX10_common_13 nb ?_
    refine zv_callSl (as := [za_L b, za_L (a - a / b * b)]) G (zc_X10_common_at96 l E b (a - a / b * b) σ hb.1 (z_common (B := 96) ha hb nb) (Or.inl nb)) zk_X10_common zm_1600 rfl ⟨(Nat.le_of_ble_eq_true rfl), (Nat.le_of_ble_eq_true rfl)⟩ ⟨Nat.zero_le _, Nat.zero_le _⟩ (Nat.le_of_ble_eq_true rfl) dX10_common_14 (fun r_14 σ h_14 => ?_)
    obtain ⟨h_14, rfl⟩ := h_14
    exact zv_lret G hr dX10_common_17 ⟨h_14, rfl⟩
  · refine zv_lload_n (j := 0) G dX10_common_6 rfl rfl ?_
    refine zv_goto (tgt := 17) G dX10_common_7 (by decide) ?_
    exact zv_lret G hr dX10_common_17 ⟨(hn.resolve_right (fun h => h (z_leq c_3))), rfl⟩
set_option maxHeartbeats 4000000 in
set_option maxRecDepth 100000 in
theorem zc_X10_common_at98 (l : Launch) (E : za_E) (a : Int64) (b : Int64) (σ : za_S) (ha : 0 ≤ a.toInt) (hb : 0 ≤ b.toInt ∧ b.toInt ≤ 98) (hn : ¬ a = 0 ∨ ¬ b = 0) : zMl l E yX10_common cX10_common 4 (Option.some Jvm.ClassFile.FieldType.long) 99 2275 [za_L a, za_L b] σ (fun r σ' => (¬ r = 0) ∧ σ' = σ) := by
  refine zMl_of [(0, za_L a), (2, za_L b)] (by decide) rfl rfl (Nat.le_of_ble_eq_true rfl) ?_
  intro ho p e s m args below meth c G hr
  refine zv_lload_n (j := 1) G dX10_common_0 rfl rfl ?_
  refine zv_lconst (v := 0) G dX10_common_1 (by decide) ?_
  refine zv_lcmp G dX10_common_2 ?_
  refine zv_if_ne (tgt := 10) G dX10_common_3 (by decide) (fun c_3 => ?_) (fun c_3 => ?_)
  · have nb := z_lne c_3
    refine zv_lload_n (j := 1) G dX10_common_10 rfl rfl ?_
    refine zv_lload_n (j := 0) G dX10_common_11 rfl rfl ?_
    refine zv_lload_n (j := 1) G dX10_common_12 rfl rfl ?_
    refine zv_lrem G dX10_common_13 nb ?_
    refine zv_callSl (as := [za_L b, za_L (a - a / b * b)]) G (zc_X10_common_at97 l E b (a - a / b * b) σ hb.1 (z_common (B := 97) ha hb nb) (Or.inl nb)) zk_X10_common zm_1600 rfl ⟨(Nat.le_of_ble_eq_true rfl), (Nat.le_of_ble_eq_true rfl)⟩ ⟨Nat.zero_le _, Nat.zero_le _⟩ (Nat.le_of_ble_eq_true rfl) dX10_common_14 (fun r_14 σ h_14 => ?_)
    obtain ⟨h_14, rfl⟩ := h_14
    exact zv_lret G hr dX10_common_17 ⟨h_14, rfl⟩
  · refine zv_lload_n (j := 0) G dX10_common_6 rfl rfl ?_
    refine zv_goto (tgt := 17) G dX10_common_7 (by decide) ?_
    exact zv_lret G hr dX10_common_17 ⟨(hn.resolve_right (fun h => h (z_leq c_3))), rfl⟩
set_option maxHeartbeats 4000000 in
set_option maxRecDepth 100000 in
theorem zc_X10_common_at99 (l : Launch) (E : za_E) (a : Int64) (b : Int64) (σ : za_S) (ha : 0 ≤ a.toInt) (hb : 0 ≤ b.toInt ∧ b.toInt ≤ 99) (hn : ¬ a = 0 ∨ ¬ b = 0) : zMl l E yX10_common cX10_common 4 (Option.some Jvm.ClassFile.FieldType.long) 100 2298 [za_L a, za_L b] σ (fun r σ' => (¬ r = 0) ∧ σ' = σ) := by
  refine zMl_of [(0, za_L a), (2, za_L b)] (by decide) rfl rfl (Nat.le_of_ble_eq_true rfl) ?_
  intro ho p e s m args below meth c G hr
  refine zv_lload_n (j := 1) G dX10_common_0 rfl rfl ?_
  refine zv_lconst (v := 0) G dX10_common_1 (by decide) ?_
  refine zv_lcmp G dX10_common_2 ?_
  refine zv_if_ne (tgt := 10) G dX10_common_3 (by decide) (fun c_3 => ?_) (fun c_3 => ?_)
  · have nb := z_lne c_3
    refine zv_lload_n (j := 1) G dX10_common_10 rfl rfl ?_
    refine zv_lload_n (j := 0) G dX10_common_11 rfl rfl ?_
    refine zv_lload_n (j := 1) G dX10_common_12 rfl rfl ?_
    refine zv_lrem G dX10_common_13 nb ?_
    refine zv_callSl (as := [za_L b, za_L (a - a / b * b)]) G (zc_X10_common_at98 l E b (a - a / b * b) σ hb.1 (z_common (B := 98) ha hb nb) (Or.inl nb)) zk_X10_common zm_1600 rfl ⟨(Nat.le_of_ble_eq_true rfl), (Nat.le_of_ble_eq_true rfl)⟩ ⟨Nat.zero_le _, Nat.zero_le _⟩ (Nat.le_of_ble_eq_true rfl) dX10_common_14 (fun r_14 σ h_14 => ?_)
    obtain ⟨h_14, rfl⟩ := h_14
    exact zv_lret G hr dX10_common_17 ⟨h_14, rfl⟩
  · refine zv_lload_n (j := 0) G dX10_common_6 rfl rfl ?_
    refine zv_goto (tgt := 17) G dX10_common_7 (by decide) ?_
    exact zv_lret G hr dX10_common_17 ⟨(hn.resolve_right (fun h => h (z_leq c_3))), rfl⟩
set_option maxHeartbeats 4000000 in
set_option maxRecDepth 100000 in
theorem zc_X10_common_at100 (l : Launch) (E : za_E) (a : Int64) (b : Int64) (σ : za_S) (ha : 0 ≤ a.toInt) (hb : 0 ≤ b.toInt ∧ b.toInt ≤ 100) (hn : ¬ a = 0 ∨ ¬ b = 0) : zMl l E yX10_common cX10_common 4 (Option.some Jvm.ClassFile.FieldType.long) 101 2321 [za_L a, za_L b] σ (fun r σ' => (¬ r = 0) ∧ σ' = σ) := by
  refine zMl_of [(0, za_L a), (2, za_L b)] (by decide) rfl rfl (Nat.le_of_ble_eq_true rfl) ?_
  intro ho p e s m args below meth c G hr
  refine zv_lload_n (j := 1) G dX10_common_0 rfl rfl ?_
  refine zv_lconst (v := 0) G dX10_common_1 (by decide) ?_
  refine zv_lcmp G dX10_common_2 ?_
  refine zv_if_ne (tgt := 10) G dX10_common_3 (by decide) (fun c_3 => ?_) (fun c_3 => ?_)
  · have nb := z_lne c_3
    refine zv_lload_n (j := 1) G dX10_common_10 rfl rfl ?_
    refine zv_lload_n (j := 0) G dX10_common_11 rfl rfl ?_
    refine zv_lload_n (j := 1) G dX10_common_12 rfl rfl ?_
    refine zv_lrem G dX10_common_13 nb ?_
    refine zv_callSl (as := [za_L b, za_L (a - a / b * b)]) G (zc_X10_common_at99 l E b (a - a / b * b) σ hb.1 (z_common (B := 99) ha hb nb) (Or.inl nb)) zk_X10_common zm_1600 rfl ⟨(Nat.le_of_ble_eq_true rfl), (Nat.le_of_ble_eq_true rfl)⟩ ⟨Nat.zero_le _, Nat.zero_le _⟩ (Nat.le_of_ble_eq_true rfl) dX10_common_14 (fun r_14 σ h_14 => ?_)
    obtain ⟨h_14, rfl⟩ := h_14
    exact zv_lret G hr dX10_common_17 ⟨h_14, rfl⟩
  · refine zv_lload_n (j := 0) G dX10_common_6 rfl rfl ?_
    refine zv_goto (tgt := 17) G dX10_common_7 (by decide) ?_
    exact zv_lret G hr dX10_common_17 ⟨(hn.resolve_right (fun h => h (z_leq c_3))), rfl⟩
set_option maxHeartbeats 4000000 in
set_option maxRecDepth 100000 in
theorem zc_X10_mean (l : Launch) (E : za_E) (t : Int32) (k : Int32) (σ0 : za_S) (hJ : zJ σ0) : zMi l E yX10_mean cX10_mean 7 (Option.some Jvm.ClassFile.FieldType.int) 102 2344 [za_O 19 93, za_I t, za_I k] σ0 (fun r σ' => zq 12 σ0 σ') := by
  refine zMi_of [(0, za_O 19 93), (1, za_I t), (2, za_I k)] (by decide) rfl rfl (Nat.le_of_ble_eq_true rfl) ?_
  intro ho p e s m args below meth c G hr
  refine zv_gen (R9 := zq 12 σ0) (zq_0 hJ) (fun σ hz => ?_)
  refine zv_aload_n (j := 0) G dX10_mean_0 rfl rfl ?_
  refine zv_iconst (v := 0) G dX10_mean_1 (by decide) ?_
  refine zp_X10_3 G dX10_mean_2 ?_
  refine zv_gen (R9 := zq 12 σ0) (zq_93 hz (by decide)) (fun σ hz => ?_)
  refine zv_iload_n (j := 1) G dX10_mean_5 rfl rfl ?_
  refine zv_callSi (as := [za_I t]) G (zc_X10_isTable l E t σ ) zk_X10_isTable zm_1309 rfl ⟨(Nat.le_of_ble_eq_true rfl), (Nat.le_of_ble_eq_true rfl)⟩ ⟨Nat.zero_le _, Nat.zero_le _⟩ (Nat.le_of_ble_eq_true rfl) dX10_mean_6 (fun r_6 σ h_6 => ?_)
  obtain ⟨h_6, rfl⟩ := h_6
  refine zv_if_eq (tgt := 19) G dX10_mean_9 (by decide) (fun c_9 => ?_) (fun c_9 => ?_)
  · have f_6 := fun q9 => (h_6.2.mpr q9) c_9
    refine zv_iconst (v := (-1)) G dX10_mean_19 (by decide) ?_
    exact zv_iret G hr dX10_mean_20 (zq_m hz (by first | decide | omega | (have hL := z_lits; omega)))
  · have t_6 := h_6.2.mp c_9
    refine zv_iload_n (j := 2) G dX10_mean_12 rfl rfl ?_
    refine zv_callSi (as := [za_I k]) G (zc_X10_isKey l E k σ ) zk_X10_isKey zm_1371 rfl ⟨(Nat.le_of_ble_eq_true rfl), (Nat.le_of_ble_eq_true rfl)⟩ ⟨Nat.zero_le _, Nat.zero_le _⟩ (Nat.le_of_ble_eq_true rfl) dX10_mean_13 (fun r_13 σ h_13 => ?_)
    obtain ⟨h_13, rfl⟩ := h_13
    refine zv_if_ne (tgt := 21) G dX10_mean_16 (by decide) (fun c_16 => ?_) (fun c_16 => ?_)
    · have t_13 := h_13.2.mp c_16
      refine zv_iconst (v := 0) G dX10_mean_21 (by decide) ?_
      refine zv_istore_n (lv' := [(3, za_I 0), (0, za_O 19 93), (1, za_I t), (2, za_I k)]) G dX10_mean_22 rfl (by decide) rfl ?_
      refine zv_iconst (v := 0) G dX10_mean_23 (by decide) ?_
      refine zv_istore (lv' := [(4, za_I 0), (3, za_I 0), (0, za_O 19 93), (1, za_I t), (2, za_I k)]) G dX10_mean_24 (by decide) rfl ?_
      refine zv_iconst (v := 0) G dX10_mean_26 (by decide) ?_
      have J_29 : ∀ (n : Nat) (y3_29 : Int32) (y4_29 : Int32) (y5_29 : Int32) (σ : za_S) (hz : zq 12 σ0 σ) (g_29 : 0 ≤ y3_29.toInt ∧ y3_29.toInt ≤ 99 * y5_29.toInt ∧ 0 ≤ y4_29.toInt ∧ y4_29.toInt ≤ y5_29.toInt) (i3_29 : 0 ≤ y3_29.toInt) (i4_29 : 0 ≤ y4_29.toInt) (i5_29 : 0 ≤ y5_29.toInt) (u5_29 : y5_29.toInt ≤ 100) (hn_29 : (2147483648 - y5_29.toInt).toNat < n), zV p l e (zRm 102 2344) s m args below meth c E (za_A E) 7 0 0 (MQ below (va_Qi (fun r σ' => zq 12 σ0 σ') (zB E) (za_A E)) args s 0 0 (za_A E)) 29 [(0, za_O 19 93), (1, za_I t), (2, za_I k), (3, za_I y3_29), (4, za_I y4_29), (5, za_I y5_29)] [] σ := by
        intro n
        induction n with
        | zero => intro y3_29 y4_29 y5_29 σ hz g_29 i3_29 i4_29 i5_29 u5_29 hn; exact absurd hn (Nat.not_lt_zero _)
        | succ n ih_29 =>
          intro y3_29 y4_29 y5_29 σ hz g_29 i3_29 i4_29 i5_29 u5_29 hn_29
          refine zv_iload (j := 5) G dX10_mean_29 rfl ?_
          refine zv_bipush (v := 100) G dX10_mean_31 (by decide) ?_
          refine zv_icmp_ge (tgt := 93) G dX10_mean_33 (by decide) (fun c_33 => ?_) (fun c_33 => ?_)
          · have k_33 := z_cle c_33 (a := 100) (b := y5_29.toInt) rfl rfl
            refine zv_iload (j := 4) G dX10_mean_93 rfl ?_
            refine zv_if_ne (tgt := 101) G dX10_mean_95 (by decide) (fun c_95 => ?_) (fun c_95 => ?_)
            · have k_95 := z_cne c_95 (a := y4_29.toInt) (b := 0) rfl rfl
              refine zv_iload_n (j := 3) G dX10_mean_101 rfl rfl ?_
              refine zv_i2l G dX10_mean_102 ?_
              refine zv_iload (j := 4) G dX10_mean_103 rfl ?_
              refine zv_i2l G dX10_mean_105 ?_
              refine zv_callSl (as := [za_L y3_29.toInt64, za_L y4_29.toInt64]) G (zc_X10_common_at100 l E y3_29.toInt64 y4_29.toInt64 σ (by rw [z_w]; omega) (by rw [z_w]; omega) (Or.inr (fun e9 => by have u9 := congrArg Int64.toInt e9; rw [z_w] at u9; have hL := z_lL; omega))) zk_X10_common zm_1600 rfl ⟨(Nat.le_of_ble_eq_true rfl), (Nat.le_of_ble_eq_true rfl)⟩ ⟨Nat.zero_le _, Nat.zero_le _⟩ (Nat.le_of_ble_eq_true rfl) dX10_mean_106 (fun r_106 σ h_106 => ?_)
              obtain ⟨h_106, rfl⟩ := h_106
              refine zv_lstore (lv' := [(5, za_L r_106), (0, za_O 19 93), (1, za_I t), (2, za_I k), (3, za_I y3_29), (4, za_I y4_29)]) G dX10_mean_109 (by decide) rfl ?_
              refine zv_aload_n (j := 1) G dX10_mean_111 rfl rfl ?_
              refine zv_iconst (v := 0) G dX10_mean_112 (by decide) ?_
              refine zp_X10_15 G dX10_mean_113 ?_
              refine zv_gen (R9 := zq 0 σ0) (zq_t0 hz) (fun σ hz => ?_)
              refine zv_aload_n (j := 1) G dX10_mean_116 rfl rfl ?_
              refine zv_iload_n (j := 4) G dX10_mean_117 rfl rfl ?_
              refine zv_i2l G dX10_mean_118 ?_
              refine zv_lload (j := 0) G dX10_mean_119 rfl ?_
              refine zv_ldiv G dX10_mean_121 h_106 ?_
              refine zv_callVv (as := [za_L (y3_29.toInt64 / r_106)]) G (by decide) rfl rfl (zc_X10_enters l E (y3_29.toInt64 / r_106) σ (zq_p hz (by first | decide | omega))) zk_X10_enters zm_1418 rfl ⟨(Nat.le_of_ble_eq_true rfl), (Nat.le_of_ble_eq_true rfl)⟩ ⟨Nat.zero_le _, Nat.zero_le _⟩ (Nat.le_of_ble_eq_true rfl) dX10_mean_122 (fun σ h_122 => ?_)
              have hz : zq 1 σ0 σ := zq_e hz h_122
              refine zv_aload_n (j := 1) G dX10_mean_125 rfl rfl ?_
              refine zv_iload (j := 5) G dX10_mean_126 rfl ?_
              refine zv_i2l G dX10_mean_128 ?_
              refine zv_lload (j := 0) G dX10_mean_129 rfl ?_
              refine zv_ldiv G dX10_mean_131 h_106 ?_
              refine zv_callVv (as := [za_L (y4_29.toInt64 / r_106)]) G (by decide) rfl rfl (zc_X10_enters l E (y4_29.toInt64 / r_106) σ (zq_p hz (by first | decide | omega))) zk_X10_enters zm_1418 rfl ⟨(Nat.le_of_ble_eq_true rfl), (Nat.le_of_ble_eq_true rfl)⟩ ⟨Nat.zero_le _, Nat.zero_le _⟩ (Nat.le_of_ble_eq_true rfl) dX10_mean_132 (fun σ h_132 => ?_)
              have hz : zq 2 σ0 σ := zq_e hz h_132
              refine zv_aload_n (j := 1) G dX10_mean_135 rfl rfl ?_
              refine zv_iload (j := 5) G dX10_mean_136 rfl ?_
              refine zv_i2l G dX10_mean_138 ?_
              refine zv_callVv (as := [za_L y4_29.toInt64]) G (by decide) rfl rfl (zc_X10_enters l E y4_29.toInt64 σ (zq_p hz (by first | decide | omega))) zk_X10_enters zm_1418 rfl ⟨(Nat.le_of_ble_eq_true rfl), (Nat.le_of_ble_eq_true rfl)⟩ ⟨Nat.zero_le _, Nat.zero_le _⟩ (Nat.le_of_ble_eq_true rfl) dX10_mean_139 (fun σ h_139 => ?_)
              have hz : zq 3 σ0 σ := zq_e hz h_139
              refine zv_iconst (v := 0) G dX10_mean_142 (by decide) ?_
              exact zv_iret G hr dX10_mean_143 (zq_m hz (by first | decide | omega | (have hL := z_lits; omega)))
            · have k_95 := z_ceq c_95 (a := y4_29.toInt) (b := 0) rfl rfl
              refine zv_bipush (v := (-2)) G dX10_mean_98 (by decide) ?_
              exact zv_iret G hr dX10_mean_100 (zq_m hz (by first | decide | omega | (have hL := z_lits; omega)))
          · have b_33 : 0 ≤ y5_29.toInt ∧ y5_29.toInt < 100 := ⟨i5_29, z_ltk c_33 rfl⟩
            have k_33 := z_cnle c_33 (a := 100) (b := y5_29.toInt) rfl rfl
            refine zv_iload_n (j := 3) G dX10_mean_36 rfl rfl ?_
            refine zv_aload_n (j := 0) G dX10_mean_37 rfl rfl ?_
            refine zg_X10_118 G dX10_mean_38 ?_
            refine zv_iload_n (j := 1) G dX10_mean_41 rfl rfl ?_
            refine zv_iload_n (j := 2) G dX10_mean_42 rfl rfl ?_
            refine zv_iload (j := 5) G dX10_mean_43 rfl ?_
            refine zv_callSi (as := [za_O 22 99, za_I t, za_I k, za_I y5_29]) G (zc_X10_isThere l E 99 t k y5_29 σ (by first | assumption | decide | omega | exact hz.2.1.1 | exact hz.2.1.2) (by first | assumption | decide | omega | exact hz.2.1.1 | exact hz.2.1.2)) zk_X10_isThere zm_1320 rfl ⟨(Nat.le_of_ble_eq_true rfl), (Nat.le_of_ble_eq_true rfl)⟩ ⟨Nat.zero_le _, Nat.zero_le _⟩ (Nat.le_of_ble_eq_true rfl) dX10_mean_45 (fun r_45 σ h_45 => ?_)
            obtain ⟨h_45, rfl⟩ := h_45
            have J_66 : ∀ (s0_66 : Int32) (σ : za_S) (hz : zq 12 σ0 σ) (v_66 : 0 ≤ s0_66.toInt ∧ s0_66.toInt ≤ 99), zV p l e (zRm 102 2344) s m args below meth c E (za_A E) 7 0 0 (MQ below (va_Qi (fun r σ' => zq 12 σ0 σ') (zB E) (za_A E)) args s 0 0 (za_A E)) 66 [(0, za_O 19 93), (1, za_I t), (2, za_I k), (4, za_I y4_29), (5, za_I y5_29)] [za_I s0_66, za_I y3_29] σ := by
              intro s0_66 σ hz v_66
              refine zv_iadd G dX10_mean_66 ?_
              refine zv_top (fun x_67 e_67 => ?_)
              first | have q_67 := z_addf e_67 (a := y3_29.toInt) (b := s0_66.toInt) rfl rfl (by omega) (by omega) | skip
              refine zv_istore_n (lv' := [(3, za_I x_67), (0, za_O 19 93), (1, za_I t), (2, za_I k), (4, za_I y4_29), (5, za_I y5_29)]) G dX10_mean_67 rfl (by decide) rfl ?_
              refine zv_iload (j := 4) G dX10_mean_68 rfl ?_
              refine zv_aload_n (j := 1) G dX10_mean_70 rfl rfl ?_
              refine zg_X10_118 G dX10_mean_71 ?_
              refine zv_iload_n (j := 2) G dX10_mean_74 rfl rfl ?_
              refine zv_iload_n (j := 3) G dX10_mean_75 rfl rfl ?_
              refine zv_iload (j := 5) G dX10_mean_76 rfl ?_
              refine zv_callSi (as := [za_O 22 99, za_I t, za_I k, za_I y5_29]) G (zc_X10_isThere l E 99 t k y5_29 σ (by first | assumption | decide | omega | exact hz.2.1.1 | exact hz.2.1.2) (by first | assumption | decide | omega | exact hz.2.1.1 | exact hz.2.1.2)) zk_X10_isThere zm_1320 rfl ⟨(Nat.le_of_ble_eq_true rfl), (Nat.le_of_ble_eq_true rfl)⟩ ⟨Nat.zero_le _, Nat.zero_le _⟩ (Nat.le_of_ble_eq_true rfl) dX10_mean_78 (fun r_78 σ h_78 => ?_)
              obtain ⟨h_78, rfl⟩ := h_78
              refine zv_callSi (as := [za_I r_78]) G (zc_X10_flag l E r_78 σ ) zk_X10_flag zm_1351 rfl ⟨(Nat.le_of_ble_eq_true rfl), (Nat.le_of_ble_eq_true rfl)⟩ ⟨Nat.zero_le _, Nat.zero_le _⟩ (Nat.le_of_ble_eq_true rfl) dX10_mean_81 (fun r_81 σ h_81 => ?_)
              obtain ⟨h_81, rfl⟩ := h_81
              have g_81 := z_flagT h_81.2 (a := r_78.toInt) rfl
              refine zv_iadd G dX10_mean_84 ?_
              refine zv_top (fun x_85 e_85 => ?_)
              first | have q_85 := z_addf e_85 (a := y4_29.toInt) (b := r_81.toInt) rfl rfl (by omega) (by omega) | skip
              refine zv_istore (lv' := [(4, za_I x_85), (3, za_I x_67), (0, za_O 19 93), (1, za_I t), (2, za_I k), (5, za_I y5_29)]) G dX10_mean_85 (by decide) rfl ?_
              obtain ⟨x_87, e_87⟩ : ∃ y : Int32, y = y5_29 + 1 := ⟨_, rfl⟩
              refine zv_iinc (j := 5) (v := x_87) (lv' := [(5, za_I x_87), (4, za_I x_85), (3, za_I x_67), (0, za_O 19 93), (1, za_I t), (2, za_I k)]) G dX10_mean_87 rfl (by rw [e_87]; rfl) (by decide) rfl ?_
              first | have q_87 := z_inc9 (by omega) e_87 | skip
              refine zv_goto (tgt := 29) G dX10_mean_90 (by decide) ?_
              refine zv_sub [3, 4, 5, 2, 1, 0] (lv' := [(0, za_O 19 93), (1, za_I t), (2, za_I k), (3, za_I x_67), (4, za_I x_85), (5, za_I x_87)]) rfl ?_
              exact ih_29 x_67 x_85 x_87 σ (zq_m hz (by first | decide | omega | (have hL := z_lits; omega))) (by have hL := z_lits; omega) (by first | assumption | omega) (by first | assumption | omega) (by have := z_inc c_33 e_87; omega) (by have := z_inc9 (by omega) e_87; omega) (z_meas c_33 e_87 hn_29)
            refine zv_if_eq (tgt := 65) G dX10_mean_48 (by decide) (fun c_48 => ?_) (fun c_48 => ?_)
            · have f_45 := fun q9 => (h_45.2.mpr q9) c_48
              refine zv_iconst (v := 0) G dX10_mean_65 (by decide) ?_
              refine zv_sub [0, 1, 2, 4, 5] (lv' := [(0, za_O 19 93), (1, za_I t), (2, za_I k), (4, za_I y4_29), (5, za_I y5_29)]) rfl ?_
              exact J_66 (0 : Int32) σ (zq_m hz (by first | decide | omega | (have hL := z_lits; omega))) (by first | decide | exact z_vlq hJ hz t_6 t_13 t_45 h_59)
            · have t_45 := h_45.2.mp c_48
              refine zv_aload_n (j := 0) G dX10_mean_51 rfl rfl ?_
              refine zg_X10_118 G dX10_mean_52 ?_
              refine zv_iload_n (j := 1) G dX10_mean_55 rfl rfl ?_
              refine zv_iload_n (j := 2) G dX10_mean_56 rfl rfl ?_
              refine zv_iload (j := 5) G dX10_mean_57 rfl ?_
              refine zv_callSi (as := [za_O 22 99, za_I t, za_I k, za_I y5_29]) G (zc_X10_valueOn l E 99 t k y5_29 σ (by first | assumption | decide | omega | exact hz.2.1.1 | exact hz.2.1.2) (by first | assumption | decide | omega | exact hz.2.1.1 | exact hz.2.1.2) (by first | assumption | decide | omega | exact hz.2.1.1 | exact hz.2.1.2)) zk_X10_valueOn zm_1334 rfl ⟨(Nat.le_of_ble_eq_true rfl), (Nat.le_of_ble_eq_true rfl)⟩ ⟨Nat.zero_le _, Nat.zero_le _⟩ (Nat.le_of_ble_eq_true rfl) dX10_mean_59 (fun r_59 σ h_59 => ?_)
              obtain ⟨h_59, rfl⟩ := h_59
              refine zv_goto (tgt := 66) G dX10_mean_62 (by decide) ?_
              refine zv_sub [0, 1, 2, 4, 5] (lv' := [(0, za_O 19 93), (1, za_I t), (2, za_I k), (4, za_I y4_29), (5, za_I y5_29)]) rfl ?_
              exact J_66 r_59 σ (zq_m hz (by first | decide | omega | (have hL := z_lits; omega))) (by first | decide | exact z_vlq hJ hz t_6 t_13 t_45 h_59)
      refine zv_istore (lv' := [(5, za_I 0), (4, za_I 0), (3, za_I 0), (0, za_O 19 93), (1, za_I t), (2, za_I k)]) G dX10_mean_27 (by decide) rfl ?_
      refine zv_sub [3, 4, 5, 2, 1, 0] (lv' := [(0, za_O 19 93), (1, za_I t), (2, za_I k), (3, za_I 0), (4, za_I 0), (5, za_I 0)]) rfl ?_
      exact J_29 _ (0 : Int32) (0 : Int32) (0 : Int32) σ (zq_m hz (by first | decide | omega | (have hL := z_lits; omega))) (by have hL := z_lits; omega) (by decide) (by decide) (by decide) (by decide) (Nat.lt_succ_self _)
    · have f_13 := fun q9 => (h_13.2.mpr q9) c_16
      refine zv_iconst (v := (-1)) G dX10_mean_19 (by decide) ?_
      exact zv_iret G hr dX10_mean_20 (zq_m hz (by first | decide | omega | (have hL := z_lits; omega)))
set_option maxHeartbeats 4000000 in
set_option maxRecDepth 100000 in
theorem zc_X10_fewest (l : Launch) (E : za_E) (mm : Int32) (fd : Int32) (td : Int32) (σ : za_S) (hm : mm.toInt ≤ 20) : zMi l E yX10_fewest cX10_fewest 8 (Option.some Jvm.ClassFile.FieldType.int) 1 21 [za_O 19 93, za_I mm, za_I fd, za_I td] σ (fun r σ' => σ' = σ) := by
  refine zMi_of [(0, za_O 19 93), (1, za_I mm), (2, za_I fd), (3, za_I td)] (by decide) rfl rfl (Nat.le_of_ble_eq_true rfl) ?_
  intro ho p e s m args below meth c G hr
  refine zv_iconst (v := 0) G dX10_fewest_0 (by decide) ?_
  refine zv_istore (lv' := [(4, za_I 0), (0, za_O 19 93), (1, za_I mm), (2, za_I fd), (3, za_I td)]) G dX10_fewest_1 (by decide) rfl ?_
  refine zv_iload_n (j := 3) G dX10_fewest_3 rfl rfl ?_
  have J_6 : ∀ (n : Nat) (y4_6 : Int32) (y5_6 : Int32) (hn_6 : (2147483648 - y5_6.toInt).toNat < n), zV p l e (zRm 1 21) s m args below meth c E (za_A E) 8 0 0 (MQ below (va_Qi (fun r σ' => σ' = σ) (zB E) (za_A E)) args s 0 0 (za_A E)) 6 [(0, za_O 19 93), (1, za_I mm), (3, za_I td), (4, za_I y4_6), (5, za_I y5_6)] [] σ := by
    intro n
    induction n with
    | zero => intro y4_6 y5_6 hn; exact absurd hn (Nat.not_lt_zero _)
    | succ n ih_6 =>
      intro y4_6 y5_6 hn_6
      refine zv_iload (j := 4) G dX10_fewest_6 rfl ?_
      refine zv_iload_n (j := 2) G dX10_fewest_8 rfl rfl ?_
      refine zv_icmp_ge (tgt := 81) G dX10_fewest_9 (by decide) (fun c_9 => ?_) (fun c_9 => ?_)
      · have k_9 := z_cle c_9 (a := td.toInt) (b := y5_6.toInt) rfl rfl
        refine zv_iload (j := 3) G dX10_fewest_81 rfl ?_
        exact zv_iret G hr dX10_fewest_83 rfl
      · have k_9 := z_cnle c_9 (a := td.toInt) (b := y5_6.toInt) rfl rfl
        refine zv_iload (j := 4) G dX10_fewest_12 rfl ?_
        refine zv_istore (lv' := [(6, za_I y5_6), (0, za_O 19 93), (1, za_I mm), (3, za_I td), (4, za_I y4_6), (5, za_I y5_6)]) G dX10_fewest_14 (by decide) rfl ?_
        refine zv_iconst (v := 0) G dX10_fewest_16 (by decide) ?_
        have J_19 : ∀ (n : Nat) (y6_19 : Int32) (y7_19 : Int32) (f_19 : y5_6.toInt ≤ y6_19.toInt) (i7_19 : 0 ≤ y7_19.toInt) (hn_19 : (2147483648 - y7_19.toInt).toNat < n), zV p l e (zRm 1 21) s m args below meth c E (za_A E) 8 0 0 (MQ below (va_Qi (fun r σ' => σ' = σ) (zB E) (za_A E)) args s 0 0 (za_A E)) 19 [(0, za_O 19 93), (1, za_I mm), (3, za_I td), (4, za_I y4_6), (5, za_I y5_6), (6, za_I y6_19), (7, za_I y7_19)] [] σ := by
          intro n
          induction n with
          | zero => intro y6_19 y7_19 f_19 i7_19 hn; exact absurd hn (Nat.not_lt_zero _)
          | succ n ih_19 =>
            intro y6_19 y7_19 f_19 i7_19 hn_19
            refine zv_iload (j := 6) G dX10_fewest_19 rfl ?_
            refine zv_iload_n (j := 1) G dX10_fewest_21 rfl rfl ?_
            refine zv_icmp_ge (tgt := 62) G dX10_fewest_22 (by decide) (fun c_22 => ?_) (fun c_22 => ?_)
            · have k_22 := z_cle c_22 (a := mm.toInt) (b := y7_19.toInt) rfl rfl
              refine zv_iload (j := 5) G dX10_fewest_62 rfl ?_
              refine zv_iload (j := 4) G dX10_fewest_64 rfl ?_
              refine zv_icmp_ne (tgt := 71) G dX10_fewest_66 (by decide) (fun c_66 => ?_) (fun c_66 => ?_)
              · have k_66 := z_cne c_66 (a := y6_19.toInt) (b := y5_6.toInt) rfl rfl
                refine zv_iload (j := 5) G dX10_fewest_71 rfl ?_
                refine zv_istore (lv' := [(5, za_I y6_19), (0, za_O 19 93), (1, za_I mm), (3, za_I td), (4, za_I y4_6), (6, za_I y6_19), (7, za_I y7_19)]) G dX10_fewest_73 (by decide) rfl ?_
                obtain ⟨x_75, e_75⟩ : ∃ y : Int32, y = y4_6 + 1 := ⟨_, rfl⟩
                refine zv_iinc (j := 4) (v := x_75) (lv' := [(4, za_I x_75), (5, za_I y6_19), (0, za_O 19 93), (1, za_I mm), (3, za_I td), (6, za_I y6_19), (7, za_I y7_19)]) G dX10_fewest_75 rfl (by rw [e_75]; rfl) (by decide) rfl ?_
                first | have q_75 := z_inc9 (by omega) e_75 | skip
                refine zv_goto (tgt := 6) G dX10_fewest_78 (by decide) ?_
                refine zv_sub [2, 3, 4, 0, 1] (lv' := [(0, za_O 19 93), (1, za_I mm), (3, za_I td), (4, za_I x_75), (5, za_I y6_19)]) rfl ?_
                exact ih_6 x_75 y6_19 (by have h9 := z_rng y5_6; omega)
              · have k_66 := z_ceq c_66 (a := y6_19.toInt) (b := y5_6.toInt) rfl rfl
                refine zv_iconst (v := (-1)) G dX10_fewest_69 (by decide) ?_
                exact zv_iret G hr dX10_fewest_70 rfl
            · have k_22 := z_cnle c_22 (a := mm.toInt) (b := y7_19.toInt) rfl rfl
              refine zv_aload_n (j := 0) G dX10_fewest_25 rfl rfl ?_
              refine zg_X10_141 G dX10_fewest_26 ?_
              refine zv_iload (j := 6) G dX10_fewest_29 rfl ?_
              refine zv_iald G (by decide) rfl (z_in (by omega) (by omega)) dX10_fewest_31 ?_
              refine zv_iload (j := 4) G dX10_fewest_32 rfl ?_
              refine zv_icmp_gt (tgt := 52) G dX10_fewest_34 (by decide) (fun c_34 => ?_) (fun c_34 => ?_)
              · have k_34 := z_clt c_34 (a := y5_6.toInt) (b := (σ.1 186 y7_19.toNatClampNeg).toInt) rfl rfl
                refine zv_iload (j := 5) G dX10_fewest_52 rfl ?_
                refine zv_istore (lv' := [(6, za_I y6_19), (0, za_O 19 93), (1, za_I mm), (3, za_I td), (4, za_I y4_6), (5, za_I y5_6), (7, za_I y7_19)]) G dX10_fewest_54 (by decide) rfl ?_
                obtain ⟨x_56, e_56⟩ : ∃ y : Int32, y = y7_19 + 1 := ⟨_, rfl⟩
                refine zv_iinc (j := 6) (v := x_56) (lv' := [(7, za_I x_56), (6, za_I y6_19), (0, za_O 19 93), (1, za_I mm), (3, za_I td), (4, za_I y4_6), (5, za_I y5_6)]) G dX10_fewest_56 rfl (by rw [e_56]; rfl) (by decide) rfl ?_
                first | have q_56 := z_inc9 (by omega) e_56 | skip
                refine zv_goto (tgt := 19) G dX10_fewest_59 (by decide) ?_
                refine zv_sub [2, 3, 4, 5, 6, 1, 0] (lv' := [(0, za_O 19 93), (1, za_I mm), (3, za_I td), (4, za_I y4_6), (5, za_I y5_6), (6, za_I y6_19), (7, za_I x_56)]) rfl ?_
                exact ih_19 y6_19 x_56 f_19 (by have := z_inc c_22 e_56; omega) (z_meas c_22 e_56 hn_19)
              · have k_34 := z_cnlt c_34 (a := y5_6.toInt) (b := (σ.1 186 y7_19.toNatClampNeg).toInt) rfl rfl
                refine zv_iload (j := 5) G dX10_fewest_37 rfl ?_
                refine zv_aload_n (j := 0) G dX10_fewest_39 rfl rfl ?_
                refine zg_X10_144 G dX10_fewest_40 ?_
                refine zv_iload (j := 6) G dX10_fewest_43 rfl ?_
                refine zv_iald G (by decide) rfl (z_in (by omega) (by omega)) dX10_fewest_45 ?_
                refine zv_mmax G zm_1355 zm_395 zm_147 zm_396 (Nat.le_of_ble_eq_true rfl) (Nat.le_of_ble_eq_true rfl) (Nat.zero_le _) (Nat.zero_le _) dX10_fewest_46 ?_
                refine zv_top (fun x_46 e_46 => ?_)
                refine zv_goto (tgt := 54) G dX10_fewest_49 (by decide) ?_
                refine zv_istore (lv' := [(6, za_I x_46), (0, za_O 19 93), (1, za_I mm), (3, za_I td), (4, za_I y4_6), (5, za_I y5_6), (7, za_I y7_19)]) G dX10_fewest_54 (by decide) rfl ?_
                obtain ⟨x_56, e_56⟩ : ∃ y : Int32, y = y7_19 + 1 := ⟨_, rfl⟩
                refine zv_iinc (j := 6) (v := x_56) (lv' := [(7, za_I x_56), (6, za_I x_46), (0, za_O 19 93), (1, za_I mm), (3, za_I td), (4, za_I y4_6), (5, za_I y5_6)]) G dX10_fewest_56 rfl (by rw [e_56]; rfl) (by decide) rfl ?_
                first | have q_56 := z_inc9 (by omega) e_56 | skip
                refine zv_goto (tgt := 19) G dX10_fewest_59 (by decide) ?_
                refine zv_sub [2, 3, 4, 5, 6, 1, 0] (lv' := [(0, za_O 19 93), (1, za_I mm), (3, za_I td), (4, za_I y4_6), (5, za_I y5_6), (6, za_I x_46), (7, za_I x_56)]) rfl ?_
                exact ih_19 x_46 x_56 (z_mxg e_46 f_19) (by have := z_inc c_22 e_56; omega) (z_meas c_22 e_56 hn_19)
        refine zv_istore (lv' := [(7, za_I 0), (6, za_I y5_6), (0, za_O 19 93), (1, za_I mm), (3, za_I td), (4, za_I y4_6), (5, za_I y5_6)]) G dX10_fewest_17 (by decide) rfl ?_
        refine zv_sub [2, 3, 4, 5, 6, 1, 0] (lv' := [(0, za_O 19 93), (1, za_I mm), (3, za_I td), (4, za_I y4_6), (5, za_I y5_6), (6, za_I y5_6), (7, za_I 0)]) rfl ?_
        exact J_19 _ y5_6 (0 : Int32) (by omega) (by decide) (Nat.lt_succ_self _)
  refine zv_istore (lv' := [(5, za_I fd), (4, za_I 0), (0, za_O 19 93), (1, za_I mm), (2, za_I fd), (3, za_I td)]) G dX10_fewest_4 (by decide) rfl ?_
  refine zv_sub [2, 3, 5, 1, 0] (lv' := [(0, za_O 19 93), (1, za_I mm), (3, za_I td), (4, za_I 0), (5, za_I fd)]) rfl ?_
  exact J_6 _ (0 : Int32) fd (Nat.lt_succ_self _)
set_option maxHeartbeats 4000000 in
set_option maxRecDepth 100000 in
theorem zc_X10_haveAll (l : Launch) (E : za_E) (nn : Int32) (fd : Int32) (td : Int32) (σ : za_S) (hc : zch σ) (hn : nn.toInt ≤ 20) : zMi l E yX10_haveAll cX10_haveAll 8 (Option.some Jvm.ClassFile.FieldType.boolean) 2 46 [za_O 19 93, za_I nn, za_I fd, za_I td] σ (fun r σ' => (r = 0 ∨ r = 1) ∧ σ' = σ) := by
  refine zMi_of [(0, za_O 19 93), (1, za_I nn), (2, za_I fd), (3, za_I td)] (by decide) rfl rfl (Nat.le_of_ble_eq_true rfl) ?_
  intro ho p e s m args below meth c G hr
  refine zv_iconst (v := 1) G dX10_haveAll_0 (by decide) ?_
  refine zv_istore (lv' := [(4, za_I 1), (0, za_O 19 93), (1, za_I nn), (2, za_I fd), (3, za_I td)]) G dX10_haveAll_1 (by decide) rfl ?_
  refine zv_iload_n (j := 3) G dX10_haveAll_3 rfl rfl ?_
  have J_6 : ∀ (n : Nat) (y4_6 : Int32) (y5_6 : Int32) (b4_6 : y4_6 = 0 ∨ y4_6 = 1) (hn_6 : (2147483648 - y5_6.toInt).toNat < n), zV p l e (zRm 2 46) s m args below meth c E (za_A E) 8 0 0 (MQ below (va_Qi (fun r σ' => (r = 0 ∨ r = 1) ∧ σ' = σ) (zB E) (za_A E)) args s 0 0 (za_A E)) 6 [(0, za_O 19 93), (1, za_I nn), (3, za_I td), (4, za_I y4_6), (5, za_I y5_6)] [] σ := by
    intro n
    induction n with
    | zero => intro y4_6 y5_6 b4_6 hn; exact absurd hn (Nat.not_lt_zero _)
    | succ n ih_6 =>
      intro y4_6 y5_6 b4_6 hn_6
      refine zv_iload (j := 4) G dX10_haveAll_6 rfl ?_
      refine zv_iload_n (j := 2) G dX10_haveAll_8 rfl rfl ?_
      refine zv_icmp_ge (tgt := 86) G dX10_haveAll_9 (by decide) (fun c_9 => ?_) (fun c_9 => ?_)
      · have k_9 := z_cle c_9 (a := td.toInt) (b := y5_6.toInt) rfl rfl
        refine zv_iload (j := 3) G dX10_haveAll_86 rfl ?_
        exact zv_zret G hr dX10_haveAll_88 (z_nar b4_6) ⟨b4_6, rfl⟩
      · have k_9 := z_cnle c_9 (a := td.toInt) (b := y5_6.toInt) rfl rfl
        refine zv_iload (j := 3) G dX10_haveAll_12 rfl ?_
        refine zv_if_eq (tgt := 86) G dX10_haveAll_14 (by decide) (fun c_14 => ?_) (fun c_14 => ?_)
        · have k_14 := z_ceq c_14 (a := y4_6.toInt) (b := 0) rfl rfl
          refine zv_iload (j := 3) G dX10_haveAll_86 rfl ?_
          exact zv_zret G hr dX10_haveAll_88 (z_nar b4_6) ⟨b4_6, rfl⟩
        · have k_14 := z_cne c_14 (a := y4_6.toInt) (b := 0) rfl rfl
          refine zv_iconst (v := 0) G dX10_haveAll_17 (by decide) ?_
          refine zv_istore (lv' := [(6, za_I 0), (0, za_O 19 93), (1, za_I nn), (3, za_I td), (4, za_I y4_6), (5, za_I y5_6)]) G dX10_haveAll_18 (by decide) rfl ?_
          refine zv_iconst (v := 0) G dX10_haveAll_20 (by decide) ?_
          have J_23 : ∀ (n : Nat) (y6_23 : Int32) (y7_23 : Int32) (b6_23 : y6_23 = 0 ∨ y6_23 = 1) (i7_23 : 0 ≤ y7_23.toInt) (hn_23 : (2147483648 - y7_23.toInt).toNat < n), zV p l e (zRm 2 46) s m args below meth c E (za_A E) 8 0 0 (MQ below (va_Qi (fun r σ' => (r = 0 ∨ r = 1) ∧ σ' = σ) (zB E) (za_A E)) args s 0 0 (za_A E)) 23 [(0, za_O 19 93), (1, za_I nn), (3, za_I td), (5, za_I y5_6), (6, za_I y6_23), (7, za_I y7_23)] [] σ := by
            intro n
            induction n with
            | zero => intro y6_23 y7_23 b6_23 i7_23 hn; exact absurd hn (Nat.not_lt_zero _)
            | succ n ih_23 =>
              intro y6_23 y7_23 b6_23 i7_23 hn_23
              refine zv_iload (j := 5) G dX10_haveAll_23 rfl ?_
              refine zv_iload_n (j := 1) G dX10_haveAll_25 rfl rfl ?_
              refine zv_icmp_ge (tgt := 76) G dX10_haveAll_26 (by decide) (fun c_26 => ?_) (fun c_26 => ?_)
              · have k_26 := z_cle c_26 (a := nn.toInt) (b := y7_23.toInt) rfl rfl
                refine zv_iload (j := 4) G dX10_haveAll_76 rfl ?_
                refine zv_istore (lv' := [(4, za_I y6_23), (0, za_O 19 93), (1, za_I nn), (3, za_I td), (5, za_I y5_6), (6, za_I y6_23), (7, za_I y7_23)]) G dX10_haveAll_78 (by decide) rfl ?_
                obtain ⟨x_80, e_80⟩ : ∃ y : Int32, y = y5_6 + 1 := ⟨_, rfl⟩
                refine zv_iinc (j := 4) (v := x_80) (lv' := [(5, za_I x_80), (4, za_I y6_23), (0, za_O 19 93), (1, za_I nn), (3, za_I td), (6, za_I y6_23), (7, za_I y7_23)]) G dX10_haveAll_80 rfl (by rw [e_80]; rfl) (by decide) rfl ?_
                first | have q_80 := z_inc9 (by omega) e_80 | skip
                refine zv_goto (tgt := 6) G dX10_haveAll_83 (by decide) ?_
                refine zv_sub [2, 3, 4, 1, 0] (lv' := [(0, za_O 19 93), (1, za_I nn), (3, za_I td), (4, za_I y6_23), (5, za_I x_80)]) rfl ?_
                exact ih_6 y6_23 x_80 b6_23 (z_meas c_9 e_80 hn_6)
              · have k_26 := z_cnle c_26 (a := nn.toInt) (b := y7_23.toInt) rfl rfl
                refine zv_iload (j := 4) G dX10_haveAll_29 rfl ?_
                refine zv_if_ne (tgt := 76) G dX10_haveAll_31 (by decide) (fun c_31 => ?_) (fun c_31 => ?_)
                · have k_31 := z_cne c_31 (a := y6_23.toInt) (b := 0) rfl rfl
                  refine zv_iload (j := 4) G dX10_haveAll_76 rfl ?_
                  refine zv_istore (lv' := [(4, za_I y6_23), (0, za_O 19 93), (1, za_I nn), (3, za_I td), (5, za_I y5_6), (6, za_I y6_23), (7, za_I y7_23)]) G dX10_haveAll_78 (by decide) rfl ?_
                  obtain ⟨x_80, e_80⟩ : ∃ y : Int32, y = y5_6 + 1 := ⟨_, rfl⟩
                  refine zv_iinc (j := 4) (v := x_80) (lv' := [(5, za_I x_80), (4, za_I y6_23), (0, za_O 19 93), (1, za_I nn), (3, za_I td), (6, za_I y6_23), (7, za_I y7_23)]) G dX10_haveAll_80 rfl (by rw [e_80]; rfl) (by decide) rfl ?_
                  first | have q_80 := z_inc9 (by omega) e_80 | skip
                  refine zv_goto (tgt := 6) G dX10_haveAll_83 (by decide) ?_
                  refine zv_sub [2, 3, 4, 1, 0] (lv' := [(0, za_O 19 93), (1, za_I nn), (3, za_I td), (4, za_I y6_23), (5, za_I x_80)]) rfl ?_
                  exact ih_6 y6_23 x_80 b6_23 (z_meas c_9 e_80 hn_6)
                · have k_31 := z_ceq c_31 (a := y6_23.toInt) (b := 0) rfl rfl
                  refine zv_iload (j := 3) G dX10_haveAll_34 rfl ?_
                  refine zv_i2l G dX10_haveAll_36 ?_
                  refine zv_aload_n (j := 0) G dX10_haveAll_37 rfl rfl ?_
                  refine zg_X10_141 G dX10_haveAll_38 ?_
                  refine zv_aload_n (j := 0) G dX10_haveAll_41 rfl rfl ?_
                  refine zg_X10_147 G dX10_haveAll_42 ?_
                  refine zv_iload (j := 5) G dX10_haveAll_45 rfl ?_
                  refine zv_iald G (by decide) rfl (z_in (by omega) (by omega)) dX10_haveAll_47 ?_
                  refine zv_iald G (by decide) rfl (z_chx hc (by omega) (by omega)) dX10_haveAll_48 ?_
                  refine zv_i2l G dX10_haveAll_49 ?_
                  refine zv_aload_n (j := 0) G dX10_haveAll_50 rfl rfl ?_
                  refine zg_X10_144 G dX10_haveAll_51 ?_
                  refine zv_aload_n (j := 0) G dX10_haveAll_54 rfl rfl ?_
                  refine zg_X10_147 G dX10_haveAll_55 ?_
                  refine zv_iload (j := 5) G dX10_haveAll_58 rfl ?_
                  refine zv_iald G (by decide) rfl (z_in (by omega) (by omega)) dX10_haveAll_60 ?_
                  refine zv_iald G (by decide) rfl (z_chx hc (by omega) (by omega)) dX10_haveAll_61 ?_
                  refine zv_iconst (v := 1) G dX10_haveAll_62 (by decide) ?_
                  refine zv_isub G dX10_haveAll_63 ?_
                  refine zv_i2l G dX10_haveAll_64 ?_
                  refine zv_callSi (as := [za_L y5_6.toInt64, za_L ((σ.1 186 (σ.1 188 y7_23.toNatClampNeg).toNatClampNeg).toInt64), za_L (((σ.1 187 (σ.1 188 y7_23.toNatClampNeg).toNatClampNeg) - 1).toInt64)]) G (zc_X10_in l E y5_6.toInt64 ((σ.1 186 (σ.1 188 y7_23.toNatClampNeg).toNatClampNeg).toInt64) (((σ.1 187 (σ.1 188 y7_23.toNatClampNeg).toNatClampNeg) - 1).toInt64) σ ) zk_X10_in zm_1180 rfl ⟨(Nat.le_of_ble_eq_true rfl), (Nat.le_of_ble_eq_true rfl)⟩ ⟨Nat.zero_le _, Nat.zero_le _⟩ (Nat.le_of_ble_eq_true rfl) dX10_haveAll_65 (fun r_65 σ h_65 => ?_)
                  obtain ⟨h_65, rfl⟩ := h_65
                  refine zv_istore (lv' := [(6, za_I r_65), (0, za_O 19 93), (1, za_I nn), (3, za_I td), (5, za_I y5_6), (7, za_I y7_23)]) G dX10_haveAll_68 (by decide) rfl ?_
                  obtain ⟨x_70, e_70⟩ : ∃ y : Int32, y = y7_23 + 1 := ⟨_, rfl⟩
                  refine zv_iinc (j := 5) (v := x_70) (lv' := [(7, za_I x_70), (6, za_I r_65), (0, za_O 19 93), (1, za_I nn), (3, za_I td), (5, za_I y5_6)]) G dX10_haveAll_70 rfl (by rw [e_70]; rfl) (by decide) rfl ?_
                  first | have q_70 := z_inc9 (by omega) e_70 | skip
                  refine zv_goto (tgt := 23) G dX10_haveAll_73 (by decide) ?_
                  refine zv_sub [2, 3, 4, 5, 1, 0] (lv' := [(0, za_O 19 93), (1, za_I nn), (3, za_I td), (5, za_I y5_6), (6, za_I r_65), (7, za_I x_70)]) rfl ?_
                  exact ih_23 r_65 x_70 h_65.1 (by have := z_inc c_26 e_70; omega) (z_meas c_26 e_70 hn_23)
          refine zv_istore (lv' := [(7, za_I 0), (6, za_I 0), (0, za_O 19 93), (1, za_I nn), (3, za_I td), (4, za_I y4_6), (5, za_I y5_6)]) G dX10_haveAll_21 (by decide) rfl ?_
          refine zv_sub [2, 3, 4, 6, 1, 0] (lv' := [(0, za_O 19 93), (1, za_I nn), (3, za_I td), (5, za_I y5_6), (6, za_I 0), (7, za_I 0)]) rfl ?_
          exact J_23 _ (0 : Int32) (0 : Int32) (Or.inl rfl) (by decide) (Nat.lt_succ_self _)
  refine zv_istore (lv' := [(5, za_I fd), (4, za_I 1), (0, za_O 19 93), (1, za_I nn), (2, za_I fd), (3, za_I td)]) G dX10_haveAll_4 (by decide) rfl ?_
  refine zv_sub [2, 3, 5, 1, 0] (lv' := [(0, za_O 19 93), (1, za_I nn), (3, za_I td), (4, za_I 1), (5, za_I fd)]) rfl ?_
  exact J_6 _ (1 : Int32) fd (Or.inr rfl) (Nat.lt_succ_self _)
set_option maxHeartbeats 4000000 in
set_option maxRecDepth 100000 in
theorem zc_X10_chooses_at20 (l : Launch) (E : za_E) (nn : Int32) (f : Int32) (mm : Int32) (fd : Int32) (td : Int32) (σ0 : za_S) (hJ : zJ σ0) (hn : 20 ≤ nn.toInt) (hf : 20 ≤ f.toInt ∧ f.toInt ≤ 20) (hm : 0 ≤ mm.toInt ∧ mm.toInt ≤ 20) : zMi l E yX10_chooses cX10_chooses 8 (Option.some Jvm.ClassFile.FieldType.boolean) 3 73 [za_O 19 93, za_I 20, za_I nn, za_I f, za_I mm, za_I fd, za_I td] σ0 (fun r σ' => (r = 0 ∨ r = 1) ∧ zq 12 σ0 σ') := by
  refine zMi_of [(0, za_O 19 93), (1, za_I 20), (2, za_I nn), (3, za_I f), (4, za_I mm), (5, za_I fd), (6, za_I td)] (by decide) rfl rfl (Nat.le_of_ble_eq_true rfl) ?_
  intro ho p e s m args below meth c G hr
  refine zv_gen (R9 := zq 12 σ0) (zq_0 hJ) (fun σ hz => ?_)
  refine zv_iload_n (j := 1) G dX10_chooses_0 rfl rfl ?_
  refine zv_iload_n (j := 2) G dX10_chooses_1 rfl rfl ?_
  refine zv_icmp_ne (tgt := 15) G dX10_chooses_2 (by decide) (fun c_2 => ?_) (fun c_2 => ?_)
  · have k_2 := z_cne c_2 (a := 20) (b := nn.toInt) rfl rfl
    refine zv_iload_n (j := 3) G dX10_chooses_15 rfl rfl ?_
    refine zv_istore (lv' := [(7, za_I f), (0, za_O 19 93), (1, za_I 20), (2, za_I nn), (3, za_I f), (4, za_I mm), (5, za_I fd), (6, za_I td)]) G dX10_chooses_16 (by decide) rfl ?_
    refine zv_iload (j := 0) G dX10_chooses_18 rfl ?_
    refine zv_iload (j := 5) G dX10_chooses_20 rfl ?_
    refine zv_iload_n (j := 3) G dX10_chooses_22 rfl rfl ?_
    refine zv_iload_n (j := 2) G dX10_chooses_23 rfl rfl ?_
    refine zv_isub G dX10_chooses_24 ?_
    refine zv_isub G dX10_chooses_25 ?_
    refine zv_icmp_gt (tgt := 66) G dX10_chooses_26 (by decide) (fun c_26 => ?_) (fun c_26 => ?_)
    · have k_26 := z_clt c_26 (a := (mm - (nn - 20)).toInt) (b := f.toInt) rfl rfl
      refine zv_iconst (v := 0) G dX10_chooses_66 (by decide) ?_
      exact zv_zret G hr dX10_chooses_67 (by decide) ⟨(Or.inl rfl), (zq_m hz (by first | decide | omega | (have hL := z_lits; omega)))⟩
    · exact False.elim (by have h9 := z_lim (D := 20) rfl (by decide) hn hm c_26; omega)
  · have k_2 := z_ceq c_2 (a := 20) (b := nn.toInt) rfl rfl
    refine zv_aload_n (j := 0) G dX10_chooses_5 rfl rfl ?_
    refine zv_iload_n (j := 2) G dX10_chooses_6 rfl rfl ?_
    refine zv_iload (j := 5) G dX10_chooses_7 rfl ?_
    refine zv_iload (j := 6) G dX10_chooses_9 rfl ?_
    refine zv_callVi (as := [za_I nn, za_I fd, za_I td]) G (by decide) rfl rfl (zc_X10_haveAll l E nn fd td σ hz.2.2.1 (by omega)) zk_X10_haveAll zm_1619 rfl ⟨(Nat.le_of_ble_eq_true rfl), (Nat.le_of_ble_eq_true rfl)⟩ ⟨Nat.zero_le _, Nat.zero_le _⟩ (Nat.le_of_ble_eq_true rfl) dX10_chooses_11 (fun r_11 σ h_11 => ?_)
    obtain ⟨h_11, rfl⟩ := h_11
    exact zv_zret G hr dX10_chooses_14 (z_nar h_11) ⟨h_11, (zq_m hz (by first | decide | omega | (have hL := z_lits; omega)))⟩
set_option maxHeartbeats 4000000 in
set_option maxRecDepth 100000 in
theorem zc_X10_chooses_at19 (l : Launch) (E : za_E) (nn : Int32) (f : Int32) (mm : Int32) (fd : Int32) (td : Int32) (σ0 : za_S) (hJ : zJ σ0) (hn : 19 ≤ nn.toInt) (hf : 19 ≤ f.toInt ∧ f.toInt ≤ 20) (hm : 0 ≤ mm.toInt ∧ mm.toInt ≤ 20) : zMi l E yX10_chooses cX10_chooses 8 (Option.some Jvm.ClassFile.FieldType.boolean) 4 100 [za_O 19 93, za_I 19, za_I nn, za_I f, za_I mm, za_I fd, za_I td] σ0 (fun r σ' => (r = 0 ∨ r = 1) ∧ zq 12 σ0 σ') := by
  refine zMi_of [(0, za_O 19 93), (1, za_I 19), (2, za_I nn), (3, za_I f), (4, za_I mm), (5, za_I fd), (6, za_I td)] (by decide) rfl rfl (Nat.le_of_ble_eq_true rfl) ?_
  intro ho p e s m args below meth c G hr
  refine zv_gen (R9 := zq 12 σ0) (zq_0 hJ) (fun σ hz => ?_)
  refine zv_iload_n (j := 1) G dX10_chooses_0 rfl rfl ?_
  refine zv_iload_n (j := 2) G dX10_chooses_1 rfl rfl ?_
  refine zv_icmp_ne (tgt := 15) G dX10_chooses_2 (by decide) (fun c_2 => ?_) (fun c_2 => ?_)
  · have k_2 := z_cne c_2 (a := 19) (b := nn.toInt) rfl rfl
    refine zv_iload_n (j := 3) G dX10_chooses_15 rfl rfl ?_
    have J_18 : ∀ (n : Nat) (y7_18 : Int32) (σ : za_S) (hz : zq 12 σ0 σ) (g_18 : 19 ≤ y7_18.toInt ∧ y7_18.toInt ≤ 20) (i7_18 : 0 ≤ y7_18.toInt) (hn_18 : (20 - y7_18.toInt).toNat < n), zV p l e (zRm 4 100) s m args below meth c E (za_A E) 8 0 0 (MQ below (va_Qi (fun r σ' => (r = 0 ∨ r = 1) ∧ zq 12 σ0 σ') (zB E) (za_A E)) args s 0 0 (za_A E)) 18 [(0, za_O 19 93), (1, za_I 19), (2, za_I nn), (4, za_I mm), (5, za_I fd), (6, za_I td), (7, za_I y7_18)] [] σ := by
      intro n
      induction n with
      | zero => intro y7_18 σ hz g_18 i7_18 hn; exact absurd hn (Nat.not_lt_zero _)
      | succ n ih_18 =>
        intro y7_18 σ hz g_18 i7_18 hn_18
        refine zv_iload (j := 6) G dX10_chooses_18 rfl ?_
        refine zv_iload (j := 3) G dX10_chooses_20 rfl ?_
        refine zv_iload_n (j := 2) G dX10_chooses_22 rfl rfl ?_
        refine zv_iload_n (j := 1) G dX10_chooses_23 rfl rfl ?_
        refine zv_isub G dX10_chooses_24 ?_
        refine zv_isub G dX10_chooses_25 ?_
        refine zv_icmp_gt (tgt := 66) G dX10_chooses_26 (by decide) (fun c_26 => ?_) (fun c_26 => ?_)
        · have k_26 := z_clt c_26 (a := (mm - (nn - 19)).toInt) (b := y7_18.toInt) rfl rfl
          refine zv_iconst (v := 0) G dX10_chooses_66 (by decide) ?_
          exact zv_zret G hr dX10_chooses_67 (by decide) ⟨(Or.inl rfl), (zq_m hz (by first | decide | omega | (have hL := z_lits; omega)))⟩
        · have k_26 := z_cnlt c_26 (a := (mm - (nn - 19)).toInt) (b := y7_18.toInt) rfl rfl
          have l_26 := z_lim (D := 19) rfl (by decide) hn hm c_26
          refine zv_aload_n (j := 0) G dX10_chooses_29 rfl rfl ?_
          refine zg_X10_147 G dX10_chooses_30 ?_
          refine zv_iload_n (j := 1) G dX10_chooses_33 rfl rfl ?_
          refine zv_iload (j := 6) G dX10_chooses_34 rfl ?_
          refine zv_iast G (by decide) rfl (fun _ => rfl) (z_in (by decide) (by decide)) dX10_chooses_36 ?_
          refine zv_gen (R9 := zq 12 σ0) (zq_c hz (by omega)) (fun σ hz => ?_)
          refine zv_aload_n (j := 0) G dX10_chooses_37 rfl rfl ?_
          refine zv_iload_n (j := 1) G dX10_chooses_38 rfl rfl ?_
          refine zv_iconst (v := 1) G dX10_chooses_39 (by decide) ?_
          refine zv_iadd G dX10_chooses_40 ?_
          refine zv_cst (y := 20) (by decide) ?_
          refine zv_iload_n (j := 2) G dX10_chooses_41 rfl rfl ?_
          refine zv_iload (j := 6) G dX10_chooses_42 rfl ?_
          refine zv_iconst (v := 1) G dX10_chooses_44 (by decide) ?_
          refine zv_iadd G dX10_chooses_45 ?_
          refine zv_iload (j := 3) G dX10_chooses_46 rfl ?_
          refine zv_iload (j := 4) G dX10_chooses_48 rfl ?_
          refine zv_iload (j := 5) G dX10_chooses_50 rfl ?_
          refine zv_callVi (as := [za_I 20, za_I nn, za_I (y7_18 + 1), za_I mm, za_I fd, za_I td]) G (by decide) rfl rfl (zc_X10_chooses_at20 l E nn (y7_18 + 1) mm fd td σ (zq_J hJ (zq_m hz (by decide))) (by omega) (by have h9 := z_u1 (x := y7_18) (a := 19) (b := 19) (by omega) (by decide) (by decide); omega) hm) zk_X10_chooses zm_1615 rfl ⟨(Nat.le_of_ble_eq_true rfl), (Nat.le_of_ble_eq_true rfl)⟩ ⟨Nat.zero_le _, Nat.zero_le _⟩ (Nat.le_of_ble_eq_true rfl) dX10_chooses_52 (fun r_52 σ h_52 => ?_)
          obtain ⟨h_52, hz9⟩ := h_52
          have hz : zq 12 σ0 σ := zq_tr hz hz9
          refine zv_if_eq (tgt := 60) G dX10_chooses_55 (by decide) (fun c_55 => ?_) (fun c_55 => ?_)
          · obtain ⟨x_60, e_60⟩ : ∃ y : Int32, y = y7_18 + 1 := ⟨_, rfl⟩
            refine zv_iinc (j := 6) (v := x_60) (lv' := [(7, za_I x_60), (0, za_O 19 93), (1, za_I 19), (2, za_I nn), (4, za_I mm), (5, za_I fd), (6, za_I td)]) G dX10_chooses_60 rfl (by rw [e_60]; rfl) (by decide) rfl ?_
            first | have q_60 := z_inc9 (by omega) e_60 | skip
            refine zv_goto (tgt := 18) G dX10_chooses_63 (by decide) ?_
            refine zv_sub [1, 2, 3, 4, 5, 6, 0] (lv' := [(0, za_O 19 93), (1, za_I 19), (2, za_I nn), (4, za_I mm), (5, za_I fd), (6, za_I td), (7, za_I x_60)]) rfl ?_
            exact ih_18 x_60 σ (zq_m hz (by first | decide | omega | (have hL := z_lits; omega))) (by omega) (by have := z_inc9 (by omega) e_60; omega) (by omega)
          · refine zv_iconst (v := 1) G dX10_chooses_58 (by decide) ?_
            exact zv_zret G hr dX10_chooses_59 (by decide) ⟨(Or.inr rfl), (zq_m hz (by first | decide | omega | (have hL := z_lits; omega)))⟩
    refine zv_istore (lv' := [(7, za_I f), (0, za_O 19 93), (1, za_I 19), (2, za_I nn), (3, za_I f), (4, za_I mm), (5, za_I fd), (6, za_I td)]) G dX10_chooses_16 (by decide) rfl ?_
    refine zv_sub [1, 2, 3, 5, 6, 7, 0] (lv' := [(0, za_O 19 93), (1, za_I 19), (2, za_I nn), (4, za_I mm), (5, za_I fd), (6, za_I td), (7, za_I f)]) rfl ?_
    exact J_18 _ f σ (zq_m hz (by first | decide | omega | (have hL := z_lits; omega))) (by omega) (by first | assumption | omega) (Nat.lt_succ_self _)
  · have k_2 := z_ceq c_2 (a := 19) (b := nn.toInt) rfl rfl
    refine zv_aload_n (j := 0) G dX10_chooses_5 rfl rfl ?_
    refine zv_iload_n (j := 2) G dX10_chooses_6 rfl rfl ?_
    refine zv_iload (j := 5) G dX10_chooses_7 rfl ?_
    refine zv_iload (j := 6) G dX10_chooses_9 rfl ?_
    refine zv_callVi (as := [za_I nn, za_I fd, za_I td]) G (by decide) rfl rfl (zc_X10_haveAll l E nn fd td σ hz.2.2.1 (by omega)) zk_X10_haveAll zm_1619 rfl ⟨(Nat.le_of_ble_eq_true rfl), (Nat.le_of_ble_eq_true rfl)⟩ ⟨Nat.zero_le _, Nat.zero_le _⟩ (Nat.le_of_ble_eq_true rfl) dX10_chooses_11 (fun r_11 σ h_11 => ?_)
    obtain ⟨h_11, rfl⟩ := h_11
    exact zv_zret G hr dX10_chooses_14 (z_nar h_11) ⟨h_11, (zq_m hz (by first | decide | omega | (have hL := z_lits; omega)))⟩
set_option maxHeartbeats 4000000 in
set_option maxRecDepth 100000 in
theorem zc_X10_chooses_at18 (l : Launch) (E : za_E) (nn : Int32) (f : Int32) (mm : Int32) (fd : Int32) (td : Int32) (σ0 : za_S) (hJ : zJ σ0) (hn : 18 ≤ nn.toInt) (hf : 18 ≤ f.toInt ∧ f.toInt ≤ 20) (hm : 0 ≤ mm.toInt ∧ mm.toInt ≤ 20) : zMi l E yX10_chooses cX10_chooses 8 (Option.some Jvm.ClassFile.FieldType.boolean) 5 127 [za_O 19 93, za_I 18, za_I nn, za_I f, za_I mm, za_I fd, za_I td] σ0 (fun r σ' => (r = 0 ∨ r = 1) ∧ zq 12 σ0 σ') := by
  refine zMi_of [(0, za_O 19 93), (1, za_I 18), (2, za_I nn), (3, za_I f), (4, za_I mm), (5, za_I fd), (6, za_I td)] (by decide) rfl rfl (Nat.le_of_ble_eq_true rfl) ?_
  intro ho p e s m args below meth c G hr
  refine zv_gen (R9 := zq 12 σ0) (zq_0 hJ) (fun σ hz => ?_)
  refine zv_iload_n (j := 1) G dX10_chooses_0 rfl rfl ?_
  refine zv_iload_n (j := 2) G dX10_chooses_1 rfl rfl ?_
  refine zv_icmp_ne (tgt := 15) G dX10_chooses_2 (by decide) (fun c_2 => ?_) (fun c_2 => ?_)
  · have k_2 := z_cne c_2 (a := 18) (b := nn.toInt) rfl rfl
    refine zv_iload_n (j := 3) G dX10_chooses_15 rfl rfl ?_
    have J_18 : ∀ (n : Nat) (y7_18 : Int32) (σ : za_S) (hz : zq 12 σ0 σ) (g_18 : 18 ≤ y7_18.toInt ∧ y7_18.toInt ≤ 20) (i7_18 : 0 ≤ y7_18.toInt) (hn_18 : (20 - y7_18.toInt).toNat < n), zV p l e (zRm 5 127) s m args below meth c E (za_A E) 8 0 0 (MQ below (va_Qi (fun r σ' => (r = 0 ∨ r = 1) ∧ zq 12 σ0 σ') (zB E) (za_A E)) args s 0 0 (za_A E)) 18 [(0, za_O 19 93), (1, za_I 18), (2, za_I nn), (4, za_I mm), (5, za_I fd), (6, za_I td), (7, za_I y7_18)] [] σ := by
      intro n
      induction n with
      | zero => intro y7_18 σ hz g_18 i7_18 hn; exact absurd hn (Nat.not_lt_zero _)
      | succ n ih_18 =>
        intro y7_18 σ hz g_18 i7_18 hn_18
        refine zv_iload (j := 6) G dX10_chooses_18 rfl ?_
        refine zv_iload (j := 3) G dX10_chooses_20 rfl ?_
        refine zv_iload_n (j := 2) G dX10_chooses_22 rfl rfl ?_
        refine zv_iload_n (j := 1) G dX10_chooses_23 rfl rfl ?_
        refine zv_isub G dX10_chooses_24 ?_
        refine zv_isub G dX10_chooses_25 ?_
        refine zv_icmp_gt (tgt := 66) G dX10_chooses_26 (by decide) (fun c_26 => ?_) (fun c_26 => ?_)
        · have k_26 := z_clt c_26 (a := (mm - (nn - 18)).toInt) (b := y7_18.toInt) rfl rfl
          refine zv_iconst (v := 0) G dX10_chooses_66 (by decide) ?_
          exact zv_zret G hr dX10_chooses_67 (by decide) ⟨(Or.inl rfl), (zq_m hz (by first | decide | omega | (have hL := z_lits; omega)))⟩
        · have k_26 := z_cnlt c_26 (a := (mm - (nn - 18)).toInt) (b := y7_18.toInt) rfl rfl
          have l_26 := z_lim (D := 18) rfl (by decide) hn hm c_26
          refine zv_aload_n (j := 0) G dX10_chooses_29 rfl rfl ?_
          refine zg_X10_147 G dX10_chooses_30 ?_
          refine zv_iload_n (j := 1) G dX10_chooses_33 rfl rfl ?_
          refine zv_iload (j := 6) G dX10_chooses_34 rfl ?_
          refine zv_iast G (by decide) rfl (fun _ => rfl) (z_in (by decide) (by decide)) dX10_chooses_36 ?_
          refine zv_gen (R9 := zq 12 σ0) (zq_c hz (by omega)) (fun σ hz => ?_)
          refine zv_aload_n (j := 0) G dX10_chooses_37 rfl rfl ?_
          refine zv_iload_n (j := 1) G dX10_chooses_38 rfl rfl ?_
          refine zv_iconst (v := 1) G dX10_chooses_39 (by decide) ?_
          refine zv_iadd G dX10_chooses_40 ?_
          refine zv_cst (y := 19) (by decide) ?_
          refine zv_iload_n (j := 2) G dX10_chooses_41 rfl rfl ?_
          refine zv_iload (j := 6) G dX10_chooses_42 rfl ?_
          refine zv_iconst (v := 1) G dX10_chooses_44 (by decide) ?_
          refine zv_iadd G dX10_chooses_45 ?_
          refine zv_iload (j := 3) G dX10_chooses_46 rfl ?_
          refine zv_iload (j := 4) G dX10_chooses_48 rfl ?_
          refine zv_iload (j := 5) G dX10_chooses_50 rfl ?_
          refine zv_callVi (as := [za_I 19, za_I nn, za_I (y7_18 + 1), za_I mm, za_I fd, za_I td]) G (by decide) rfl rfl (zc_X10_chooses_at19 l E nn (y7_18 + 1) mm fd td σ (zq_J hJ (zq_m hz (by decide))) (by omega) (by have h9 := z_u1 (x := y7_18) (a := 18) (b := 19) (by omega) (by decide) (by decide); omega) hm) zk_X10_chooses zm_1615 rfl ⟨(Nat.le_of_ble_eq_true rfl), (Nat.le_of_ble_eq_true rfl)⟩ ⟨Nat.zero_le _, Nat.zero_le _⟩ (Nat.le_of_ble_eq_true rfl) dX10_chooses_52 (fun r_52 σ h_52 => ?_)
          obtain ⟨h_52, hz9⟩ := h_52
          have hz : zq 12 σ0 σ := zq_tr hz hz9
          refine zv_if_eq (tgt := 60) G dX10_chooses_55 (by decide) (fun c_55 => ?_) (fun c_55 => ?_)
          · obtain ⟨x_60, e_60⟩ : ∃ y : Int32, y = y7_18 + 1 := ⟨_, rfl⟩
            refine zv_iinc (j := 6) (v := x_60) (lv' := [(7, za_I x_60), (0, za_O 19 93), (1, za_I 18), (2, za_I nn), (4, za_I mm), (5, za_I fd), (6, za_I td)]) G dX10_chooses_60 rfl (by rw [e_60]; rfl) (by decide) rfl ?_
            first | have q_60 := z_inc9 (by omega) e_60 | skip
            refine zv_goto (tgt := 18) G dX10_chooses_63 (by decide) ?_
            refine zv_sub [1, 2, 3, 4, 5, 6, 0] (lv' := [(0, za_O 19 93), (1, za_I 18), (2, za_I nn), (4, za_I mm), (5, za_I fd), (6, za_I td), (7, za_I x_60)]) rfl ?_
            exact ih_18 x_60 σ (zq_m hz (by first | decide | omega | (have hL := z_lits; omega))) (by omega) (by have := z_inc9 (by omega) e_60; omega) (by omega)
          · refine zv_iconst (v := 1) G dX10_chooses_58 (by decide) ?_
            exact zv_zret G hr dX10_chooses_59 (by decide) ⟨(Or.inr rfl), (zq_m hz (by first | decide | omega | (have hL := z_lits; omega)))⟩
    refine zv_istore (lv' := [(7, za_I f), (0, za_O 19 93), (1, za_I 18), (2, za_I nn), (3, za_I f), (4, za_I mm), (5, za_I fd), (6, za_I td)]) G dX10_chooses_16 (by decide) rfl ?_
    refine zv_sub [1, 2, 3, 5, 6, 7, 0] (lv' := [(0, za_O 19 93), (1, za_I 18), (2, za_I nn), (4, za_I mm), (5, za_I fd), (6, za_I td), (7, za_I f)]) rfl ?_
    exact J_18 _ f σ (zq_m hz (by first | decide | omega | (have hL := z_lits; omega))) (by omega) (by first | assumption | omega) (Nat.lt_succ_self _)
  · have k_2 := z_ceq c_2 (a := 18) (b := nn.toInt) rfl rfl
    refine zv_aload_n (j := 0) G dX10_chooses_5 rfl rfl ?_
    refine zv_iload_n (j := 2) G dX10_chooses_6 rfl rfl ?_
    refine zv_iload (j := 5) G dX10_chooses_7 rfl ?_
    refine zv_iload (j := 6) G dX10_chooses_9 rfl ?_
    refine zv_callVi (as := [za_I nn, za_I fd, za_I td]) G (by decide) rfl rfl (zc_X10_haveAll l E nn fd td σ hz.2.2.1 (by omega)) zk_X10_haveAll zm_1619 rfl ⟨(Nat.le_of_ble_eq_true rfl), (Nat.le_of_ble_eq_true rfl)⟩ ⟨Nat.zero_le _, Nat.zero_le _⟩ (Nat.le_of_ble_eq_true rfl) dX10_chooses_11 (fun r_11 σ h_11 => ?_)
    obtain ⟨h_11, rfl⟩ := h_11
    exact zv_zret G hr dX10_chooses_14 (z_nar h_11) ⟨h_11, (zq_m hz (by first | decide | omega | (have hL := z_lits; omega)))⟩
set_option maxHeartbeats 4000000 in
set_option maxRecDepth 100000 in
theorem zc_X10_chooses_at17 (l : Launch) (E : za_E) (nn : Int32) (f : Int32) (mm : Int32) (fd : Int32) (td : Int32) (σ0 : za_S) (hJ : zJ σ0) (hn : 17 ≤ nn.toInt) (hf : 17 ≤ f.toInt ∧ f.toInt ≤ 20) (hm : 0 ≤ mm.toInt ∧ mm.toInt ≤ 20) : zMi l E yX10_chooses cX10_chooses 8 (Option.some Jvm.ClassFile.FieldType.boolean) 6 154 [za_O 19 93, za_I 17, za_I nn, za_I f, za_I mm, za_I fd, za_I td] σ0 (fun r σ' => (r = 0 ∨ r = 1) ∧ zq 12 σ0 σ') := by
  refine zMi_of [(0, za_O 19 93), (1, za_I 17), (2, za_I nn), (3, za_I f), (4, za_I mm), (5, za_I fd), (6, za_I td)] (by decide) rfl rfl (Nat.le_of_ble_eq_true rfl) ?_
  intro ho p e s m args below meth c G hr
  refine zv_gen (R9 := zq 12 σ0) (zq_0 hJ) (fun σ hz => ?_)
  refine zv_iload_n (j := 1) G dX10_chooses_0 rfl rfl ?_
  refine zv_iload_n (j := 2) G dX10_chooses_1 rfl rfl ?_
  refine zv_icmp_ne (tgt := 15) G dX10_chooses_2 (by decide) (fun c_2 => ?_) (fun c_2 => ?_)
  · have k_2 := z_cne c_2 (a := 17) (b := nn.toInt) rfl rfl
    refine zv_iload_n (j := 3) G dX10_chooses_15 rfl rfl ?_
    have J_18 : ∀ (n : Nat) (y7_18 : Int32) (σ : za_S) (hz : zq 12 σ0 σ) (g_18 : 17 ≤ y7_18.toInt ∧ y7_18.toInt ≤ 20) (i7_18 : 0 ≤ y7_18.toInt) (hn_18 : (20 - y7_18.toInt).toNat < n), zV p l e (zRm 6 154) s m args below meth c E (za_A E) 8 0 0 (MQ below (va_Qi (fun r σ' => (r = 0 ∨ r = 1) ∧ zq 12 σ0 σ') (zB E) (za_A E)) args s 0 0 (za_A E)) 18 [(0, za_O 19 93), (1, za_I 17), (2, za_I nn), (4, za_I mm), (5, za_I fd), (6, za_I td), (7, za_I y7_18)] [] σ := by
      intro n
      induction n with
      | zero => intro y7_18 σ hz g_18 i7_18 hn; exact absurd hn (Nat.not_lt_zero _)
      | succ n ih_18 =>
        intro y7_18 σ hz g_18 i7_18 hn_18
        refine zv_iload (j := 6) G dX10_chooses_18 rfl ?_
        refine zv_iload (j := 3) G dX10_chooses_20 rfl ?_
        refine zv_iload_n (j := 2) G dX10_chooses_22 rfl rfl ?_
        refine zv_iload_n (j := 1) G dX10_chooses_23 rfl rfl ?_
        refine zv_isub G dX10_chooses_24 ?_
        refine zv_isub G dX10_chooses_25 ?_
        refine zv_icmp_gt (tgt := 66) G dX10_chooses_26 (by decide) (fun c_26 => ?_) (fun c_26 => ?_)
        · have k_26 := z_clt c_26 (a := (mm - (nn - 17)).toInt) (b := y7_18.toInt) rfl rfl
          refine zv_iconst (v := 0) G dX10_chooses_66 (by decide) ?_
          exact zv_zret G hr dX10_chooses_67 (by decide) ⟨(Or.inl rfl), (zq_m hz (by first | decide | omega | (have hL := z_lits; omega)))⟩
        · have k_26 := z_cnlt c_26 (a := (mm - (nn - 17)).toInt) (b := y7_18.toInt) rfl rfl
          have l_26 := z_lim (D := 17) rfl (by decide) hn hm c_26
          refine zv_aload_n (j := 0) G dX10_chooses_29 rfl rfl ?_
          refine zg_X10_147 G dX10_chooses_30 ?_
          refine zv_iload_n (j := 1) G dX10_chooses_33 rfl rfl ?_
          refine zv_iload (j := 6) G dX10_chooses_34 rfl ?_
          refine zv_iast G (by decide) rfl (fun _ => rfl) (z_in (by decide) (by decide)) dX10_chooses_36 ?_
          refine zv_gen (R9 := zq 12 σ0) (zq_c hz (by omega)) (fun σ hz => ?_)
          refine zv_aload_n (j := 0) G dX10_chooses_37 rfl rfl ?_
          refine zv_iload_n (j := 1) G dX10_chooses_38 rfl rfl ?_
          refine zv_iconst (v := 1) G dX10_chooses_39 (by decide) ?_
          refine zv_iadd G dX10_chooses_40 ?_
          refine zv_cst (y := 18) (by decide) ?_
          refine zv_iload_n (j := 2) G dX10_chooses_41 rfl rfl ?_
          refine zv_iload (j := 6) G dX10_chooses_42 rfl ?_
          refine zv_iconst (v := 1) G dX10_chooses_44 (by decide) ?_
          refine zv_iadd G dX10_chooses_45 ?_
          refine zv_iload (j := 3) G dX10_chooses_46 rfl ?_
          refine zv_iload (j := 4) G dX10_chooses_48 rfl ?_
          refine zv_iload (j := 5) G dX10_chooses_50 rfl ?_
          refine zv_callVi (as := [za_I 18, za_I nn, za_I (y7_18 + 1), za_I mm, za_I fd, za_I td]) G (by decide) rfl rfl (zc_X10_chooses_at18 l E nn (y7_18 + 1) mm fd td σ (zq_J hJ (zq_m hz (by decide))) (by omega) (by have h9 := z_u1 (x := y7_18) (a := 17) (b := 19) (by omega) (by decide) (by decide); omega) hm) zk_X10_chooses zm_1615 rfl ⟨(Nat.le_of_ble_eq_true rfl), (Nat.le_of_ble_eq_true rfl)⟩ ⟨Nat.zero_le _, Nat.zero_le _⟩ (Nat.le_of_ble_eq_true rfl) dX10_chooses_52 (fun r_52 σ h_52 => ?_)
          obtain ⟨h_52, hz9⟩ := h_52
          have hz : zq 12 σ0 σ := zq_tr hz hz9
          refine zv_if_eq (tgt := 60) G dX10_chooses_55 (by decide) (fun c_55 => ?_) (fun c_55 => ?_)
          · obtain ⟨x_60, e_60⟩ : ∃ y : Int32, y = y7_18 + 1 := ⟨_, rfl⟩
            refine zv_iinc (j := 6) (v := x_60) (lv' := [(7, za_I x_60), (0, za_O 19 93), (1, za_I 17), (2, za_I nn), (4, za_I mm), (5, za_I fd), (6, za_I td)]) G dX10_chooses_60 rfl (by rw [e_60]; rfl) (by decide) rfl ?_
            first | have q_60 := z_inc9 (by omega) e_60 | skip
            refine zv_goto (tgt := 18) G dX10_chooses_63 (by decide) ?_
            refine zv_sub [1, 2, 3, 4, 5, 6, 0] (lv' := [(0, za_O 19 93), (1, za_I 17), (2, za_I nn), (4, za_I mm), (5, za_I fd), (6, za_I td), (7, za_I x_60)]) rfl ?_
            exact ih_18 x_60 σ (zq_m hz (by first | decide | omega | (have hL := z_lits; omega))) (by omega) (by have := z_inc9 (by omega) e_60; omega) (by omega)
          · refine zv_iconst (v := 1) G dX10_chooses_58 (by decide) ?_
            exact zv_zret G hr dX10_chooses_59 (by decide) ⟨(Or.inr rfl), (zq_m hz (by first | decide | omega | (have hL := z_lits; omega)))⟩
    refine zv_istore (lv' := [(7, za_I f), (0, za_O 19 93), (1, za_I 17), (2, za_I nn), (3, za_I f), (4, za_I mm), (5, za_I fd), (6, za_I td)]) G dX10_chooses_16 (by decide) rfl ?_
    refine zv_sub [1, 2, 3, 5, 6, 7, 0] (lv' := [(0, za_O 19 93), (1, za_I 17), (2, za_I nn), (4, za_I mm), (5, za_I fd), (6, za_I td), (7, za_I f)]) rfl ?_
    exact J_18 _ f σ (zq_m hz (by first | decide | omega | (have hL := z_lits; omega))) (by omega) (by first | assumption | omega) (Nat.lt_succ_self _)
  · have k_2 := z_ceq c_2 (a := 17) (b := nn.toInt) rfl rfl
    refine zv_aload_n (j := 0) G dX10_chooses_5 rfl rfl ?_
    refine zv_iload_n (j := 2) G dX10_chooses_6 rfl rfl ?_
    refine zv_iload (j := 5) G dX10_chooses_7 rfl ?_
    refine zv_iload (j := 6) G dX10_chooses_9 rfl ?_
    refine zv_callVi (as := [za_I nn, za_I fd, za_I td]) G (by decide) rfl rfl (zc_X10_haveAll l E nn fd td σ hz.2.2.1 (by omega)) zk_X10_haveAll zm_1619 rfl ⟨(Nat.le_of_ble_eq_true rfl), (Nat.le_of_ble_eq_true rfl)⟩ ⟨Nat.zero_le _, Nat.zero_le _⟩ (Nat.le_of_ble_eq_true rfl) dX10_chooses_11 (fun r_11 σ h_11 => ?_)
    obtain ⟨h_11, rfl⟩ := h_11
    exact zv_zret G hr dX10_chooses_14 (z_nar h_11) ⟨h_11, (zq_m hz (by first | decide | omega | (have hL := z_lits; omega)))⟩
set_option maxHeartbeats 4000000 in
set_option maxRecDepth 100000 in
theorem zc_X10_chooses_at16 (l : Launch) (E : za_E) (nn : Int32) (f : Int32) (mm : Int32) (fd : Int32) (td : Int32) (σ0 : za_S) (hJ : zJ σ0) (hn : 16 ≤ nn.toInt) (hf : 16 ≤ f.toInt ∧ f.toInt ≤ 20) (hm : 0 ≤ mm.toInt ∧ mm.toInt ≤ 20) : zMi l E yX10_chooses cX10_chooses 8 (Option.some Jvm.ClassFile.FieldType.boolean) 7 181 [za_O 19 93, za_I 16, za_I nn, za_I f, za_I mm, za_I fd, za_I td] σ0 (fun r σ' => (r = 0 ∨ r = 1) ∧ zq 12 σ0 σ') := by
  refine zMi_of [(0, za_O 19 93), (1, za_I 16), (2, za_I nn), (3, za_I f), (4, za_I mm), (5, za_I fd), (6, za_I td)] (by decide) rfl rfl (Nat.le_of_ble_eq_true rfl) ?_
  intro ho p e s m args below meth c G hr
  refine zv_gen (R9 := zq 12 σ0) (zq_0 hJ) (fun σ hz => ?_)
  refine zv_iload_n (j := 1) G dX10_chooses_0 rfl rfl ?_
  refine zv_iload_n (j := 2) G dX10_chooses_1 rfl rfl ?_
  refine zv_icmp_ne (tgt := 15) G dX10_chooses_2 (by decide) (fun c_2 => ?_) (fun c_2 => ?_)
  · have k_2 := z_cne c_2 (a := 16) (b := nn.toInt) rfl rfl
    refine zv_iload_n (j := 3) G dX10_chooses_15 rfl rfl ?_
    have J_18 : ∀ (n : Nat) (y7_18 : Int32) (σ : za_S) (hz : zq 12 σ0 σ) (g_18 : 16 ≤ y7_18.toInt ∧ y7_18.toInt ≤ 20) (i7_18 : 0 ≤ y7_18.toInt) (hn_18 : (20 - y7_18.toInt).toNat < n), zV p l e (zRm 7 181) s m args below meth c E (za_A E) 8 0 0 (MQ below (va_Qi (fun r σ' => (r = 0 ∨ r = 1) ∧ zq 12 σ0 σ') (zB E) (za_A E)) args s 0 0 (za_A E)) 18 [(0, za_O 19 93), (1, za_I 16), (2, za_I nn), (4, za_I mm), (5, za_I fd), (6, za_I td), (7, za_I y7_18)] [] σ := by
      intro n
      induction n with
      | zero => intro y7_18 σ hz g_18 i7_18 hn; exact absurd hn (Nat.not_lt_zero _)
      | succ n ih_18 =>
        intro y7_18 σ hz g_18 i7_18 hn_18
        refine zv_iload (j := 6) G dX10_chooses_18 rfl ?_
        refine zv_iload (j := 3) G dX10_chooses_20 rfl ?_
        refine zv_iload_n (j := 2) G dX10_chooses_22 rfl rfl ?_
        refine zv_iload_n (j := 1) G dX10_chooses_23 rfl rfl ?_
        refine zv_isub G dX10_chooses_24 ?_
        refine zv_isub G dX10_chooses_25 ?_
        refine zv_icmp_gt (tgt := 66) G dX10_chooses_26 (by decide) (fun c_26 => ?_) (fun c_26 => ?_)
        · have k_26 := z_clt c_26 (a := (mm - (nn - 16)).toInt) (b := y7_18.toInt) rfl rfl
          refine zv_iconst (v := 0) G dX10_chooses_66 (by decide) ?_
          exact zv_zret G hr dX10_chooses_67 (by decide) ⟨(Or.inl rfl), (zq_m hz (by first | decide | omega | (have hL := z_lits; omega)))⟩
        · have k_26 := z_cnlt c_26 (a := (mm - (nn - 16)).toInt) (b := y7_18.toInt) rfl rfl
          have l_26 := z_lim (D := 16) rfl (by decide) hn hm c_26
          refine zv_aload_n (j := 0) G dX10_chooses_29 rfl rfl ?_
          refine zg_X10_147 G dX10_chooses_30 ?_
          refine zv_iload_n (j := 1) G dX10_chooses_33 rfl rfl ?_
          refine zv_iload (j := 6) G dX10_chooses_34 rfl ?_
          refine zv_iast G (by decide) rfl (fun _ => rfl) (z_in (by decide) (by decide)) dX10_chooses_36 ?_
          refine zv_gen (R9 := zq 12 σ0) (zq_c hz (by omega)) (fun σ hz => ?_)
          refine zv_aload_n (j := 0) G dX10_chooses_37 rfl rfl ?_
          refine zv_iload_n (j := 1) G dX10_chooses_38 rfl rfl ?_
          refine zv_iconst (v := 1) G dX10_chooses_39 (by decide) ?_
          refine zv_iadd G dX10_chooses_40 ?_
          refine zv_cst (y := 17) (by decide) ?_
          refine zv_iload_n (j := 2) G dX10_chooses_41 rfl rfl ?_
          refine zv_iload (j := 6) G dX10_chooses_42 rfl ?_
          refine zv_iconst (v := 1) G dX10_chooses_44 (by decide) ?_
          refine zv_iadd G dX10_chooses_45 ?_
          refine zv_iload (j := 3) G dX10_chooses_46 rfl ?_
          refine zv_iload (j := 4) G dX10_chooses_48 rfl ?_
          refine zv_iload (j := 5) G dX10_chooses_50 rfl ?_
          refine zv_callVi (as := [za_I 17, za_I nn, za_I (y7_18 + 1), za_I mm, za_I fd, za_I td]) G (by decide) rfl rfl (zc_X10_chooses_at17 l E nn (y7_18 + 1) mm fd td σ (zq_J hJ (zq_m hz (by decide))) (by omega) (by have h9 := z_u1 (x := y7_18) (a := 16) (b := 19) (by omega) (by decide) (by decide); omega) hm) zk_X10_chooses zm_1615 rfl ⟨(Nat.le_of_ble_eq_true rfl), (Nat.le_of_ble_eq_true rfl)⟩ ⟨Nat.zero_le _, Nat.zero_le _⟩ (Nat.le_of_ble_eq_true rfl) dX10_chooses_52 (fun r_52 σ h_52 => ?_)
          obtain ⟨h_52, hz9⟩ := h_52
          have hz : zq 12 σ0 σ := zq_tr hz hz9
          refine zv_if_eq (tgt := 60) G dX10_chooses_55 (by decide) (fun c_55 => ?_) (fun c_55 => ?_)
          · obtain ⟨x_60, e_60⟩ : ∃ y : Int32, y = y7_18 + 1 := ⟨_, rfl⟩
            refine zv_iinc (j := 6) (v := x_60) (lv' := [(7, za_I x_60), (0, za_O 19 93), (1, za_I 16), (2, za_I nn), (4, za_I mm), (5, za_I fd), (6, za_I td)]) G dX10_chooses_60 rfl (by rw [e_60]; rfl) (by decide) rfl ?_
            first | have q_60 := z_inc9 (by omega) e_60 | skip
            refine zv_goto (tgt := 18) G dX10_chooses_63 (by decide) ?_
            refine zv_sub [1, 2, 3, 4, 5, 6, 0] (lv' := [(0, za_O 19 93), (1, za_I 16), (2, za_I nn), (4, za_I mm), (5, za_I fd), (6, za_I td), (7, za_I x_60)]) rfl ?_
            exact ih_18 x_60 σ (zq_m hz (by first | decide | omega | (have hL := z_lits; omega))) (by omega) (by have := z_inc9 (by omega) e_60; omega) (by omega)
          · refine zv_iconst (v := 1) G dX10_chooses_58 (by decide) ?_
            exact zv_zret G hr dX10_chooses_59 (by decide) ⟨(Or.inr rfl), (zq_m hz (by first | decide | omega | (have hL := z_lits; omega)))⟩
    refine zv_istore (lv' := [(7, za_I f), (0, za_O 19 93), (1, za_I 16), (2, za_I nn), (3, za_I f), (4, za_I mm), (5, za_I fd), (6, za_I td)]) G dX10_chooses_16 (by decide) rfl ?_
    refine zv_sub [1, 2, 3, 5, 6, 7, 0] (lv' := [(0, za_O 19 93), (1, za_I 16), (2, za_I nn), (4, za_I mm), (5, za_I fd), (6, za_I td), (7, za_I f)]) rfl ?_
    exact J_18 _ f σ (zq_m hz (by first | decide | omega | (have hL := z_lits; omega))) (by omega) (by first | assumption | omega) (Nat.lt_succ_self _)
  · have k_2 := z_ceq c_2 (a := 16) (b := nn.toInt) rfl rfl
    refine zv_aload_n (j := 0) G dX10_chooses_5 rfl rfl ?_
    refine zv_iload_n (j := 2) G dX10_chooses_6 rfl rfl ?_
    refine zv_iload (j := 5) G dX10_chooses_7 rfl ?_
    refine zv_iload (j := 6) G dX10_chooses_9 rfl ?_
    refine zv_callVi (as := [za_I nn, za_I fd, za_I td]) G (by decide) rfl rfl (zc_X10_haveAll l E nn fd td σ hz.2.2.1 (by omega)) zk_X10_haveAll zm_1619 rfl ⟨(Nat.le_of_ble_eq_true rfl), (Nat.le_of_ble_eq_true rfl)⟩ ⟨Nat.zero_le _, Nat.zero_le _⟩ (Nat.le_of_ble_eq_true rfl) dX10_chooses_11 (fun r_11 σ h_11 => ?_)
    obtain ⟨h_11, rfl⟩ := h_11
    exact zv_zret G hr dX10_chooses_14 (z_nar h_11) ⟨h_11, (zq_m hz (by first | decide | omega | (have hL := z_lits; omega)))⟩
set_option maxHeartbeats 4000000 in
set_option maxRecDepth 100000 in
theorem zc_X10_chooses_at15 (l : Launch) (E : za_E) (nn : Int32) (f : Int32) (mm : Int32) (fd : Int32) (td : Int32) (σ0 : za_S) (hJ : zJ σ0) (hn : 15 ≤ nn.toInt) (hf : 15 ≤ f.toInt ∧ f.toInt ≤ 20) (hm : 0 ≤ mm.toInt ∧ mm.toInt ≤ 20) : zMi l E yX10_chooses cX10_chooses 8 (Option.some Jvm.ClassFile.FieldType.boolean) 8 208 [za_O 19 93, za_I 15, za_I nn, za_I f, za_I mm, za_I fd, za_I td] σ0 (fun r σ' => (r = 0 ∨ r = 1) ∧ zq 12 σ0 σ') := by
  refine zMi_of [(0, za_O 19 93), (1, za_I 15), (2, za_I nn), (3, za_I f), (4, za_I mm), (5, za_I fd), (6, za_I td)] (by decide) rfl rfl (Nat.le_of_ble_eq_true rfl) ?_
  intro ho p e s m args below meth c G hr
  refine zv_gen (R9 := zq 12 σ0) (zq_0 hJ) (fun σ hz => ?_)
  refine zv_iload_n (j := 1) G dX10_chooses_0 rfl rfl ?_
  refine zv_iload_n (j := 2) G dX10_chooses_1 rfl rfl ?_
  refine zv_icmp_ne (tgt := 15) G dX10_chooses_2 (by decide) (fun c_2 => ?_) (fun c_2 => ?_)
  · have k_2 := z_cne c_2 (a := 15) (b := nn.toInt) rfl rfl
    refine zv_iload_n (j := 3) G dX10_chooses_15 rfl rfl ?_
    have J_18 : ∀ (n : Nat) (y7_18 : Int32) (σ : za_S) (hz : zq 12 σ0 σ) (g_18 : 15 ≤ y7_18.toInt ∧ y7_18.toInt ≤ 20) (i7_18 : 0 ≤ y7_18.toInt) (hn_18 : (20 - y7_18.toInt).toNat < n), zV p l e (zRm 8 208) s m args below meth c E (za_A E) 8 0 0 (MQ below (va_Qi (fun r σ' => (r = 0 ∨ r = 1) ∧ zq 12 σ0 σ') (zB E) (za_A E)) args s 0 0 (za_A E)) 18 [(0, za_O 19 93), (1, za_I 15), (2, za_I nn), (4, za_I mm), (5, za_I fd), (6, za_I td), (7, za_I y7_18)] [] σ := by
      intro n
      induction n with
      | zero => intro y7_18 σ hz g_18 i7_18 hn; exact absurd hn (Nat.not_lt_zero _)
      | succ n ih_18 =>
        intro y7_18 σ hz g_18 i7_18 hn_18
        refine zv_iload (j := 6) G dX10_chooses_18 rfl ?_
        refine zv_iload (j := 3) G dX10_chooses_20 rfl ?_
        refine zv_iload_n (j := 2) G dX10_chooses_22 rfl rfl ?_
        refine zv_iload_n (j := 1) G dX10_chooses_23 rfl rfl ?_
        refine zv_isub G dX10_chooses_24 ?_
        refine zv_isub G dX10_chooses_25 ?_
        refine zv_icmp_gt (tgt := 66) G dX10_chooses_26 (by decide) (fun c_26 => ?_) (fun c_26 => ?_)
        · have k_26 := z_clt c_26 (a := (mm - (nn - 15)).toInt) (b := y7_18.toInt) rfl rfl
          refine zv_iconst (v := 0) G dX10_chooses_66 (by decide) ?_
          exact zv_zret G hr dX10_chooses_67 (by decide) ⟨(Or.inl rfl), (zq_m hz (by first | decide | omega | (have hL := z_lits; omega)))⟩
        · have k_26 := z_cnlt c_26 (a := (mm - (nn - 15)).toInt) (b := y7_18.toInt) rfl rfl
          have l_26 := z_lim (D := 15) rfl (by decide) hn hm c_26
          refine zv_aload_n (j := 0) G dX10_chooses_29 rfl rfl ?_
          refine zg_X10_147 G dX10_chooses_30 ?_
          refine zv_iload_n (j := 1) G dX10_chooses_33 rfl rfl ?_
          refine zv_iload (j := 6) G dX10_chooses_34 rfl ?_
          refine zv_iast G (by decide) rfl (fun _ => rfl) (z_in (by decide) (by decide)) dX10_chooses_36 ?_
          refine zv_gen (R9 := zq 12 σ0) (zq_c hz (by omega)) (fun σ hz => ?_)
          refine zv_aload_n (j := 0) G dX10_chooses_37 rfl rfl ?_
          refine zv_iload_n (j := 1) G dX10_chooses_38 rfl rfl ?_
          refine zv_iconst (v := 1) G dX10_chooses_39 (by decide) ?_
          refine zv_iadd G dX10_chooses_40 ?_
          refine zv_cst (y := 16) (by decide) ?_
          refine zv_iload_n (j := 2) G dX10_chooses_41 rfl rfl ?_
          refine zv_iload (j := 6) G dX10_chooses_42 rfl ?_
          refine zv_iconst (v := 1) G dX10_chooses_44 (by decide) ?_
          refine zv_iadd G dX10_chooses_45 ?_
          refine zv_iload (j := 3) G dX10_chooses_46 rfl ?_
          refine zv_iload (j := 4) G dX10_chooses_48 rfl ?_
          refine zv_iload (j := 5) G dX10_chooses_50 rfl ?_
          refine zv_callVi (as := [za_I 16, za_I nn, za_I (y7_18 + 1), za_I mm, za_I fd, za_I td]) G (by decide) rfl rfl (zc_X10_chooses_at16 l E nn (y7_18 + 1) mm fd td σ (zq_J hJ (zq_m hz (by decide))) (by omega) (by have h9 := z_u1 (x := y7_18) (a := 15) (b := 19) (by omega) (by decide) (by decide); omega) hm) zk_X10_chooses zm_1615 rfl ⟨(Nat.le_of_ble_eq_true rfl), (Nat.le_of_ble_eq_true rfl)⟩ ⟨Nat.zero_le _, Nat.zero_le _⟩ (Nat.le_of_ble_eq_true rfl) dX10_chooses_52 (fun r_52 σ h_52 => ?_)
          obtain ⟨h_52, hz9⟩ := h_52
          have hz : zq 12 σ0 σ := zq_tr hz hz9
          refine zv_if_eq (tgt := 60) G dX10_chooses_55 (by decide) (fun c_55 => ?_) (fun c_55 => ?_)
          · obtain ⟨x_60, e_60⟩ : ∃ y : Int32, y = y7_18 + 1 := ⟨_, rfl⟩
            refine zv_iinc (j := 6) (v := x_60) (lv' := [(7, za_I x_60), (0, za_O 19 93), (1, za_I 15), (2, za_I nn), (4, za_I mm), (5, za_I fd), (6, za_I td)]) G dX10_chooses_60 rfl (by rw [e_60]; rfl) (by decide) rfl ?_
            first | have q_60 := z_inc9 (by omega) e_60 | skip
            refine zv_goto (tgt := 18) G dX10_chooses_63 (by decide) ?_
            refine zv_sub [1, 2, 3, 4, 5, 6, 0] (lv' := [(0, za_O 19 93), (1, za_I 15), (2, za_I nn), (4, za_I mm), (5, za_I fd), (6, za_I td), (7, za_I x_60)]) rfl ?_
            exact ih_18 x_60 σ (zq_m hz (by first | decide | omega | (have hL := z_lits; omega))) (by omega) (by have := z_inc9 (by omega) e_60; omega) (by omega)
          · refine zv_iconst (v := 1) G dX10_chooses_58 (by decide) ?_
            exact zv_zret G hr dX10_chooses_59 (by decide) ⟨(Or.inr rfl), (zq_m hz (by first | decide | omega | (have hL := z_lits; omega)))⟩
    refine zv_istore (lv' := [(7, za_I f), (0, za_O 19 93), (1, za_I 15), (2, za_I nn), (3, za_I f), (4, za_I mm), (5, za_I fd), (6, za_I td)]) G dX10_chooses_16 (by decide) rfl ?_
    refine zv_sub [1, 2, 3, 5, 6, 7, 0] (lv' := [(0, za_O 19 93), (1, za_I 15), (2, za_I nn), (4, za_I mm), (5, za_I fd), (6, za_I td), (7, za_I f)]) rfl ?_
    exact J_18 _ f σ (zq_m hz (by first | decide | omega | (have hL := z_lits; omega))) (by omega) (by first | assumption | omega) (Nat.lt_succ_self _)
  · have k_2 := z_ceq c_2 (a := 15) (b := nn.toInt) rfl rfl
    refine zv_aload_n (j := 0) G dX10_chooses_5 rfl rfl ?_
    refine zv_iload_n (j := 2) G dX10_chooses_6 rfl rfl ?_
    refine zv_iload (j := 5) G dX10_chooses_7 rfl ?_
    refine zv_iload (j := 6) G dX10_chooses_9 rfl ?_
    refine zv_callVi (as := [za_I nn, za_I fd, za_I td]) G (by decide) rfl rfl (zc_X10_haveAll l E nn fd td σ hz.2.2.1 (by omega)) zk_X10_haveAll zm_1619 rfl ⟨(Nat.le_of_ble_eq_true rfl), (Nat.le_of_ble_eq_true rfl)⟩ ⟨Nat.zero_le _, Nat.zero_le _⟩ (Nat.le_of_ble_eq_true rfl) dX10_chooses_11 (fun r_11 σ h_11 => ?_)
    obtain ⟨h_11, rfl⟩ := h_11
    exact zv_zret G hr dX10_chooses_14 (z_nar h_11) ⟨h_11, (zq_m hz (by first | decide | omega | (have hL := z_lits; omega)))⟩
set_option maxHeartbeats 4000000 in
set_option maxRecDepth 100000 in
theorem zc_X10_chooses_at14 (l : Launch) (E : za_E) (nn : Int32) (f : Int32) (mm : Int32) (fd : Int32) (td : Int32) (σ0 : za_S) (hJ : zJ σ0) (hn : 14 ≤ nn.toInt) (hf : 14 ≤ f.toInt ∧ f.toInt ≤ 20) (hm : 0 ≤ mm.toInt ∧ mm.toInt ≤ 20) : zMi l E yX10_chooses cX10_chooses 8 (Option.some Jvm.ClassFile.FieldType.boolean) 9 235 [za_O 19 93, za_I 14, za_I nn, za_I f, za_I mm, za_I fd, za_I td] σ0 (fun r σ' => (r = 0 ∨ r = 1) ∧ zq 12 σ0 σ') := by
  refine zMi_of [(0, za_O 19 93), (1, za_I 14), (2, za_I nn), (3, za_I f), (4, za_I mm), (5, za_I fd), (6, za_I td)] (by decide) rfl rfl (Nat.le_of_ble_eq_true rfl) ?_
  intro ho p e s m args below meth c G hr
  refine zv_gen (R9 := zq 12 σ0) (zq_0 hJ) (fun σ hz => ?_)
  refine zv_iload_n (j := 1) G dX10_chooses_0 rfl rfl ?_
  refine zv_iload_n (j := 2) G dX10_chooses_1 rfl rfl ?_
  refine zv_icmp_ne (tgt := 15) G dX10_chooses_2 (by decide) (fun c_2 => ?_) (fun c_2 => ?_)
  · have k_2 := z_cne c_2 (a := 14) (b := nn.toInt) rfl rfl
    refine zv_iload_n (j := 3) G dX10_chooses_15 rfl rfl ?_
    have J_18 : ∀ (n : Nat) (y7_18 : Int32) (σ : za_S) (hz : zq 12 σ0 σ) (g_18 : 14 ≤ y7_18.toInt ∧ y7_18.toInt ≤ 20) (i7_18 : 0 ≤ y7_18.toInt) (hn_18 : (20 - y7_18.toInt).toNat < n), zV p l e (zRm 9 235) s m args below meth c E (za_A E) 8 0 0 (MQ below (va_Qi (fun r σ' => (r = 0 ∨ r = 1) ∧ zq 12 σ0 σ') (zB E) (za_A E)) args s 0 0 (za_A E)) 18 [(0, za_O 19 93), (1, za_I 14), (2, za_I nn), (4, za_I mm), (5, za_I fd), (6, za_I td), (7, za_I y7_18)] [] σ := by
      intro n
      induction n with
      | zero => intro y7_18 σ hz g_18 i7_18 hn; exact absurd hn (Nat.not_lt_zero _)
      | succ n ih_18 =>
        intro y7_18 σ hz g_18 i7_18 hn_18
        refine zv_iload (j := 6) G dX10_chooses_18 rfl ?_
        refine zv_iload (j := 3) G dX10_chooses_20 rfl ?_
        refine zv_iload_n (j := 2) G dX10_chooses_22 rfl rfl ?_
        refine zv_iload_n (j := 1) G dX10_chooses_23 rfl rfl ?_
        refine zv_isub G dX10_chooses_24 ?_
        refine zv_isub G dX10_chooses_25 ?_
        refine zv_icmp_gt (tgt := 66) G dX10_chooses_26 (by decide) (fun c_26 => ?_) (fun c_26 => ?_)
        · have k_26 := z_clt c_26 (a := (mm - (nn - 14)).toInt) (b := y7_18.toInt) rfl rfl
          refine zv_iconst (v := 0) G dX10_chooses_66 (by decide) ?_
          exact zv_zret G hr dX10_chooses_67 (by decide) ⟨(Or.inl rfl), (zq_m hz (by first | decide | omega | (have hL := z_lits; omega)))⟩
        · have k_26 := z_cnlt c_26 (a := (mm - (nn - 14)).toInt) (b := y7_18.toInt) rfl rfl
          have l_26 := z_lim (D := 14) rfl (by decide) hn hm c_26
          refine zv_aload_n (j := 0) G dX10_chooses_29 rfl rfl ?_
          refine zg_X10_147 G dX10_chooses_30 ?_
          refine zv_iload_n (j := 1) G dX10_chooses_33 rfl rfl ?_
          refine zv_iload (j := 6) G dX10_chooses_34 rfl ?_
          refine zv_iast G (by decide) rfl (fun _ => rfl) (z_in (by decide) (by decide)) dX10_chooses_36 ?_
          refine zv_gen (R9 := zq 12 σ0) (zq_c hz (by omega)) (fun σ hz => ?_)
          refine zv_aload_n (j := 0) G dX10_chooses_37 rfl rfl ?_
          refine zv_iload_n (j := 1) G dX10_chooses_38 rfl rfl ?_
          refine zv_iconst (v := 1) G dX10_chooses_39 (by decide) ?_
          refine zv_iadd G dX10_chooses_40 ?_
          refine zv_cst (y := 15) (by decide) ?_
          refine zv_iload_n (j := 2) G dX10_chooses_41 rfl rfl ?_
          refine zv_iload (j := 6) G dX10_chooses_42 rfl ?_
          refine zv_iconst (v := 1) G dX10_chooses_44 (by decide) ?_
          refine zv_iadd G dX10_chooses_45 ?_
          refine zv_iload (j := 3) G dX10_chooses_46 rfl ?_
          refine zv_iload (j := 4) G dX10_chooses_48 rfl ?_
          refine zv_iload (j := 5) G dX10_chooses_50 rfl ?_
          refine zv_callVi (as := [za_I 15, za_I nn, za_I (y7_18 + 1), za_I mm, za_I fd, za_I td]) G (by decide) rfl rfl (zc_X10_chooses_at15 l E nn (y7_18 + 1) mm fd td σ (zq_J hJ (zq_m hz (by decide))) (by omega) (by have h9 := z_u1 (x := y7_18) (a := 14) (b := 19) (by omega) (by decide) (by decide); omega) hm) zk_X10_chooses zm_1615 rfl ⟨(Nat.le_of_ble_eq_true rfl), (Nat.le_of_ble_eq_true rfl)⟩ ⟨Nat.zero_le _, Nat.zero_le _⟩ (Nat.le_of_ble_eq_true rfl) dX10_chooses_52 (fun r_52 σ h_52 => ?_)
          obtain ⟨h_52, hz9⟩ := h_52
          have hz : zq 12 σ0 σ := zq_tr hz hz9
          refine zv_if_eq (tgt := 60) G dX10_chooses_55 (by decide) (fun c_55 => ?_) (fun c_55 => ?_)
          · obtain ⟨x_60, e_60⟩ : ∃ y : Int32, y = y7_18 + 1 := ⟨_, rfl⟩
            refine zv_iinc (j := 6) (v := x_60) (lv' := [(7, za_I x_60), (0, za_O 19 93), (1, za_I 14), (2, za_I nn), (4, za_I mm), (5, za_I fd), (6, za_I td)]) G dX10_chooses_60 rfl (by rw [e_60]; rfl) (by decide) rfl ?_
            first | have q_60 := z_inc9 (by omega) e_60 | skip
            refine zv_goto (tgt := 18) G dX10_chooses_63 (by decide) ?_
            refine zv_sub [1, 2, 3, 4, 5, 6, 0] (lv' := [(0, za_O 19 93), (1, za_I 14), (2, za_I nn), (4, za_I mm), (5, za_I fd), (6, za_I td), (7, za_I x_60)]) rfl ?_
            exact ih_18 x_60 σ (zq_m hz (by first | decide | omega | (have hL := z_lits; omega))) (by omega) (by have := z_inc9 (by omega) e_60; omega) (by omega)
          · refine zv_iconst (v := 1) G dX10_chooses_58 (by decide) ?_
            exact zv_zret G hr dX10_chooses_59 (by decide) ⟨(Or.inr rfl), (zq_m hz (by first | decide | omega | (have hL := z_lits; omega)))⟩
    refine zv_istore (lv' := [(7, za_I f), (0, za_O 19 93), (1, za_I 14), (2, za_I nn), (3, za_I f), (4, za_I mm), (5, za_I fd), (6, za_I td)]) G dX10_chooses_16 (by decide) rfl ?_
    refine zv_sub [1, 2, 3, 5, 6, 7, 0] (lv' := [(0, za_O 19 93), (1, za_I 14), (2, za_I nn), (4, za_I mm), (5, za_I fd), (6, za_I td), (7, za_I f)]) rfl ?_
    exact J_18 _ f σ (zq_m hz (by first | decide | omega | (have hL := z_lits; omega))) (by omega) (by first | assumption | omega) (Nat.lt_succ_self _)
  · have k_2 := z_ceq c_2 (a := 14) (b := nn.toInt) rfl rfl
    refine zv_aload_n (j := 0) G dX10_chooses_5 rfl rfl ?_
    refine zv_iload_n (j := 2) G dX10_chooses_6 rfl rfl ?_
    refine zv_iload (j := 5) G dX10_chooses_7 rfl ?_
    refine zv_iload (j := 6) G dX10_chooses_9 rfl ?_
    refine zv_callVi (as := [za_I nn, za_I fd, za_I td]) G (by decide) rfl rfl (zc_X10_haveAll l E nn fd td σ hz.2.2.1 (by omega)) zk_X10_haveAll zm_1619 rfl ⟨(Nat.le_of_ble_eq_true rfl), (Nat.le_of_ble_eq_true rfl)⟩ ⟨Nat.zero_le _, Nat.zero_le _⟩ (Nat.le_of_ble_eq_true rfl) dX10_chooses_11 (fun r_11 σ h_11 => ?_)
    obtain ⟨h_11, rfl⟩ := h_11
    exact zv_zret G hr dX10_chooses_14 (z_nar h_11) ⟨h_11, (zq_m hz (by first | decide | omega | (have hL := z_lits; omega)))⟩
set_option maxHeartbeats 4000000 in
set_option maxRecDepth 100000 in
theorem zc_X10_chooses_at13 (l : Launch) (E : za_E) (nn : Int32) (f : Int32) (mm : Int32) (fd : Int32) (td : Int32) (σ0 : za_S) (hJ : zJ σ0) (hn : 13 ≤ nn.toInt) (hf : 13 ≤ f.toInt ∧ f.toInt ≤ 20) (hm : 0 ≤ mm.toInt ∧ mm.toInt ≤ 20) : zMi l E yX10_chooses cX10_chooses 8 (Option.some Jvm.ClassFile.FieldType.boolean) 10 262 [za_O 19 93, za_I 13, za_I nn, za_I f, za_I mm, za_I fd, za_I td] σ0 (fun r σ' => (r = 0 ∨ r = 1) ∧ zq 12 σ0 σ') := by
  refine zMi_of [(0, za_O 19 93), (1, za_I 13), (2, za_I nn), (3, za_I f), (4, za_I mm), (5, za_I fd), (6, za_I td)] (by decide) rfl rfl (Nat.le_of_ble_eq_true rfl) ?_
  intro ho p e s m args below meth c G hr
  refine zv_gen (R9 := zq 12 σ0) (zq_0 hJ) (fun σ hz => ?_)
  refine zv_iload_n (j := 1) G dX10_chooses_0 rfl rfl ?_
  refine zv_iload_n (j := 2) G dX10_chooses_1 rfl rfl ?_
  refine zv_icmp_ne (tgt := 15) G dX10_chooses_2 (by decide) (fun c_2 => ?_) (fun c_2 => ?_)
  · have k_2 := z_cne c_2 (a := 13) (b := nn.toInt) rfl rfl
    refine zv_iload_n (j := 3) G dX10_chooses_15 rfl rfl ?_
    have J_18 : ∀ (n : Nat) (y7_18 : Int32) (σ : za_S) (hz : zq 12 σ0 σ) (g_18 : 13 ≤ y7_18.toInt ∧ y7_18.toInt ≤ 20) (i7_18 : 0 ≤ y7_18.toInt) (hn_18 : (20 - y7_18.toInt).toNat < n), zV p l e (zRm 10 262) s m args below meth c E (za_A E) 8 0 0 (MQ below (va_Qi (fun r σ' => (r = 0 ∨ r = 1) ∧ zq 12 σ0 σ') (zB E) (za_A E)) args s 0 0 (za_A E)) 18 [(0, za_O 19 93), (1, za_I 13), (2, za_I nn), (4, za_I mm), (5, za_I fd), (6, za_I td), (7, za_I y7_18)] [] σ := by
      intro n
      induction n with
      | zero => intro y7_18 σ hz g_18 i7_18 hn; exact absurd hn (Nat.not_lt_zero _)
      | succ n ih_18 =>
        intro y7_18 σ hz g_18 i7_18 hn_18
        refine zv_iload (j := 6) G dX10_chooses_18 rfl ?_
        refine zv_iload (j := 3) G dX10_chooses_20 rfl ?_
        refine zv_iload_n (j := 2) G dX10_chooses_22 rfl rfl ?_
        refine zv_iload_n (j := 1) G dX10_chooses_23 rfl rfl ?_
        refine zv_isub G dX10_chooses_24 ?_
        refine zv_isub G dX10_chooses_25 ?_
        refine zv_icmp_gt (tgt := 66) G dX10_chooses_26 (by decide) (fun c_26 => ?_) (fun c_26 => ?_)
        · have k_26 := z_clt c_26 (a := (mm - (nn - 13)).toInt) (b := y7_18.toInt) rfl rfl
          refine zv_iconst (v := 0) G dX10_chooses_66 (by decide) ?_
          exact zv_zret G hr dX10_chooses_67 (by decide) ⟨(Or.inl rfl), (zq_m hz (by first | decide | omega | (have hL := z_lits; omega)))⟩
        · have k_26 := z_cnlt c_26 (a := (mm - (nn - 13)).toInt) (b := y7_18.toInt) rfl rfl
          have l_26 := z_lim (D := 13) rfl (by decide) hn hm c_26
          refine zv_aload_n (j := 0) G dX10_chooses_29 rfl rfl ?_
          refine zg_X10_147 G dX10_chooses_30 ?_
          refine zv_iload_n (j := 1) G dX10_chooses_33 rfl rfl ?_
          refine zv_iload (j := 6) G dX10_chooses_34 rfl ?_
          refine zv_iast G (by decide) rfl (fun _ => rfl) (z_in (by decide) (by decide)) dX10_chooses_36 ?_
          refine zv_gen (R9 := zq 12 σ0) (zq_c hz (by omega)) (fun σ hz => ?_)
          refine zv_aload_n (j := 0) G dX10_chooses_37 rfl rfl ?_
          refine zv_iload_n (j := 1) G dX10_chooses_38 rfl rfl ?_
          refine zv_iconst (v := 1) G dX10_chooses_39 (by decide) ?_
          refine zv_iadd G dX10_chooses_40 ?_
          refine zv_cst (y := 14) (by decide) ?_
          refine zv_iload_n (j := 2) G dX10_chooses_41 rfl rfl ?_
          refine zv_iload (j := 6) G dX10_chooses_42 rfl ?_
          refine zv_iconst (v := 1) G dX10_chooses_44 (by decide) ?_
          refine zv_iadd G dX10_chooses_45 ?_
          refine zv_iload (j := 3) G dX10_chooses_46 rfl ?_
          refine zv_iload (j := 4) G dX10_chooses_48 rfl ?_
          refine zv_iload (j := 5) G dX10_chooses_50 rfl ?_
          refine zv_callVi (as := [za_I 14, za_I nn, za_I (y7_18 + 1), za_I mm, za_I fd, za_I td]) G (by decide) rfl rfl (zc_X10_chooses_at14 l E nn (y7_18 + 1) mm fd td σ (zq_J hJ (zq_m hz (by decide))) (by omega) (by have h9 := z_u1 (x := y7_18) (a := 13) (b := 19) (by omega) (by decide) (by decide); omega) hm) zk_X10_chooses zm_1615 rfl ⟨(Nat.le_of_ble_eq_true rfl), (Nat.le_of_ble_eq_true rfl)⟩ ⟨Nat.zero_le _, Nat.zero_le _⟩ (Nat.le_of_ble_eq_true rfl) dX10_chooses_52 (fun r_52 σ h_52 => ?_)
          obtain ⟨h_52, hz9⟩ := h_52
          have hz : zq 12 σ0 σ := zq_tr hz hz9
          refine zv_if_eq (tgt := 60) G dX10_chooses_55 (by decide) (fun c_55 => ?_) (fun c_55 => ?_)
          · obtain ⟨x_60, e_60⟩ : ∃ y : Int32, y = y7_18 + 1 := ⟨_, rfl⟩
            refine zv_iinc (j := 6) (v := x_60) (lv' := [(7, za_I x_60), (0, za_O 19 93), (1, za_I 13), (2, za_I nn), (4, za_I mm), (5, za_I fd), (6, za_I td)]) G dX10_chooses_60 rfl (by rw [e_60]; rfl) (by decide) rfl ?_
            first | have q_60 := z_inc9 (by omega) e_60 | skip
            refine zv_goto (tgt := 18) G dX10_chooses_63 (by decide) ?_
            refine zv_sub [1, 2, 3, 4, 5, 6, 0] (lv' := [(0, za_O 19 93), (1, za_I 13), (2, za_I nn), (4, za_I mm), (5, za_I fd), (6, za_I td), (7, za_I x_60)]) rfl ?_
            exact ih_18 x_60 σ (zq_m hz (by first | decide | omega | (have hL := z_lits; omega))) (by omega) (by have := z_inc9 (by omega) e_60; omega) (by omega)
          · refine zv_iconst (v := 1) G dX10_chooses_58 (by decide) ?_
            exact zv_zret G hr dX10_chooses_59 (by decide) ⟨(Or.inr rfl), (zq_m hz (by first | decide | omega | (have hL := z_lits; omega)))⟩
    refine zv_istore (lv' := [(7, za_I f), (0, za_O 19 93), (1, za_I 13), (2, za_I nn), (3, za_I f), (4, za_I mm), (5, za_I fd), (6, za_I td)]) G dX10_chooses_16 (by decide) rfl ?_
    refine zv_sub [1, 2, 3, 5, 6, 7, 0] (lv' := [(0, za_O 19 93), (1, za_I 13), (2, za_I nn), (4, za_I mm), (5, za_I fd), (6, za_I td), (7, za_I f)]) rfl ?_
    exact J_18 _ f σ (zq_m hz (by first | decide | omega | (have hL := z_lits; omega))) (by omega) (by first | assumption | omega) (Nat.lt_succ_self _)
  · have k_2 := z_ceq c_2 (a := 13) (b := nn.toInt) rfl rfl
    refine zv_aload_n (j := 0) G dX10_chooses_5 rfl rfl ?_
    refine zv_iload_n (j := 2) G dX10_chooses_6 rfl rfl ?_
    refine zv_iload (j := 5) G dX10_chooses_7 rfl ?_
    refine zv_iload (j := 6) G dX10_chooses_9 rfl ?_
    refine zv_callVi (as := [za_I nn, za_I fd, za_I td]) G (by decide) rfl rfl (zc_X10_haveAll l E nn fd td σ hz.2.2.1 (by omega)) zk_X10_haveAll zm_1619 rfl ⟨(Nat.le_of_ble_eq_true rfl), (Nat.le_of_ble_eq_true rfl)⟩ ⟨Nat.zero_le _, Nat.zero_le _⟩ (Nat.le_of_ble_eq_true rfl) dX10_chooses_11 (fun r_11 σ h_11 => ?_)
    obtain ⟨h_11, rfl⟩ := h_11
    exact zv_zret G hr dX10_chooses_14 (z_nar h_11) ⟨h_11, (zq_m hz (by first | decide | omega | (have hL := z_lits; omega)))⟩
set_option maxHeartbeats 4000000 in
set_option maxRecDepth 100000 in
theorem zc_X10_chooses_at12 (l : Launch) (E : za_E) (nn : Int32) (f : Int32) (mm : Int32) (fd : Int32) (td : Int32) (σ0 : za_S) (hJ : zJ σ0) (hn : 12 ≤ nn.toInt) (hf : 12 ≤ f.toInt ∧ f.toInt ≤ 20) (hm : 0 ≤ mm.toInt ∧ mm.toInt ≤ 20) : zMi l E yX10_chooses cX10_chooses 8 (Option.some Jvm.ClassFile.FieldType.boolean) 11 289 [za_O 19 93, za_I 12, za_I nn, za_I f, za_I mm, za_I fd, za_I td] σ0 (fun r σ' => (r = 0 ∨ r = 1) ∧ zq 12 σ0 σ') := by
  refine zMi_of [(0, za_O 19 93), (1, za_I 12), (2, za_I nn), (3, za_I f), (4, za_I mm), (5, za_I fd), (6, za_I td)] (by decide) rfl rfl (Nat.le_of_ble_eq_true rfl) ?_
  intro ho p e s m args below meth c G hr
  refine zv_gen (R9 := zq 12 σ0) (zq_0 hJ) (fun σ hz => ?_)
  refine zv_iload_n (j := 1) G dX10_chooses_0 rfl rfl ?_
  refine zv_iload_n (j := 2) G dX10_chooses_1 rfl rfl ?_
  refine zv_icmp_ne (tgt := 15) G dX10_chooses_2 (by decide) (fun c_2 => ?_) (fun c_2 => ?_)
  · have k_2 := z_cne c_2 (a := 12) (b := nn.toInt) rfl rfl
    refine zv_iload_n (j := 3) G dX10_chooses_15 rfl rfl ?_
    have J_18 : ∀ (n : Nat) (y7_18 : Int32) (σ : za_S) (hz : zq 12 σ0 σ) (g_18 : 12 ≤ y7_18.toInt ∧ y7_18.toInt ≤ 20) (i7_18 : 0 ≤ y7_18.toInt) (hn_18 : (20 - y7_18.toInt).toNat < n), zV p l e (zRm 11 289) s m args below meth c E (za_A E) 8 0 0 (MQ below (va_Qi (fun r σ' => (r = 0 ∨ r = 1) ∧ zq 12 σ0 σ') (zB E) (za_A E)) args s 0 0 (za_A E)) 18 [(0, za_O 19 93), (1, za_I 12), (2, za_I nn), (4, za_I mm), (5, za_I fd), (6, za_I td), (7, za_I y7_18)] [] σ := by
      intro n
      induction n with
      | zero => intro y7_18 σ hz g_18 i7_18 hn; exact absurd hn (Nat.not_lt_zero _)
      | succ n ih_18 =>
        intro y7_18 σ hz g_18 i7_18 hn_18
        refine zv_iload (j := 6) G dX10_chooses_18 rfl ?_
        refine zv_iload (j := 3) G dX10_chooses_20 rfl ?_
        refine zv_iload_n (j := 2) G dX10_chooses_22 rfl rfl ?_
        refine zv_iload_n (j := 1) G dX10_chooses_23 rfl rfl ?_
        refine zv_isub G dX10_chooses_24 ?_
        refine zv_isub G dX10_chooses_25 ?_
        refine zv_icmp_gt (tgt := 66) G dX10_chooses_26 (by decide) (fun c_26 => ?_) (fun c_26 => ?_)
        · have k_26 := z_clt c_26 (a := (mm - (nn - 12)).toInt) (b := y7_18.toInt) rfl rfl
          refine zv_iconst (v := 0) G dX10_chooses_66 (by decide) ?_
          exact zv_zret G hr dX10_chooses_67 (by decide) ⟨(Or.inl rfl), (zq_m hz (by first | decide | omega | (have hL := z_lits; omega)))⟩
        · have k_26 := z_cnlt c_26 (a := (mm - (nn - 12)).toInt) (b := y7_18.toInt) rfl rfl
          have l_26 := z_lim (D := 12) rfl (by decide) hn hm c_26
          refine zv_aload_n (j := 0) G dX10_chooses_29 rfl rfl ?_
          refine zg_X10_147 G dX10_chooses_30 ?_
          refine zv_iload_n (j := 1) G dX10_chooses_33 rfl rfl ?_
          refine zv_iload (j := 6) G dX10_chooses_34 rfl ?_
          refine zv_iast G (by decide) rfl (fun _ => rfl) (z_in (by decide) (by decide)) dX10_chooses_36 ?_
          refine zv_gen (R9 := zq 12 σ0) (zq_c hz (by omega)) (fun σ hz => ?_)
          refine zv_aload_n (j := 0) G dX10_chooses_37 rfl rfl ?_
          refine zv_iload_n (j := 1) G dX10_chooses_38 rfl rfl ?_
          refine zv_iconst (v := 1) G dX10_chooses_39 (by decide) ?_
          refine zv_iadd G dX10_chooses_40 ?_
          refine zv_cst (y := 13) (by decide) ?_
          refine zv_iload_n (j := 2) G dX10_chooses_41 rfl rfl ?_
          refine zv_iload (j := 6) G dX10_chooses_42 rfl ?_
          refine zv_iconst (v := 1) G dX10_chooses_44 (by decide) ?_
          refine zv_iadd G dX10_chooses_45 ?_
          refine zv_iload (j := 3) G dX10_chooses_46 rfl ?_
          refine zv_iload (j := 4) G dX10_chooses_48 rfl ?_
          refine zv_iload (j := 5) G dX10_chooses_50 rfl ?_
          refine zv_callVi (as := [za_I 13, za_I nn, za_I (y7_18 + 1), za_I mm, za_I fd, za_I td]) G (by decide) rfl rfl (zc_X10_chooses_at13 l E nn (y7_18 + 1) mm fd td σ (zq_J hJ (zq_m hz (by decide))) (by omega) (by have h9 := z_u1 (x := y7_18) (a := 12) (b := 19) (by omega) (by decide) (by decide); omega) hm) zk_X10_chooses zm_1615 rfl ⟨(Nat.le_of_ble_eq_true rfl), (Nat.le_of_ble_eq_true rfl)⟩ ⟨Nat.zero_le _, Nat.zero_le _⟩ (Nat.le_of_ble_eq_true rfl) dX10_chooses_52 (fun r_52 σ h_52 => ?_)
          obtain ⟨h_52, hz9⟩ := h_52
          have hz : zq 12 σ0 σ := zq_tr hz hz9
          refine zv_if_eq (tgt := 60) G dX10_chooses_55 (by decide) (fun c_55 => ?_) (fun c_55 => ?_)
          · obtain ⟨x_60, e_60⟩ : ∃ y : Int32, y = y7_18 + 1 := ⟨_, rfl⟩
            refine zv_iinc (j := 6) (v := x_60) (lv' := [(7, za_I x_60), (0, za_O 19 93), (1, za_I 12), (2, za_I nn), (4, za_I mm), (5, za_I fd), (6, za_I td)]) G dX10_chooses_60 rfl (by rw [e_60]; rfl) (by decide) rfl ?_
            first | have q_60 := z_inc9 (by omega) e_60 | skip
            refine zv_goto (tgt := 18) G dX10_chooses_63 (by decide) ?_
            refine zv_sub [1, 2, 3, 4, 5, 6, 0] (lv' := [(0, za_O 19 93), (1, za_I 12), (2, za_I nn), (4, za_I mm), (5, za_I fd), (6, za_I td), (7, za_I x_60)]) rfl ?_
            exact ih_18 x_60 σ (zq_m hz (by first | decide | omega | (have hL := z_lits; omega))) (by omega) (by have := z_inc9 (by omega) e_60; omega) (by omega)
          · refine zv_iconst (v := 1) G dX10_chooses_58 (by decide) ?_
            exact zv_zret G hr dX10_chooses_59 (by decide) ⟨(Or.inr rfl), (zq_m hz (by first | decide | omega | (have hL := z_lits; omega)))⟩
    refine zv_istore (lv' := [(7, za_I f), (0, za_O 19 93), (1, za_I 12), (2, za_I nn), (3, za_I f), (4, za_I mm), (5, za_I fd), (6, za_I td)]) G dX10_chooses_16 (by decide) rfl ?_
    refine zv_sub [1, 2, 3, 5, 6, 7, 0] (lv' := [(0, za_O 19 93), (1, za_I 12), (2, za_I nn), (4, za_I mm), (5, za_I fd), (6, za_I td), (7, za_I f)]) rfl ?_
    exact J_18 _ f σ (zq_m hz (by first | decide | omega | (have hL := z_lits; omega))) (by omega) (by first | assumption | omega) (Nat.lt_succ_self _)
  · have k_2 := z_ceq c_2 (a := 12) (b := nn.toInt) rfl rfl
    refine zv_aload_n (j := 0) G dX10_chooses_5 rfl rfl ?_
    refine zv_iload_n (j := 2) G dX10_chooses_6 rfl rfl ?_
    refine zv_iload (j := 5) G dX10_chooses_7 rfl ?_
    refine zv_iload (j := 6) G dX10_chooses_9 rfl ?_
    refine zv_callVi (as := [za_I nn, za_I fd, za_I td]) G (by decide) rfl rfl (zc_X10_haveAll l E nn fd td σ hz.2.2.1 (by omega)) zk_X10_haveAll zm_1619 rfl ⟨(Nat.le_of_ble_eq_true rfl), (Nat.le_of_ble_eq_true rfl)⟩ ⟨Nat.zero_le _, Nat.zero_le _⟩ (Nat.le_of_ble_eq_true rfl) dX10_chooses_11 (fun r_11 σ h_11 => ?_)
    obtain ⟨h_11, rfl⟩ := h_11
    exact zv_zret G hr dX10_chooses_14 (z_nar h_11) ⟨h_11, (zq_m hz (by first | decide | omega | (have hL := z_lits; omega)))⟩
set_option maxHeartbeats 4000000 in
set_option maxRecDepth 100000 in
theorem zc_X10_chooses_at11 (l : Launch) (E : za_E) (nn : Int32) (f : Int32) (mm : Int32) (fd : Int32) (td : Int32) (σ0 : za_S) (hJ : zJ σ0) (hn : 11 ≤ nn.toInt) (hf : 11 ≤ f.toInt ∧ f.toInt ≤ 20) (hm : 0 ≤ mm.toInt ∧ mm.toInt ≤ 20) : zMi l E yX10_chooses cX10_chooses 8 (Option.some Jvm.ClassFile.FieldType.boolean) 12 316 [za_O 19 93, za_I 11, za_I nn, za_I f, za_I mm, za_I fd, za_I td] σ0 (fun r σ' => (r = 0 ∨ r = 1) ∧ zq 12 σ0 σ') := by
  refine zMi_of [(0, za_O 19 93), (1, za_I 11), (2, za_I nn), (3, za_I f), (4, za_I mm), (5, za_I fd), (6, za_I td)] (by decide) rfl rfl (Nat.le_of_ble_eq_true rfl) ?_
  intro ho p e s m args below meth c G hr
  refine zv_gen (R9 := zq 12 σ0) (zq_0 hJ) (fun σ hz => ?_)
  refine zv_iload_n (j := 1) G dX10_chooses_0 rfl rfl ?_
  refine zv_iload_n (j := 2) G dX10_chooses_1 rfl rfl ?_
  refine zv_icmp_ne (tgt := 15) G dX10_chooses_2 (by decide) (fun c_2 => ?_) (fun c_2 => ?_)
  · have k_2 := z_cne c_2 (a := 11) (b := nn.toInt) rfl rfl
    refine zv_iload_n (j := 3) G dX10_chooses_15 rfl rfl ?_
    have J_18 : ∀ (n : Nat) (y7_18 : Int32) (σ : za_S) (hz : zq 12 σ0 σ) (g_18 : 11 ≤ y7_18.toInt ∧ y7_18.toInt ≤ 20) (i7_18 : 0 ≤ y7_18.toInt) (hn_18 : (20 - y7_18.toInt).toNat < n), zV p l e (zRm 12 316) s m args below meth c E (za_A E) 8 0 0 (MQ below (va_Qi (fun r σ' => (r = 0 ∨ r = 1) ∧ zq 12 σ0 σ') (zB E) (za_A E)) args s 0 0 (za_A E)) 18 [(0, za_O 19 93), (1, za_I 11), (2, za_I nn), (4, za_I mm), (5, za_I fd), (6, za_I td), (7, za_I y7_18)] [] σ := by
      intro n
      induction n with
      | zero => intro y7_18 σ hz g_18 i7_18 hn; exact absurd hn (Nat.not_lt_zero _)
      | succ n ih_18 =>
        intro y7_18 σ hz g_18 i7_18 hn_18
        refine zv_iload (j := 6) G dX10_chooses_18 rfl ?_
        refine zv_iload (j := 3) G dX10_chooses_20 rfl ?_
        refine zv_iload_n (j := 2) G dX10_chooses_22 rfl rfl ?_
        refine zv_iload_n (j := 1) G dX10_chooses_23 rfl rfl ?_
        refine zv_isub G dX10_chooses_24 ?_
        refine zv_isub G dX10_chooses_25 ?_
        refine zv_icmp_gt (tgt := 66) G dX10_chooses_26 (by decide) (fun c_26 => ?_) (fun c_26 => ?_)
        · have k_26 := z_clt c_26 (a := (mm - (nn - 11)).toInt) (b := y7_18.toInt) rfl rfl
          refine zv_iconst (v := 0) G dX10_chooses_66 (by decide) ?_
          exact zv_zret G hr dX10_chooses_67 (by decide) ⟨(Or.inl rfl), (zq_m hz (by first | decide | omega | (have hL := z_lits; omega)))⟩
        · have k_26 := z_cnlt c_26 (a := (mm - (nn - 11)).toInt) (b := y7_18.toInt) rfl rfl
          have l_26 := z_lim (D := 11) rfl (by decide) hn hm c_26
          refine zv_aload_n (j := 0) G dX10_chooses_29 rfl rfl ?_
          refine zg_X10_147 G dX10_chooses_30 ?_
          refine zv_iload_n (j := 1) G dX10_chooses_33 rfl rfl ?_
          refine zv_iload (j := 6) G dX10_chooses_34 rfl ?_
          refine zv_iast G (by decide) rfl (fun _ => rfl) (z_in (by decide) (by decide)) dX10_chooses_36 ?_
          refine zv_gen (R9 := zq 12 σ0) (zq_c hz (by omega)) (fun σ hz => ?_)
          refine zv_aload_n (j := 0) G dX10_chooses_37 rfl rfl ?_
          refine zv_iload_n (j := 1) G dX10_chooses_38 rfl rfl ?_
          refine zv_iconst (v := 1) G dX10_chooses_39 (by decide) ?_
          refine zv_iadd G dX10_chooses_40 ?_
          refine zv_cst (y := 12) (by decide) ?_
          refine zv_iload_n (j := 2) G dX10_chooses_41 rfl rfl ?_
          refine zv_iload (j := 6) G dX10_chooses_42 rfl ?_
          refine zv_iconst (v := 1) G dX10_chooses_44 (by decide) ?_
          refine zv_iadd G dX10_chooses_45 ?_
          refine zv_iload (j := 3) G dX10_chooses_46 rfl ?_
          refine zv_iload (j := 4) G dX10_chooses_48 rfl ?_
          refine zv_iload (j := 5) G dX10_chooses_50 rfl ?_
          refine zv_callVi (as := [za_I 12, za_I nn, za_I (y7_18 + 1), za_I mm, za_I fd, za_I td]) G (by decide) rfl rfl (zc_X10_chooses_at12 l E nn (y7_18 + 1) mm fd td σ (zq_J hJ (zq_m hz (by decide))) (by omega) (by have h9 := z_u1 (x := y7_18) (a := 11) (b := 19) (by omega) (by decide) (by decide); omega) hm) zk_X10_chooses zm_1615 rfl ⟨(Nat.le_of_ble_eq_true rfl), (Nat.le_of_ble_eq_true rfl)⟩ ⟨Nat.zero_le _, Nat.zero_le _⟩ (Nat.le_of_ble_eq_true rfl) dX10_chooses_52 (fun r_52 σ h_52 => ?_)
          obtain ⟨h_52, hz9⟩ := h_52
          have hz : zq 12 σ0 σ := zq_tr hz hz9
          refine zv_if_eq (tgt := 60) G dX10_chooses_55 (by decide) (fun c_55 => ?_) (fun c_55 => ?_)
          · obtain ⟨x_60, e_60⟩ : ∃ y : Int32, y = y7_18 + 1 := ⟨_, rfl⟩
            refine zv_iinc (j := 6) (v := x_60) (lv' := [(7, za_I x_60), (0, za_O 19 93), (1, za_I 11), (2, za_I nn), (4, za_I mm), (5, za_I fd), (6, za_I td)]) G dX10_chooses_60 rfl (by rw [e_60]; rfl) (by decide) rfl ?_
            first | have q_60 := z_inc9 (by omega) e_60 | skip
            refine zv_goto (tgt := 18) G dX10_chooses_63 (by decide) ?_
            refine zv_sub [1, 2, 3, 4, 5, 6, 0] (lv' := [(0, za_O 19 93), (1, za_I 11), (2, za_I nn), (4, za_I mm), (5, za_I fd), (6, za_I td), (7, za_I x_60)]) rfl ?_
            exact ih_18 x_60 σ (zq_m hz (by first | decide | omega | (have hL := z_lits; omega))) (by omega) (by have := z_inc9 (by omega) e_60; omega) (by omega)
          · refine zv_iconst (v := 1) G dX10_chooses_58 (by decide) ?_
            exact zv_zret G hr dX10_chooses_59 (by decide) ⟨(Or.inr rfl), (zq_m hz (by first | decide | omega | (have hL := z_lits; omega)))⟩
    refine zv_istore (lv' := [(7, za_I f), (0, za_O 19 93), (1, za_I 11), (2, za_I nn), (3, za_I f), (4, za_I mm), (5, za_I fd), (6, za_I td)]) G dX10_chooses_16 (by decide) rfl ?_
    refine zv_sub [1, 2, 3, 5, 6, 7, 0] (lv' := [(0, za_O 19 93), (1, za_I 11), (2, za_I nn), (4, za_I mm), (5, za_I fd), (6, za_I td), (7, za_I f)]) rfl ?_
    exact J_18 _ f σ (zq_m hz (by first | decide | omega | (have hL := z_lits; omega))) (by omega) (by first | assumption | omega) (Nat.lt_succ_self _)
  · have k_2 := z_ceq c_2 (a := 11) (b := nn.toInt) rfl rfl
    refine zv_aload_n (j := 0) G dX10_chooses_5 rfl rfl ?_
    refine zv_iload_n (j := 2) G dX10_chooses_6 rfl rfl ?_
    refine zv_iload (j := 5) G dX10_chooses_7 rfl ?_
    refine zv_iload (j := 6) G dX10_chooses_9 rfl ?_
    refine zv_callVi (as := [za_I nn, za_I fd, za_I td]) G (by decide) rfl rfl (zc_X10_haveAll l E nn fd td σ hz.2.2.1 (by omega)) zk_X10_haveAll zm_1619 rfl ⟨(Nat.le_of_ble_eq_true rfl), (Nat.le_of_ble_eq_true rfl)⟩ ⟨Nat.zero_le _, Nat.zero_le _⟩ (Nat.le_of_ble_eq_true rfl) dX10_chooses_11 (fun r_11 σ h_11 => ?_)
    obtain ⟨h_11, rfl⟩ := h_11
    exact zv_zret G hr dX10_chooses_14 (z_nar h_11) ⟨h_11, (zq_m hz (by first | decide | omega | (have hL := z_lits; omega)))⟩
set_option maxHeartbeats 4000000 in
set_option maxRecDepth 100000 in
theorem zc_X10_chooses_at10 (l : Launch) (E : za_E) (nn : Int32) (f : Int32) (mm : Int32) (fd : Int32) (td : Int32) (σ0 : za_S) (hJ : zJ σ0) (hn : 10 ≤ nn.toInt) (hf : 10 ≤ f.toInt ∧ f.toInt ≤ 20) (hm : 0 ≤ mm.toInt ∧ mm.toInt ≤ 20) : zMi l E yX10_chooses cX10_chooses 8 (Option.some Jvm.ClassFile.FieldType.boolean) 13 343 [za_O 19 93, za_I 10, za_I nn, za_I f, za_I mm, za_I fd, za_I td] σ0 (fun r σ' => (r = 0 ∨ r = 1) ∧ zq 12 σ0 σ') := by
  refine zMi_of [(0, za_O 19 93), (1, za_I 10), (2, za_I nn), (3, za_I f), (4, za_I mm), (5, za_I fd), (6, za_I td)] (by decide) rfl rfl (Nat.le_of_ble_eq_true rfl) ?_
  intro ho p e s m args below meth c G hr
  refine zv_gen (R9 := zq 12 σ0) (zq_0 hJ) (fun σ hz => ?_)
  refine zv_iload_n (j := 1) G dX10_chooses_0 rfl rfl ?_
  refine zv_iload_n (j := 2) G dX10_chooses_1 rfl rfl ?_
  refine zv_icmp_ne (tgt := 15) G dX10_chooses_2 (by decide) (fun c_2 => ?_) (fun c_2 => ?_)
  · have k_2 := z_cne c_2 (a := 10) (b := nn.toInt) rfl rfl
    refine zv_iload_n (j := 3) G dX10_chooses_15 rfl rfl ?_
    have J_18 : ∀ (n : Nat) (y7_18 : Int32) (σ : za_S) (hz : zq 12 σ0 σ) (g_18 : 10 ≤ y7_18.toInt ∧ y7_18.toInt ≤ 20) (i7_18 : 0 ≤ y7_18.toInt) (hn_18 : (20 - y7_18.toInt).toNat < n), zV p l e (zRm 13 343) s m args below meth c E (za_A E) 8 0 0 (MQ below (va_Qi (fun r σ' => (r = 0 ∨ r = 1) ∧ zq 12 σ0 σ') (zB E) (za_A E)) args s 0 0 (za_A E)) 18 [(0, za_O 19 93), (1, za_I 10), (2, za_I nn), (4, za_I mm), (5, za_I fd), (6, za_I td), (7, za_I y7_18)] [] σ := by
      intro n
      induction n with
      | zero => intro y7_18 σ hz g_18 i7_18 hn; exact absurd hn (Nat.not_lt_zero _)
      | succ n ih_18 =>
        intro y7_18 σ hz g_18 i7_18 hn_18
        refine zv_iload (j := 6) G dX10_chooses_18 rfl ?_
        refine zv_iload (j := 3) G dX10_chooses_20 rfl ?_
        refine zv_iload_n (j := 2) G dX10_chooses_22 rfl rfl ?_
        refine zv_iload_n (j := 1) G dX10_chooses_23 rfl rfl ?_
        refine zv_isub G dX10_chooses_24 ?_
        refine zv_isub G dX10_chooses_25 ?_
        refine zv_icmp_gt (tgt := 66) G dX10_chooses_26 (by decide) (fun c_26 => ?_) (fun c_26 => ?_)
        · have k_26 := z_clt c_26 (a := (mm - (nn - 10)).toInt) (b := y7_18.toInt) rfl rfl
          refine zv_iconst (v := 0) G dX10_chooses_66 (by decide) ?_
          exact zv_zret G hr dX10_chooses_67 (by decide) ⟨(Or.inl rfl), (zq_m hz (by first | decide | omega | (have hL := z_lits; omega)))⟩
        · have k_26 := z_cnlt c_26 (a := (mm - (nn - 10)).toInt) (b := y7_18.toInt) rfl rfl
          have l_26 := z_lim (D := 10) rfl (by decide) hn hm c_26
          refine zv_aload_n (j := 0) G dX10_chooses_29 rfl rfl ?_
          refine zg_X10_147 G dX10_chooses_30 ?_
          refine zv_iload_n (j := 1) G dX10_chooses_33 rfl rfl ?_
          refine zv_iload (j := 6) G dX10_chooses_34 rfl ?_
          refine zv_iast G (by decide) rfl (fun _ => rfl) (z_in (by decide) (by decide)) dX10_chooses_36 ?_
          refine zv_gen (R9 := zq 12 σ0) (zq_c hz (by omega)) (fun σ hz => ?_)
          refine zv_aload_n (j := 0) G dX10_chooses_37 rfl rfl ?_
          refine zv_iload_n (j := 1) G dX10_chooses_38 rfl rfl ?_
          refine zv_iconst (v := 1) G dX10_chooses_39 (by decide) ?_
          refine zv_iadd G dX10_chooses_40 ?_
          refine zv_cst (y := 11) (by decide) ?_
          refine zv_iload_n (j := 2) G dX10_chooses_41 rfl rfl ?_
          refine zv_iload (j := 6) G dX10_chooses_42 rfl ?_
          refine zv_iconst (v := 1) G dX10_chooses_44 (by decide) ?_
          refine zv_iadd G dX10_chooses_45 ?_
          refine zv_iload (j := 3) G dX10_chooses_46 rfl ?_
          refine zv_iload (j := 4) G dX10_chooses_48 rfl ?_
          refine zv_iload (j := 5) G dX10_chooses_50 rfl ?_
          refine zv_callVi (as := [za_I 11, za_I nn, za_I (y7_18 + 1), za_I mm, za_I fd, za_I td]) G (by decide) rfl rfl (zc_X10_chooses_at11 l E nn (y7_18 + 1) mm fd td σ (zq_J hJ (zq_m hz (by decide))) (by omega) (by have h9 := z_u1 (x := y7_18) (a := 10) (b := 19) (by omega) (by decide) (by decide); omega) hm) zk_X10_chooses zm_1615 rfl ⟨(Nat.le_of_ble_eq_true rfl), (Nat.le_of_ble_eq_true rfl)⟩ ⟨Nat.zero_le _, Nat.zero_le _⟩ (Nat.le_of_ble_eq_true rfl) dX10_chooses_52 (fun r_52 σ h_52 => ?_)
          obtain ⟨h_52, hz9⟩ := h_52
          have hz : zq 12 σ0 σ := zq_tr hz hz9
          refine zv_if_eq (tgt := 60) G dX10_chooses_55 (by decide) (fun c_55 => ?_) (fun c_55 => ?_)
          · obtain ⟨x_60, e_60⟩ : ∃ y : Int32, y = y7_18 + 1 := ⟨_, rfl⟩
            refine zv_iinc (j := 6) (v := x_60) (lv' := [(7, za_I x_60), (0, za_O 19 93), (1, za_I 10), (2, za_I nn), (4, za_I mm), (5, za_I fd), (6, za_I td)]) G dX10_chooses_60 rfl (by rw [e_60]; rfl) (by decide) rfl ?_
            first | have q_60 := z_inc9 (by omega) e_60 | skip
            refine zv_goto (tgt := 18) G dX10_chooses_63 (by decide) ?_
            refine zv_sub [1, 2, 3, 4, 5, 6, 0] (lv' := [(0, za_O 19 93), (1, za_I 10), (2, za_I nn), (4, za_I mm), (5, za_I fd), (6, za_I td), (7, za_I x_60)]) rfl ?_
            exact ih_18 x_60 σ (zq_m hz (by first | decide | omega | (have hL := z_lits; omega))) (by omega) (by have := z_inc9 (by omega) e_60; omega) (by omega)
          · refine zv_iconst (v := 1) G dX10_chooses_58 (by decide) ?_
            exact zv_zret G hr dX10_chooses_59 (by decide) ⟨(Or.inr rfl), (zq_m hz (by first | decide | omega | (have hL := z_lits; omega)))⟩
    refine zv_istore (lv' := [(7, za_I f), (0, za_O 19 93), (1, za_I 10), (2, za_I nn), (3, za_I f), (4, za_I mm), (5, za_I fd), (6, za_I td)]) G dX10_chooses_16 (by decide) rfl ?_
    refine zv_sub [1, 2, 3, 5, 6, 7, 0] (lv' := [(0, za_O 19 93), (1, za_I 10), (2, za_I nn), (4, za_I mm), (5, za_I fd), (6, za_I td), (7, za_I f)]) rfl ?_
    exact J_18 _ f σ (zq_m hz (by first | decide | omega | (have hL := z_lits; omega))) (by omega) (by first | assumption | omega) (Nat.lt_succ_self _)
  · have k_2 := z_ceq c_2 (a := 10) (b := nn.toInt) rfl rfl
    refine zv_aload_n (j := 0) G dX10_chooses_5 rfl rfl ?_
    refine zv_iload_n (j := 2) G dX10_chooses_6 rfl rfl ?_
    refine zv_iload (j := 5) G dX10_chooses_7 rfl ?_
    refine zv_iload (j := 6) G dX10_chooses_9 rfl ?_
    refine zv_callVi (as := [za_I nn, za_I fd, za_I td]) G (by decide) rfl rfl (zc_X10_haveAll l E nn fd td σ hz.2.2.1 (by omega)) zk_X10_haveAll zm_1619 rfl ⟨(Nat.le_of_ble_eq_true rfl), (Nat.le_of_ble_eq_true rfl)⟩ ⟨Nat.zero_le _, Nat.zero_le _⟩ (Nat.le_of_ble_eq_true rfl) dX10_chooses_11 (fun r_11 σ h_11 => ?_)
    obtain ⟨h_11, rfl⟩ := h_11
    exact zv_zret G hr dX10_chooses_14 (z_nar h_11) ⟨h_11, (zq_m hz (by first | decide | omega | (have hL := z_lits; omega)))⟩
set_option maxHeartbeats 4000000 in
set_option maxRecDepth 100000 in
theorem zc_X10_chooses_at9 (l : Launch) (E : za_E) (nn : Int32) (f : Int32) (mm : Int32) (fd : Int32) (td : Int32) (σ0 : za_S) (hJ : zJ σ0) (hn : 9 ≤ nn.toInt) (hf : 9 ≤ f.toInt ∧ f.toInt ≤ 20) (hm : 0 ≤ mm.toInt ∧ mm.toInt ≤ 20) : zMi l E yX10_chooses cX10_chooses 8 (Option.some Jvm.ClassFile.FieldType.boolean) 14 370 [za_O 19 93, za_I 9, za_I nn, za_I f, za_I mm, za_I fd, za_I td] σ0 (fun r σ' => (r = 0 ∨ r = 1) ∧ zq 12 σ0 σ') := by
  refine zMi_of [(0, za_O 19 93), (1, za_I 9), (2, za_I nn), (3, za_I f), (4, za_I mm), (5, za_I fd), (6, za_I td)] (by decide) rfl rfl (Nat.le_of_ble_eq_true rfl) ?_
  intro ho p e s m args below meth c G hr
  refine zv_gen (R9 := zq 12 σ0) (zq_0 hJ) (fun σ hz => ?_)
  refine zv_iload_n (j := 1) G dX10_chooses_0 rfl rfl ?_
  refine zv_iload_n (j := 2) G dX10_chooses_1 rfl rfl ?_
  refine zv_icmp_ne (tgt := 15) G dX10_chooses_2 (by decide) (fun c_2 => ?_) (fun c_2 => ?_)
  · have k_2 := z_cne c_2 (a := 9) (b := nn.toInt) rfl rfl
    refine zv_iload_n (j := 3) G dX10_chooses_15 rfl rfl ?_
    have J_18 : ∀ (n : Nat) (y7_18 : Int32) (σ : za_S) (hz : zq 12 σ0 σ) (g_18 : 9 ≤ y7_18.toInt ∧ y7_18.toInt ≤ 20) (i7_18 : 0 ≤ y7_18.toInt) (hn_18 : (20 - y7_18.toInt).toNat < n), zV p l e (zRm 14 370) s m args below meth c E (za_A E) 8 0 0 (MQ below (va_Qi (fun r σ' => (r = 0 ∨ r = 1) ∧ zq 12 σ0 σ') (zB E) (za_A E)) args s 0 0 (za_A E)) 18 [(0, za_O 19 93), (1, za_I 9), (2, za_I nn), (4, za_I mm), (5, za_I fd), (6, za_I td), (7, za_I y7_18)] [] σ := by
      intro n
      induction n with
      | zero => intro y7_18 σ hz g_18 i7_18 hn; exact absurd hn (Nat.not_lt_zero _)
      | succ n ih_18 =>
        intro y7_18 σ hz g_18 i7_18 hn_18
        refine zv_iload (j := 6) G dX10_chooses_18 rfl ?_
        refine zv_iload (j := 3) G dX10_chooses_20 rfl ?_
        refine zv_iload_n (j := 2) G dX10_chooses_22 rfl rfl ?_
        refine zv_iload_n (j := 1) G dX10_chooses_23 rfl rfl ?_
        refine zv_isub G dX10_chooses_24 ?_
        refine zv_isub G dX10_chooses_25 ?_
        refine zv_icmp_gt (tgt := 66) G dX10_chooses_26 (by decide) (fun c_26 => ?_) (fun c_26 => ?_)
        · have k_26 := z_clt c_26 (a := (mm - (nn - 9)).toInt) (b := y7_18.toInt) rfl rfl
          refine zv_iconst (v := 0) G dX10_chooses_66 (by decide) ?_
          exact zv_zret G hr dX10_chooses_67 (by decide) ⟨(Or.inl rfl), (zq_m hz (by first | decide | omega | (have hL := z_lits; omega)))⟩
        · have k_26 := z_cnlt c_26 (a := (mm - (nn - 9)).toInt) (b := y7_18.toInt) rfl rfl
          have l_26 := z_lim (D := 9) rfl (by decide) hn hm c_26
          refine zv_aload_n (j := 0) G dX10_chooses_29 rfl rfl ?_
          refine zg_X10_147 G dX10_chooses_30 ?_
          refine zv_iload_n (j := 1) G dX10_chooses_33 rfl rfl ?_
          refine zv_iload (j := 6) G dX10_chooses_34 rfl ?_
          refine zv_iast G (by decide) rfl (fun _ => rfl) (z_in (by decide) (by decide)) dX10_chooses_36 ?_
          refine zv_gen (R9 := zq 12 σ0) (zq_c hz (by omega)) (fun σ hz => ?_)
          refine zv_aload_n (j := 0) G dX10_chooses_37 rfl rfl ?_
          refine zv_iload_n (j := 1) G dX10_chooses_38 rfl rfl ?_
          refine zv_iconst (v := 1) G dX10_chooses_39 (by decide) ?_
          refine zv_iadd G dX10_chooses_40 ?_
          refine zv_cst (y := 10) (by decide) ?_
          refine zv_iload_n (j := 2) G dX10_chooses_41 rfl rfl ?_
          refine zv_iload (j := 6) G dX10_chooses_42 rfl ?_
          refine zv_iconst (v := 1) G dX10_chooses_44 (by decide) ?_
          refine zv_iadd G dX10_chooses_45 ?_
          refine zv_iload (j := 3) G dX10_chooses_46 rfl ?_
          refine zv_iload (j := 4) G dX10_chooses_48 rfl ?_
          refine zv_iload (j := 5) G dX10_chooses_50 rfl ?_
          refine zv_callVi (as := [za_I 10, za_I nn, za_I (y7_18 + 1), za_I mm, za_I fd, za_I td]) G (by decide) rfl rfl (zc_X10_chooses_at10 l E nn (y7_18 + 1) mm fd td σ (zq_J hJ (zq_m hz (by decide))) (by omega) (by have h9 := z_u1 (x := y7_18) (a := 9) (b := 19) (by omega) (by decide) (by decide); omega) hm) zk_X10_chooses zm_1615 rfl ⟨(Nat.le_of_ble_eq_true rfl), (Nat.le_of_ble_eq_true rfl)⟩ ⟨Nat.zero_le _, Nat.zero_le _⟩ (Nat.le_of_ble_eq_true rfl) dX10_chooses_52 (fun r_52 σ h_52 => ?_)
          obtain ⟨h_52, hz9⟩ := h_52
          have hz : zq 12 σ0 σ := zq_tr hz hz9
          refine zv_if_eq (tgt := 60) G dX10_chooses_55 (by decide) (fun c_55 => ?_) (fun c_55 => ?_)
          · obtain ⟨x_60, e_60⟩ : ∃ y : Int32, y = y7_18 + 1 := ⟨_, rfl⟩
            refine zv_iinc (j := 6) (v := x_60) (lv' := [(7, za_I x_60), (0, za_O 19 93), (1, za_I 9), (2, za_I nn), (4, za_I mm), (5, za_I fd), (6, za_I td)]) G dX10_chooses_60 rfl (by rw [e_60]; rfl) (by decide) rfl ?_
            first | have q_60 := z_inc9 (by omega) e_60 | skip
            refine zv_goto (tgt := 18) G dX10_chooses_63 (by decide) ?_
            refine zv_sub [1, 2, 3, 4, 5, 6, 0] (lv' := [(0, za_O 19 93), (1, za_I 9), (2, za_I nn), (4, za_I mm), (5, za_I fd), (6, za_I td), (7, za_I x_60)]) rfl ?_
            exact ih_18 x_60 σ (zq_m hz (by first | decide | omega | (have hL := z_lits; omega))) (by omega) (by have := z_inc9 (by omega) e_60; omega) (by omega)
          · refine zv_iconst (v := 1) G dX10_chooses_58 (by decide) ?_
            exact zv_zret G hr dX10_chooses_59 (by decide) ⟨(Or.inr rfl), (zq_m hz (by first | decide | omega | (have hL := z_lits; omega)))⟩
    refine zv_istore (lv' := [(7, za_I f), (0, za_O 19 93), (1, za_I 9), (2, za_I nn), (3, za_I f), (4, za_I mm), (5, za_I fd), (6, za_I td)]) G dX10_chooses_16 (by decide) rfl ?_
    refine zv_sub [1, 2, 3, 5, 6, 7, 0] (lv' := [(0, za_O 19 93), (1, za_I 9), (2, za_I nn), (4, za_I mm), (5, za_I fd), (6, za_I td), (7, za_I f)]) rfl ?_
    exact J_18 _ f σ (zq_m hz (by first | decide | omega | (have hL := z_lits; omega))) (by omega) (by first | assumption | omega) (Nat.lt_succ_self _)
  · have k_2 := z_ceq c_2 (a := 9) (b := nn.toInt) rfl rfl
    refine zv_aload_n (j := 0) G dX10_chooses_5 rfl rfl ?_
    refine zv_iload_n (j := 2) G dX10_chooses_6 rfl rfl ?_
    refine zv_iload (j := 5) G dX10_chooses_7 rfl ?_
    refine zv_iload (j := 6) G dX10_chooses_9 rfl ?_
    refine zv_callVi (as := [za_I nn, za_I fd, za_I td]) G (by decide) rfl rfl (zc_X10_haveAll l E nn fd td σ hz.2.2.1 (by omega)) zk_X10_haveAll zm_1619 rfl ⟨(Nat.le_of_ble_eq_true rfl), (Nat.le_of_ble_eq_true rfl)⟩ ⟨Nat.zero_le _, Nat.zero_le _⟩ (Nat.le_of_ble_eq_true rfl) dX10_chooses_11 (fun r_11 σ h_11 => ?_)
    obtain ⟨h_11, rfl⟩ := h_11
    exact zv_zret G hr dX10_chooses_14 (z_nar h_11) ⟨h_11, (zq_m hz (by first | decide | omega | (have hL := z_lits; omega)))⟩
set_option maxHeartbeats 4000000 in
set_option maxRecDepth 100000 in
theorem zc_X10_chooses_at8 (l : Launch) (E : za_E) (nn : Int32) (f : Int32) (mm : Int32) (fd : Int32) (td : Int32) (σ0 : za_S) (hJ : zJ σ0) (hn : 8 ≤ nn.toInt) (hf : 8 ≤ f.toInt ∧ f.toInt ≤ 20) (hm : 0 ≤ mm.toInt ∧ mm.toInt ≤ 20) : zMi l E yX10_chooses cX10_chooses 8 (Option.some Jvm.ClassFile.FieldType.boolean) 15 397 [za_O 19 93, za_I 8, za_I nn, za_I f, za_I mm, za_I fd, za_I td] σ0 (fun r σ' => (r = 0 ∨ r = 1) ∧ zq 12 σ0 σ') := by
  refine zMi_of [(0, za_O 19 93), (1, za_I 8), (2, za_I nn), (3, za_I f), (4, za_I mm), (5, za_I fd), (6, za_I td)] (by decide) rfl rfl (Nat.le_of_ble_eq_true rfl) ?_
  intro ho p e s m args below meth c G hr
  refine zv_gen (R9 := zq 12 σ0) (zq_0 hJ) (fun σ hz => ?_)
  refine zv_iload_n (j := 1) G dX10_chooses_0 rfl rfl ?_
  refine zv_iload_n (j := 2) G dX10_chooses_1 rfl rfl ?_
  refine zv_icmp_ne (tgt := 15) G dX10_chooses_2 (by decide) (fun c_2 => ?_) (fun c_2 => ?_)
  · have k_2 := z_cne c_2 (a := 8) (b := nn.toInt) rfl rfl
    refine zv_iload_n (j := 3) G dX10_chooses_15 rfl rfl ?_
    have J_18 : ∀ (n : Nat) (y7_18 : Int32) (σ : za_S) (hz : zq 12 σ0 σ) (g_18 : 8 ≤ y7_18.toInt ∧ y7_18.toInt ≤ 20) (i7_18 : 0 ≤ y7_18.toInt) (hn_18 : (20 - y7_18.toInt).toNat < n), zV p l e (zRm 15 397) s m args below meth c E (za_A E) 8 0 0 (MQ below (va_Qi (fun r σ' => (r = 0 ∨ r = 1) ∧ zq 12 σ0 σ') (zB E) (za_A E)) args s 0 0 (za_A E)) 18 [(0, za_O 19 93), (1, za_I 8), (2, za_I nn), (4, za_I mm), (5, za_I fd), (6, za_I td), (7, za_I y7_18)] [] σ := by
      intro n
      induction n with
      | zero => intro y7_18 σ hz g_18 i7_18 hn; exact absurd hn (Nat.not_lt_zero _)
      | succ n ih_18 =>
        intro y7_18 σ hz g_18 i7_18 hn_18
        refine zv_iload (j := 6) G dX10_chooses_18 rfl ?_
        refine zv_iload (j := 3) G dX10_chooses_20 rfl ?_
        refine zv_iload_n (j := 2) G dX10_chooses_22 rfl rfl ?_
        refine zv_iload_n (j := 1) G dX10_chooses_23 rfl rfl ?_
        refine zv_isub G dX10_chooses_24 ?_
        refine zv_isub G dX10_chooses_25 ?_
        refine zv_icmp_gt (tgt := 66) G dX10_chooses_26 (by decide) (fun c_26 => ?_) (fun c_26 => ?_)
        · have k_26 := z_clt c_26 (a := (mm - (nn - 8)).toInt) (b := y7_18.toInt) rfl rfl
          refine zv_iconst (v := 0) G dX10_chooses_66 (by decide) ?_
          exact zv_zret G hr dX10_chooses_67 (by decide) ⟨(Or.inl rfl), (zq_m hz (by first | decide | omega | (have hL := z_lits; omega)))⟩
        · have k_26 := z_cnlt c_26 (a := (mm - (nn - 8)).toInt) (b := y7_18.toInt) rfl rfl
          have l_26 := z_lim (D := 8) rfl (by decide) hn hm c_26
          refine zv_aload_n (j := 0) G dX10_chooses_29 rfl rfl ?_
          refine zg_X10_147 G dX10_chooses_30 ?_
          refine zv_iload_n (j := 1) G dX10_chooses_33 rfl rfl ?_
          refine zv_iload (j := 6) G dX10_chooses_34 rfl ?_
          refine zv_iast G (by decide) rfl (fun _ => rfl) (z_in (by decide) (by decide)) dX10_chooses_36 ?_
          refine zv_gen (R9 := zq 12 σ0) (zq_c hz (by omega)) (fun σ hz => ?_)
          refine zv_aload_n (j := 0) G dX10_chooses_37 rfl rfl ?_
          refine zv_iload_n (j := 1) G dX10_chooses_38 rfl rfl ?_
          refine zv_iconst (v := 1) G dX10_chooses_39 (by decide) ?_
          refine zv_iadd G dX10_chooses_40 ?_
          refine zv_cst (y := 9) (by decide) ?_
          refine zv_iload_n (j := 2) G dX10_chooses_41 rfl rfl ?_
          refine zv_iload (j := 6) G dX10_chooses_42 rfl ?_
          refine zv_iconst (v := 1) G dX10_chooses_44 (by decide) ?_
          refine zv_iadd G dX10_chooses_45 ?_
          refine zv_iload (j := 3) G dX10_chooses_46 rfl ?_
          refine zv_iload (j := 4) G dX10_chooses_48 rfl ?_
          refine zv_iload (j := 5) G dX10_chooses_50 rfl ?_
          refine zv_callVi (as := [za_I 9, za_I nn, za_I (y7_18 + 1), za_I mm, za_I fd, za_I td]) G (by decide) rfl rfl (zc_X10_chooses_at9 l E nn (y7_18 + 1) mm fd td σ (zq_J hJ (zq_m hz (by decide))) (by omega) (by have h9 := z_u1 (x := y7_18) (a := 8) (b := 19) (by omega) (by decide) (by decide); omega) hm) zk_X10_chooses zm_1615 rfl ⟨(Nat.le_of_ble_eq_true rfl), (Nat.le_of_ble_eq_true rfl)⟩ ⟨Nat.zero_le _, Nat.zero_le _⟩ (Nat.le_of_ble_eq_true rfl) dX10_chooses_52 (fun r_52 σ h_52 => ?_)
          obtain ⟨h_52, hz9⟩ := h_52
          have hz : zq 12 σ0 σ := zq_tr hz hz9
          refine zv_if_eq (tgt := 60) G dX10_chooses_55 (by decide) (fun c_55 => ?_) (fun c_55 => ?_)
          · obtain ⟨x_60, e_60⟩ : ∃ y : Int32, y = y7_18 + 1 := ⟨_, rfl⟩
            refine zv_iinc (j := 6) (v := x_60) (lv' := [(7, za_I x_60), (0, za_O 19 93), (1, za_I 8), (2, za_I nn), (4, za_I mm), (5, za_I fd), (6, za_I td)]) G dX10_chooses_60 rfl (by rw [e_60]; rfl) (by decide) rfl ?_
            first | have q_60 := z_inc9 (by omega) e_60 | skip
            refine zv_goto (tgt := 18) G dX10_chooses_63 (by decide) ?_
            refine zv_sub [1, 2, 3, 4, 5, 6, 0] (lv' := [(0, za_O 19 93), (1, za_I 8), (2, za_I nn), (4, za_I mm), (5, za_I fd), (6, za_I td), (7, za_I x_60)]) rfl ?_
            exact ih_18 x_60 σ (zq_m hz (by first | decide | omega | (have hL := z_lits; omega))) (by omega) (by have := z_inc9 (by omega) e_60; omega) (by omega)
          · refine zv_iconst (v := 1) G dX10_chooses_58 (by decide) ?_
            exact zv_zret G hr dX10_chooses_59 (by decide) ⟨(Or.inr rfl), (zq_m hz (by first | decide | omega | (have hL := z_lits; omega)))⟩
    refine zv_istore (lv' := [(7, za_I f), (0, za_O 19 93), (1, za_I 8), (2, za_I nn), (3, za_I f), (4, za_I mm), (5, za_I fd), (6, za_I td)]) G dX10_chooses_16 (by decide) rfl ?_
    refine zv_sub [1, 2, 3, 5, 6, 7, 0] (lv' := [(0, za_O 19 93), (1, za_I 8), (2, za_I nn), (4, za_I mm), (5, za_I fd), (6, za_I td), (7, za_I f)]) rfl ?_
    exact J_18 _ f σ (zq_m hz (by first | decide | omega | (have hL := z_lits; omega))) (by omega) (by first | assumption | omega) (Nat.lt_succ_self _)
  · have k_2 := z_ceq c_2 (a := 8) (b := nn.toInt) rfl rfl
    refine zv_aload_n (j := 0) G dX10_chooses_5 rfl rfl ?_
    refine zv_iload_n (j := 2) G dX10_chooses_6 rfl rfl ?_
    refine zv_iload (j := 5) G dX10_chooses_7 rfl ?_
    refine zv_iload (j := 6) G dX10_chooses_9 rfl ?_
    refine zv_callVi (as := [za_I nn, za_I fd, za_I td]) G (by decide) rfl rfl (zc_X10_haveAll l E nn fd td σ hz.2.2.1 (by omega)) zk_X10_haveAll zm_1619 rfl ⟨(Nat.le_of_ble_eq_true rfl), (Nat.le_of_ble_eq_true rfl)⟩ ⟨Nat.zero_le _, Nat.zero_le _⟩ (Nat.le_of_ble_eq_true rfl) dX10_chooses_11 (fun r_11 σ h_11 => ?_)
    obtain ⟨h_11, rfl⟩ := h_11
    exact zv_zret G hr dX10_chooses_14 (z_nar h_11) ⟨h_11, (zq_m hz (by first | decide | omega | (have hL := z_lits; omega)))⟩
set_option maxHeartbeats 4000000 in
set_option maxRecDepth 100000 in
theorem zc_X10_chooses_at7 (l : Launch) (E : za_E) (nn : Int32) (f : Int32) (mm : Int32) (fd : Int32) (td : Int32) (σ0 : za_S) (hJ : zJ σ0) (hn : 7 ≤ nn.toInt) (hf : 7 ≤ f.toInt ∧ f.toInt ≤ 20) (hm : 0 ≤ mm.toInt ∧ mm.toInt ≤ 20) : zMi l E yX10_chooses cX10_chooses 8 (Option.some Jvm.ClassFile.FieldType.boolean) 16 424 [za_O 19 93, za_I 7, za_I nn, za_I f, za_I mm, za_I fd, za_I td] σ0 (fun r σ' => (r = 0 ∨ r = 1) ∧ zq 12 σ0 σ') := by
  refine zMi_of [(0, za_O 19 93), (1, za_I 7), (2, za_I nn), (3, za_I f), (4, za_I mm), (5, za_I fd), (6, za_I td)] (by decide) rfl rfl (Nat.le_of_ble_eq_true rfl) ?_
  intro ho p e s m args below meth c G hr
  refine zv_gen (R9 := zq 12 σ0) (zq_0 hJ) (fun σ hz => ?_)
  refine zv_iload_n (j := 1) G dX10_chooses_0 rfl rfl ?_
  refine zv_iload_n (j := 2) G dX10_chooses_1 rfl rfl ?_
  refine zv_icmp_ne (tgt := 15) G dX10_chooses_2 (by decide) (fun c_2 => ?_) (fun c_2 => ?_)
  · have k_2 := z_cne c_2 (a := 7) (b := nn.toInt) rfl rfl
    refine zv_iload_n (j := 3) G dX10_chooses_15 rfl rfl ?_
    have J_18 : ∀ (n : Nat) (y7_18 : Int32) (σ : za_S) (hz : zq 12 σ0 σ) (g_18 : 7 ≤ y7_18.toInt ∧ y7_18.toInt ≤ 20) (i7_18 : 0 ≤ y7_18.toInt) (hn_18 : (20 - y7_18.toInt).toNat < n), zV p l e (zRm 16 424) s m args below meth c E (za_A E) 8 0 0 (MQ below (va_Qi (fun r σ' => (r = 0 ∨ r = 1) ∧ zq 12 σ0 σ') (zB E) (za_A E)) args s 0 0 (za_A E)) 18 [(0, za_O 19 93), (1, za_I 7), (2, za_I nn), (4, za_I mm), (5, za_I fd), (6, za_I td), (7, za_I y7_18)] [] σ := by
      intro n
      induction n with
      | zero => intro y7_18 σ hz g_18 i7_18 hn; exact absurd hn (Nat.not_lt_zero _)
      | succ n ih_18 =>
        intro y7_18 σ hz g_18 i7_18 hn_18
        refine zv_iload (j := 6) G dX10_chooses_18 rfl ?_
        refine zv_iload (j := 3) G dX10_chooses_20 rfl ?_
        refine zv_iload_n (j := 2) G dX10_chooses_22 rfl rfl ?_
        refine zv_iload_n (j := 1) G dX10_chooses_23 rfl rfl ?_
        refine zv_isub G dX10_chooses_24 ?_
        refine zv_isub G dX10_chooses_25 ?_
        refine zv_icmp_gt (tgt := 66) G dX10_chooses_26 (by decide) (fun c_26 => ?_) (fun c_26 => ?_)
        · have k_26 := z_clt c_26 (a := (mm - (nn - 7)).toInt) (b := y7_18.toInt) rfl rfl
          refine zv_iconst (v := 0) G dX10_chooses_66 (by decide) ?_
          exact zv_zret G hr dX10_chooses_67 (by decide) ⟨(Or.inl rfl), (zq_m hz (by first | decide | omega | (have hL := z_lits; omega)))⟩
        · have k_26 := z_cnlt c_26 (a := (mm - (nn - 7)).toInt) (b := y7_18.toInt) rfl rfl
          have l_26 := z_lim (D := 7) rfl (by decide) hn hm c_26
          refine zv_aload_n (j := 0) G dX10_chooses_29 rfl rfl ?_
          refine zg_X10_147 G dX10_chooses_30 ?_
          refine zv_iload_n (j := 1) G dX10_chooses_33 rfl rfl ?_
          refine zv_iload (j := 6) G dX10_chooses_34 rfl ?_
          refine zv_iast G (by decide) rfl (fun _ => rfl) (z_in (by decide) (by decide)) dX10_chooses_36 ?_
          refine zv_gen (R9 := zq 12 σ0) (zq_c hz (by omega)) (fun σ hz => ?_)
          refine zv_aload_n (j := 0) G dX10_chooses_37 rfl rfl ?_
          refine zv_iload_n (j := 1) G dX10_chooses_38 rfl rfl ?_
          refine zv_iconst (v := 1) G dX10_chooses_39 (by decide) ?_
          refine zv_iadd G dX10_chooses_40 ?_
          refine zv_cst (y := 8) (by decide) ?_
          refine zv_iload_n (j := 2) G dX10_chooses_41 rfl rfl ?_
          refine zv_iload (j := 6) G dX10_chooses_42 rfl ?_
          refine zv_iconst (v := 1) G dX10_chooses_44 (by decide) ?_
          refine zv_iadd G dX10_chooses_45 ?_
          refine zv_iload (j := 3) G dX10_chooses_46 rfl ?_
          refine zv_iload (j := 4) G dX10_chooses_48 rfl ?_
          refine zv_iload (j := 5) G dX10_chooses_50 rfl ?_
          refine zv_callVi (as := [za_I 8, za_I nn, za_I (y7_18 + 1), za_I mm, za_I fd, za_I td]) G (by decide) rfl rfl (zc_X10_chooses_at8 l E nn (y7_18 + 1) mm fd td σ (zq_J hJ (zq_m hz (by decide))) (by omega) (by have h9 := z_u1 (x := y7_18) (a := 7) (b := 19) (by omega) (by decide) (by decide); omega) hm) zk_X10_chooses zm_1615 rfl ⟨(Nat.le_of_ble_eq_true rfl), (Nat.le_of_ble_eq_true rfl)⟩ ⟨Nat.zero_le _, Nat.zero_le _⟩ (Nat.le_of_ble_eq_true rfl) dX10_chooses_52 (fun r_52 σ h_52 => ?_)
          obtain ⟨h_52, hz9⟩ := h_52
          have hz : zq 12 σ0 σ := zq_tr hz hz9
          refine zv_if_eq (tgt := 60) G dX10_chooses_55 (by decide) (fun c_55 => ?_) (fun c_55 => ?_)
          · obtain ⟨x_60, e_60⟩ : ∃ y : Int32, y = y7_18 + 1 := ⟨_, rfl⟩
            refine zv_iinc (j := 6) (v := x_60) (lv' := [(7, za_I x_60), (0, za_O 19 93), (1, za_I 7), (2, za_I nn), (4, za_I mm), (5, za_I fd), (6, za_I td)]) G dX10_chooses_60 rfl (by rw [e_60]; rfl) (by decide) rfl ?_
            first | have q_60 := z_inc9 (by omega) e_60 | skip
            refine zv_goto (tgt := 18) G dX10_chooses_63 (by decide) ?_
            refine zv_sub [1, 2, 3, 4, 5, 6, 0] (lv' := [(0, za_O 19 93), (1, za_I 7), (2, za_I nn), (4, za_I mm), (5, za_I fd), (6, za_I td), (7, za_I x_60)]) rfl ?_
            exact ih_18 x_60 σ (zq_m hz (by first | decide | omega | (have hL := z_lits; omega))) (by omega) (by have := z_inc9 (by omega) e_60; omega) (by omega)
          · refine zv_iconst (v := 1) G dX10_chooses_58 (by decide) ?_
            exact zv_zret G hr dX10_chooses_59 (by decide) ⟨(Or.inr rfl), (zq_m hz (by first | decide | omega | (have hL := z_lits; omega)))⟩
    refine zv_istore (lv' := [(7, za_I f), (0, za_O 19 93), (1, za_I 7), (2, za_I nn), (3, za_I f), (4, za_I mm), (5, za_I fd), (6, za_I td)]) G dX10_chooses_16 (by decide) rfl ?_
    refine zv_sub [1, 2, 3, 5, 6, 7, 0] (lv' := [(0, za_O 19 93), (1, za_I 7), (2, za_I nn), (4, za_I mm), (5, za_I fd), (6, za_I td), (7, za_I f)]) rfl ?_
    exact J_18 _ f σ (zq_m hz (by first | decide | omega | (have hL := z_lits; omega))) (by omega) (by first | assumption | omega) (Nat.lt_succ_self _)
  · have k_2 := z_ceq c_2 (a := 7) (b := nn.toInt) rfl rfl
    refine zv_aload_n (j := 0) G dX10_chooses_5 rfl rfl ?_
    refine zv_iload_n (j := 2) G dX10_chooses_6 rfl rfl ?_
    refine zv_iload (j := 5) G dX10_chooses_7 rfl ?_
    refine zv_iload (j := 6) G dX10_chooses_9 rfl ?_
    refine zv_callVi (as := [za_I nn, za_I fd, za_I td]) G (by decide) rfl rfl (zc_X10_haveAll l E nn fd td σ hz.2.2.1 (by omega)) zk_X10_haveAll zm_1619 rfl ⟨(Nat.le_of_ble_eq_true rfl), (Nat.le_of_ble_eq_true rfl)⟩ ⟨Nat.zero_le _, Nat.zero_le _⟩ (Nat.le_of_ble_eq_true rfl) dX10_chooses_11 (fun r_11 σ h_11 => ?_)
    obtain ⟨h_11, rfl⟩ := h_11
    exact zv_zret G hr dX10_chooses_14 (z_nar h_11) ⟨h_11, (zq_m hz (by first | decide | omega | (have hL := z_lits; omega)))⟩
set_option maxHeartbeats 4000000 in
set_option maxRecDepth 100000 in
theorem zc_X10_chooses_at6 (l : Launch) (E : za_E) (nn : Int32) (f : Int32) (mm : Int32) (fd : Int32) (td : Int32) (σ0 : za_S) (hJ : zJ σ0) (hn : 6 ≤ nn.toInt) (hf : 6 ≤ f.toInt ∧ f.toInt ≤ 20) (hm : 0 ≤ mm.toInt ∧ mm.toInt ≤ 20) : zMi l E yX10_chooses cX10_chooses 8 (Option.some Jvm.ClassFile.FieldType.boolean) 17 451 [za_O 19 93, za_I 6, za_I nn, za_I f, za_I mm, za_I fd, za_I td] σ0 (fun r σ' => (r = 0 ∨ r = 1) ∧ zq 12 σ0 σ') := by
  refine zMi_of [(0, za_O 19 93), (1, za_I 6), (2, za_I nn), (3, za_I f), (4, za_I mm), (5, za_I fd), (6, za_I td)] (by decide) rfl rfl (Nat.le_of_ble_eq_true rfl) ?_
  intro ho p e s m args below meth c G hr
  refine zv_gen (R9 := zq 12 σ0) (zq_0 hJ) (fun σ hz => ?_)
  refine zv_iload_n (j := 1) G dX10_chooses_0 rfl rfl ?_
  refine zv_iload_n (j := 2) G dX10_chooses_1 rfl rfl ?_
  refine zv_icmp_ne (tgt := 15) G dX10_chooses_2 (by decide) (fun c_2 => ?_) (fun c_2 => ?_)
  · have k_2 := z_cne c_2 (a := 6) (b := nn.toInt) rfl rfl
    refine zv_iload_n (j := 3) G dX10_chooses_15 rfl rfl ?_
    have J_18 : ∀ (n : Nat) (y7_18 : Int32) (σ : za_S) (hz : zq 12 σ0 σ) (g_18 : 6 ≤ y7_18.toInt ∧ y7_18.toInt ≤ 20) (i7_18 : 0 ≤ y7_18.toInt) (hn_18 : (20 - y7_18.toInt).toNat < n), zV p l e (zRm 17 451) s m args below meth c E (za_A E) 8 0 0 (MQ below (va_Qi (fun r σ' => (r = 0 ∨ r = 1) ∧ zq 12 σ0 σ') (zB E) (za_A E)) args s 0 0 (za_A E)) 18 [(0, za_O 19 93), (1, za_I 6), (2, za_I nn), (4, za_I mm), (5, za_I fd), (6, za_I td), (7, za_I y7_18)] [] σ := by
      intro n
      induction n with
      | zero => intro y7_18 σ hz g_18 i7_18 hn; exact absurd hn (Nat.not_lt_zero _)
      | succ n ih_18 =>
        intro y7_18 σ hz g_18 i7_18 hn_18
        refine zv_iload (j := 6) G dX10_chooses_18 rfl ?_
        refine zv_iload (j := 3) G dX10_chooses_20 rfl ?_
        refine zv_iload_n (j := 2) G dX10_chooses_22 rfl rfl ?_
        refine zv_iload_n (j := 1) G dX10_chooses_23 rfl rfl ?_
        refine zv_isub G dX10_chooses_24 ?_
        refine zv_isub G dX10_chooses_25 ?_
        refine zv_icmp_gt (tgt := 66) G dX10_chooses_26 (by decide) (fun c_26 => ?_) (fun c_26 => ?_)
        · have k_26 := z_clt c_26 (a := (mm - (nn - 6)).toInt) (b := y7_18.toInt) rfl rfl
          refine zv_iconst (v := 0) G dX10_chooses_66 (by decide) ?_
          exact zv_zret G hr dX10_chooses_67 (by decide) ⟨(Or.inl rfl), (zq_m hz (by first | decide | omega | (have hL := z_lits; omega)))⟩
        · have k_26 := z_cnlt c_26 (a := (mm - (nn - 6)).toInt) (b := y7_18.toInt) rfl rfl
          have l_26 := z_lim (D := 6) rfl (by decide) hn hm c_26
          refine zv_aload_n (j := 0) G dX10_chooses_29 rfl rfl ?_
          refine zg_X10_147 G dX10_chooses_30 ?_
          refine zv_iload_n (j := 1) G dX10_chooses_33 rfl rfl ?_
          refine zv_iload (j := 6) G dX10_chooses_34 rfl ?_
          refine zv_iast G (by decide) rfl (fun _ => rfl) (z_in (by decide) (by decide)) dX10_chooses_36 ?_
          refine zv_gen (R9 := zq 12 σ0) (zq_c hz (by omega)) (fun σ hz => ?_)
          refine zv_aload_n (j := 0) G dX10_chooses_37 rfl rfl ?_
          refine zv_iload_n (j := 1) G dX10_chooses_38 rfl rfl ?_
          refine zv_iconst (v := 1) G dX10_chooses_39 (by decide) ?_
          refine zv_iadd G dX10_chooses_40 ?_
          refine zv_cst (y := 7) (by decide) ?_
          refine zv_iload_n (j := 2) G dX10_chooses_41 rfl rfl ?_
          refine zv_iload (j := 6) G dX10_chooses_42 rfl ?_
          refine zv_iconst (v := 1) G dX10_chooses_44 (by decide) ?_
          refine zv_iadd G dX10_chooses_45 ?_
          refine zv_iload (j := 3) G dX10_chooses_46 rfl ?_
          refine zv_iload (j := 4) G dX10_chooses_48 rfl ?_
          refine zv_iload (j := 5) G dX10_chooses_50 rfl ?_
          refine zv_callVi (as := [za_I 7, za_I nn, za_I (y7_18 + 1), za_I mm, za_I fd, za_I td]) G (by decide) rfl rfl (zc_X10_chooses_at7 l E nn (y7_18 + 1) mm fd td σ (zq_J hJ (zq_m hz (by decide))) (by omega) (by have h9 := z_u1 (x := y7_18) (a := 6) (b := 19) (by omega) (by decide) (by decide); omega) hm) zk_X10_chooses zm_1615 rfl ⟨(Nat.le_of_ble_eq_true rfl), (Nat.le_of_ble_eq_true rfl)⟩ ⟨Nat.zero_le _, Nat.zero_le _⟩ (Nat.le_of_ble_eq_true rfl) dX10_chooses_52 (fun r_52 σ h_52 => ?_)
          obtain ⟨h_52, hz9⟩ := h_52
          have hz : zq 12 σ0 σ := zq_tr hz hz9
          refine zv_if_eq (tgt := 60) G dX10_chooses_55 (by decide) (fun c_55 => ?_) (fun c_55 => ?_)
          · obtain ⟨x_60, e_60⟩ : ∃ y : Int32, y = y7_18 + 1 := ⟨_, rfl⟩
            refine zv_iinc (j := 6) (v := x_60) (lv' := [(7, za_I x_60), (0, za_O 19 93), (1, za_I 6), (2, za_I nn), (4, za_I mm), (5, za_I fd), (6, za_I td)]) G dX10_chooses_60 rfl (by rw [e_60]; rfl) (by decide) rfl ?_
            first | have q_60 := z_inc9 (by omega) e_60 | skip
            refine zv_goto (tgt := 18) G dX10_chooses_63 (by decide) ?_
            refine zv_sub [1, 2, 3, 4, 5, 6, 0] (lv' := [(0, za_O 19 93), (1, za_I 6), (2, za_I nn), (4, za_I mm), (5, za_I fd), (6, za_I td), (7, za_I x_60)]) rfl ?_
            exact ih_18 x_60 σ (zq_m hz (by first | decide | omega | (have hL := z_lits; omega))) (by omega) (by have := z_inc9 (by omega) e_60; omega) (by omega)
          · refine zv_iconst (v := 1) G dX10_chooses_58 (by decide) ?_
            exact zv_zret G hr dX10_chooses_59 (by decide) ⟨(Or.inr rfl), (zq_m hz (by first | decide | omega | (have hL := z_lits; omega)))⟩
    refine zv_istore (lv' := [(7, za_I f), (0, za_O 19 93), (1, za_I 6), (2, za_I nn), (3, za_I f), (4, za_I mm), (5, za_I fd), (6, za_I td)]) G dX10_chooses_16 (by decide) rfl ?_
    refine zv_sub [1, 2, 3, 5, 6, 7, 0] (lv' := [(0, za_O 19 93), (1, za_I 6), (2, za_I nn), (4, za_I mm), (5, za_I fd), (6, za_I td), (7, za_I f)]) rfl ?_
    exact J_18 _ f σ (zq_m hz (by first | decide | omega | (have hL := z_lits; omega))) (by omega) (by first | assumption | omega) (Nat.lt_succ_self _)
  · have k_2 := z_ceq c_2 (a := 6) (b := nn.toInt) rfl rfl
    refine zv_aload_n (j := 0) G dX10_chooses_5 rfl rfl ?_
    refine zv_iload_n (j := 2) G dX10_chooses_6 rfl rfl ?_
    refine zv_iload (j := 5) G dX10_chooses_7 rfl ?_
    refine zv_iload (j := 6) G dX10_chooses_9 rfl ?_
    refine zv_callVi (as := [za_I nn, za_I fd, za_I td]) G (by decide) rfl rfl (zc_X10_haveAll l E nn fd td σ hz.2.2.1 (by omega)) zk_X10_haveAll zm_1619 rfl ⟨(Nat.le_of_ble_eq_true rfl), (Nat.le_of_ble_eq_true rfl)⟩ ⟨Nat.zero_le _, Nat.zero_le _⟩ (Nat.le_of_ble_eq_true rfl) dX10_chooses_11 (fun r_11 σ h_11 => ?_)
    obtain ⟨h_11, rfl⟩ := h_11
    exact zv_zret G hr dX10_chooses_14 (z_nar h_11) ⟨h_11, (zq_m hz (by first | decide | omega | (have hL := z_lits; omega)))⟩
set_option maxHeartbeats 4000000 in
set_option maxRecDepth 100000 in
theorem zc_X10_chooses_at5 (l : Launch) (E : za_E) (nn : Int32) (f : Int32) (mm : Int32) (fd : Int32) (td : Int32) (σ0 : za_S) (hJ : zJ σ0) (hn : 5 ≤ nn.toInt) (hf : 5 ≤ f.toInt ∧ f.toInt ≤ 20) (hm : 0 ≤ mm.toInt ∧ mm.toInt ≤ 20) : zMi l E yX10_chooses cX10_chooses 8 (Option.some Jvm.ClassFile.FieldType.boolean) 18 478 [za_O 19 93, za_I 5, za_I nn, za_I f, za_I mm, za_I fd, za_I td] σ0 (fun r σ' => (r = 0 ∨ r = 1) ∧ zq 12 σ0 σ') := by
  refine zMi_of [(0, za_O 19 93), (1, za_I 5), (2, za_I nn), (3, za_I f), (4, za_I mm), (5, za_I fd), (6, za_I td)] (by decide) rfl rfl (Nat.le_of_ble_eq_true rfl) ?_
  intro ho p e s m args below meth c G hr
  refine zv_gen (R9 := zq 12 σ0) (zq_0 hJ) (fun σ hz => ?_)
  refine zv_iload_n (j := 1) G dX10_chooses_0 rfl rfl ?_
  refine zv_iload_n (j := 2) G dX10_chooses_1 rfl rfl ?_
  refine zv_icmp_ne (tgt := 15) G dX10_chooses_2 (by decide) (fun c_2 => ?_) (fun c_2 => ?_)
  · have k_2 := z_cne c_2 (a := 5) (b := nn.toInt) rfl rfl
    refine zv_iload_n (j := 3) G dX10_chooses_15 rfl rfl ?_
    have J_18 : ∀ (n : Nat) (y7_18 : Int32) (σ : za_S) (hz : zq 12 σ0 σ) (g_18 : 5 ≤ y7_18.toInt ∧ y7_18.toInt ≤ 20) (i7_18 : 0 ≤ y7_18.toInt) (hn_18 : (20 - y7_18.toInt).toNat < n), zV p l e (zRm 18 478) s m args below meth c E (za_A E) 8 0 0 (MQ below (va_Qi (fun r σ' => (r = 0 ∨ r = 1) ∧ zq 12 σ0 σ') (zB E) (za_A E)) args s 0 0 (za_A E)) 18 [(0, za_O 19 93), (1, za_I 5), (2, za_I nn), (4, za_I mm), (5, za_I fd), (6, za_I td), (7, za_I y7_18)] [] σ := by
      intro n
      induction n with
      | zero => intro y7_18 σ hz g_18 i7_18 hn; exact absurd hn (Nat.not_lt_zero _)
      | succ n ih_18 =>
        intro y7_18 σ hz g_18 i7_18 hn_18
        refine zv_iload (j := 6) G dX10_chooses_18 rfl ?_
        refine zv_iload (j := 3) G dX10_chooses_20 rfl ?_
        refine zv_iload_n (j := 2) G dX10_chooses_22 rfl rfl ?_
        refine zv_iload_n (j := 1) G dX10_chooses_23 rfl rfl ?_
        refine zv_isub G dX10_chooses_24 ?_
        refine zv_isub G dX10_chooses_25 ?_
        refine zv_icmp_gt (tgt := 66) G dX10_chooses_26 (by decide) (fun c_26 => ?_) (fun c_26 => ?_)
        · have k_26 := z_clt c_26 (a := (mm - (nn - 5)).toInt) (b := y7_18.toInt) rfl rfl
          refine zv_iconst (v := 0) G dX10_chooses_66 (by decide) ?_
          exact zv_zret G hr dX10_chooses_67 (by decide) ⟨(Or.inl rfl), (zq_m hz (by first | decide | omega | (have hL := z_lits; omega)))⟩
        · have k_26 := z_cnlt c_26 (a := (mm - (nn - 5)).toInt) (b := y7_18.toInt) rfl rfl
          have l_26 := z_lim (D := 5) rfl (by decide) hn hm c_26
          refine zv_aload_n (j := 0) G dX10_chooses_29 rfl rfl ?_
          refine zg_X10_147 G dX10_chooses_30 ?_
          refine zv_iload_n (j := 1) G dX10_chooses_33 rfl rfl ?_
          refine zv_iload (j := 6) G dX10_chooses_34 rfl ?_
          refine zv_iast G (by decide) rfl (fun _ => rfl) (z_in (by decide) (by decide)) dX10_chooses_36 ?_
          refine zv_gen (R9 := zq 12 σ0) (zq_c hz (by omega)) (fun σ hz => ?_)
          refine zv_aload_n (j := 0) G dX10_chooses_37 rfl rfl ?_
          refine zv_iload_n (j := 1) G dX10_chooses_38 rfl rfl ?_
          refine zv_iconst (v := 1) G dX10_chooses_39 (by decide) ?_
          refine zv_iadd G dX10_chooses_40 ?_
          refine zv_cst (y := 6) (by decide) ?_
          refine zv_iload_n (j := 2) G dX10_chooses_41 rfl rfl ?_
          refine zv_iload (j := 6) G dX10_chooses_42 rfl ?_
          refine zv_iconst (v := 1) G dX10_chooses_44 (by decide) ?_
          refine zv_iadd G dX10_chooses_45 ?_
          refine zv_iload (j := 3) G dX10_chooses_46 rfl ?_
          refine zv_iload (j := 4) G dX10_chooses_48 rfl ?_
          refine zv_iload (j := 5) G dX10_chooses_50 rfl ?_
          refine zv_callVi (as := [za_I 6, za_I nn, za_I (y7_18 + 1), za_I mm, za_I fd, za_I td]) G (by decide) rfl rfl (zc_X10_chooses_at6 l E nn (y7_18 + 1) mm fd td σ (zq_J hJ (zq_m hz (by decide))) (by omega) (by have h9 := z_u1 (x := y7_18) (a := 5) (b := 19) (by omega) (by decide) (by decide); omega) hm) zk_X10_chooses zm_1615 rfl ⟨(Nat.le_of_ble_eq_true rfl), (Nat.le_of_ble_eq_true rfl)⟩ ⟨Nat.zero_le _, Nat.zero_le _⟩ (Nat.le_of_ble_eq_true rfl) dX10_chooses_52 (fun r_52 σ h_52 => ?_)
          obtain ⟨h_52, hz9⟩ := h_52
          have hz : zq 12 σ0 σ := zq_tr hz hz9
          refine zv_if_eq (tgt := 60) G dX10_chooses_55 (by decide) (fun c_55 => ?_) (fun c_55 => ?_)
          · obtain ⟨x_60, e_60⟩ : ∃ y : Int32, y = y7_18 + 1 := ⟨_, rfl⟩
            refine zv_iinc (j := 6) (v := x_60) (lv' := [(7, za_I x_60), (0, za_O 19 93), (1, za_I 5), (2, za_I nn), (4, za_I mm), (5, za_I fd), (6, za_I td)]) G dX10_chooses_60 rfl (by rw [e_60]; rfl) (by decide) rfl ?_
            first | have q_60 := z_inc9 (by omega) e_60 | skip
            refine zv_goto (tgt := 18) G dX10_chooses_63 (by decide) ?_
            refine zv_sub [1, 2, 3, 4, 5, 6, 0] (lv' := [(0, za_O 19 93), (1, za_I 5), (2, za_I nn), (4, za_I mm), (5, za_I fd), (6, za_I td), (7, za_I x_60)]) rfl ?_
            exact ih_18 x_60 σ (zq_m hz (by first | decide | omega | (have hL := z_lits; omega))) (by omega) (by have := z_inc9 (by omega) e_60; omega) (by omega)
          · refine zv_iconst (v := 1) G dX10_chooses_58 (by decide) ?_
            exact zv_zret G hr dX10_chooses_59 (by decide) ⟨(Or.inr rfl), (zq_m hz (by first | decide | omega | (have hL := z_lits; omega)))⟩
    refine zv_istore (lv' := [(7, za_I f), (0, za_O 19 93), (1, za_I 5), (2, za_I nn), (3, za_I f), (4, za_I mm), (5, za_I fd), (6, za_I td)]) G dX10_chooses_16 (by decide) rfl ?_
    refine zv_sub [1, 2, 3, 5, 6, 7, 0] (lv' := [(0, za_O 19 93), (1, za_I 5), (2, za_I nn), (4, za_I mm), (5, za_I fd), (6, za_I td), (7, za_I f)]) rfl ?_
    exact J_18 _ f σ (zq_m hz (by first | decide | omega | (have hL := z_lits; omega))) (by omega) (by first | assumption | omega) (Nat.lt_succ_self _)
  · have k_2 := z_ceq c_2 (a := 5) (b := nn.toInt) rfl rfl
    refine zv_aload_n (j := 0) G dX10_chooses_5 rfl rfl ?_
    refine zv_iload_n (j := 2) G dX10_chooses_6 rfl rfl ?_
    refine zv_iload (j := 5) G dX10_chooses_7 rfl ?_
    refine zv_iload (j := 6) G dX10_chooses_9 rfl ?_
    refine zv_callVi (as := [za_I nn, za_I fd, za_I td]) G (by decide) rfl rfl (zc_X10_haveAll l E nn fd td σ hz.2.2.1 (by omega)) zk_X10_haveAll zm_1619 rfl ⟨(Nat.le_of_ble_eq_true rfl), (Nat.le_of_ble_eq_true rfl)⟩ ⟨Nat.zero_le _, Nat.zero_le _⟩ (Nat.le_of_ble_eq_true rfl) dX10_chooses_11 (fun r_11 σ h_11 => ?_)
    obtain ⟨h_11, rfl⟩ := h_11
    exact zv_zret G hr dX10_chooses_14 (z_nar h_11) ⟨h_11, (zq_m hz (by first | decide | omega | (have hL := z_lits; omega)))⟩
set_option maxHeartbeats 4000000 in
set_option maxRecDepth 100000 in
theorem zc_X10_chooses_at4 (l : Launch) (E : za_E) (nn : Int32) (f : Int32) (mm : Int32) (fd : Int32) (td : Int32) (σ0 : za_S) (hJ : zJ σ0) (hn : 4 ≤ nn.toInt) (hf : 4 ≤ f.toInt ∧ f.toInt ≤ 20) (hm : 0 ≤ mm.toInt ∧ mm.toInt ≤ 20) : zMi l E yX10_chooses cX10_chooses 8 (Option.some Jvm.ClassFile.FieldType.boolean) 19 505 [za_O 19 93, za_I 4, za_I nn, za_I f, za_I mm, za_I fd, za_I td] σ0 (fun r σ' => (r = 0 ∨ r = 1) ∧ zq 12 σ0 σ') := by
  refine zMi_of [(0, za_O 19 93), (1, za_I 4), (2, za_I nn), (3, za_I f), (4, za_I mm), (5, za_I fd), (6, za_I td)] (by decide) rfl rfl (Nat.le_of_ble_eq_true rfl) ?_
  intro ho p e s m args below meth c G hr
  refine zv_gen (R9 := zq 12 σ0) (zq_0 hJ) (fun σ hz => ?_)
  refine zv_iload_n (j := 1) G dX10_chooses_0 rfl rfl ?_
  refine zv_iload_n (j := 2) G dX10_chooses_1 rfl rfl ?_
  refine zv_icmp_ne (tgt := 15) G dX10_chooses_2 (by decide) (fun c_2 => ?_) (fun c_2 => ?_)
  · have k_2 := z_cne c_2 (a := 4) (b := nn.toInt) rfl rfl
    refine zv_iload_n (j := 3) G dX10_chooses_15 rfl rfl ?_
    have J_18 : ∀ (n : Nat) (y7_18 : Int32) (σ : za_S) (hz : zq 12 σ0 σ) (g_18 : 4 ≤ y7_18.toInt ∧ y7_18.toInt ≤ 20) (i7_18 : 0 ≤ y7_18.toInt) (hn_18 : (20 - y7_18.toInt).toNat < n), zV p l e (zRm 19 505) s m args below meth c E (za_A E) 8 0 0 (MQ below (va_Qi (fun r σ' => (r = 0 ∨ r = 1) ∧ zq 12 σ0 σ') (zB E) (za_A E)) args s 0 0 (za_A E)) 18 [(0, za_O 19 93), (1, za_I 4), (2, za_I nn), (4, za_I mm), (5, za_I fd), (6, za_I td), (7, za_I y7_18)] [] σ := by
      intro n
      induction n with
      | zero => intro y7_18 σ hz g_18 i7_18 hn; exact absurd hn (Nat.not_lt_zero _)
      | succ n ih_18 =>
        intro y7_18 σ hz g_18 i7_18 hn_18
        refine zv_iload (j := 6) G dX10_chooses_18 rfl ?_
        refine zv_iload (j := 3) G dX10_chooses_20 rfl ?_
        refine zv_iload_n (j := 2) G dX10_chooses_22 rfl rfl ?_
        refine zv_iload_n (j := 1) G dX10_chooses_23 rfl rfl ?_
        refine zv_isub G dX10_chooses_24 ?_
        refine zv_isub G dX10_chooses_25 ?_
        refine zv_icmp_gt (tgt := 66) G dX10_chooses_26 (by decide) (fun c_26 => ?_) (fun c_26 => ?_)
        · have k_26 := z_clt c_26 (a := (mm - (nn - 4)).toInt) (b := y7_18.toInt) rfl rfl
          refine zv_iconst (v := 0) G dX10_chooses_66 (by decide) ?_
          exact zv_zret G hr dX10_chooses_67 (by decide) ⟨(Or.inl rfl), (zq_m hz (by first | decide | omega | (have hL := z_lits; omega)))⟩
        · have k_26 := z_cnlt c_26 (a := (mm - (nn - 4)).toInt) (b := y7_18.toInt) rfl rfl
          have l_26 := z_lim (D := 4) rfl (by decide) hn hm c_26
          refine zv_aload_n (j := 0) G dX10_chooses_29 rfl rfl ?_
          refine zg_X10_147 G dX10_chooses_30 ?_
          refine zv_iload_n (j := 1) G dX10_chooses_33 rfl rfl ?_
          refine zv_iload (j := 6) G dX10_chooses_34 rfl ?_
          refine zv_iast G (by decide) rfl (fun _ => rfl) (z_in (by decide) (by decide)) dX10_chooses_36 ?_
          refine zv_gen (R9 := zq 12 σ0) (zq_c hz (by omega)) (fun σ hz => ?_)
          refine zv_aload_n (j := 0) G dX10_chooses_37 rfl rfl ?_
          refine zv_iload_n (j := 1) G dX10_chooses_38 rfl rfl ?_
          refine zv_iconst (v := 1) G dX10_chooses_39 (by decide) ?_
          refine zv_iadd G dX10_chooses_40 ?_
          refine zv_cst (y := 5) (by decide) ?_
          refine zv_iload_n (j := 2) G dX10_chooses_41 rfl rfl ?_
          refine zv_iload (j := 6) G dX10_chooses_42 rfl ?_
          refine zv_iconst (v := 1) G dX10_chooses_44 (by decide) ?_
          refine zv_iadd G dX10_chooses_45 ?_
          refine zv_iload (j := 3) G dX10_chooses_46 rfl ?_
          refine zv_iload (j := 4) G dX10_chooses_48 rfl ?_
          refine zv_iload (j := 5) G dX10_chooses_50 rfl ?_
          refine zv_callVi (as := [za_I 5, za_I nn, za_I (y7_18 + 1), za_I mm, za_I fd, za_I td]) G (by decide) rfl rfl (zc_X10_chooses_at5 l E nn (y7_18 + 1) mm fd td σ (zq_J hJ (zq_m hz (by decide))) (by omega) (by have h9 := z_u1 (x := y7_18) (a := 4) (b := 19) (by omega) (by decide) (by decide); omega) hm) zk_X10_chooses zm_1615 rfl ⟨(Nat.le_of_ble_eq_true rfl), (Nat.le_of_ble_eq_true rfl)⟩ ⟨Nat.zero_le _, Nat.zero_le _⟩ (Nat.le_of_ble_eq_true rfl) dX10_chooses_52 (fun r_52 σ h_52 => ?_)
          obtain ⟨h_52, hz9⟩ := h_52
          have hz : zq 12 σ0 σ := zq_tr hz hz9
          refine zv_if_eq (tgt := 60) G dX10_chooses_55 (by decide) (fun c_55 => ?_) (fun c_55 => ?_)
          · obtain ⟨x_60, e_60⟩ : ∃ y : Int32, y = y7_18 + 1 := ⟨_, rfl⟩
            refine zv_iinc (j := 6) (v := x_60) (lv' := [(7, za_I x_60), (0, za_O 19 93), (1, za_I 4), (2, za_I nn), (4, za_I mm), (5, za_I fd), (6, za_I td)]) G dX10_chooses_60 rfl (by rw [e_60]; rfl) (by decide) rfl ?_
            first | have q_60 := z_inc9 (by omega) e_60 | skip
            refine zv_goto (tgt := 18) G dX10_chooses_63 (by decide) ?_
            refine zv_sub [1, 2, 3, 4, 5, 6, 0] (lv' := [(0, za_O 19 93), (1, za_I 4), (2, za_I nn), (4, za_I mm), (5, za_I fd), (6, za_I td), (7, za_I x_60)]) rfl ?_
            exact ih_18 x_60 σ (zq_m hz (by first | decide | omega | (have hL := z_lits; omega))) (by omega) (by have := z_inc9 (by omega) e_60; omega) (by omega)
          · refine zv_iconst (v := 1) G dX10_chooses_58 (by decide) ?_
            exact zv_zret G hr dX10_chooses_59 (by decide) ⟨(Or.inr rfl), (zq_m hz (by first | decide | omega | (have hL := z_lits; omega)))⟩
    refine zv_istore (lv' := [(7, za_I f), (0, za_O 19 93), (1, za_I 4), (2, za_I nn), (3, za_I f), (4, za_I mm), (5, za_I fd), (6, za_I td)]) G dX10_chooses_16 (by decide) rfl ?_
    refine zv_sub [1, 2, 3, 5, 6, 7, 0] (lv' := [(0, za_O 19 93), (1, za_I 4), (2, za_I nn), (4, za_I mm), (5, za_I fd), (6, za_I td), (7, za_I f)]) rfl ?_
    exact J_18 _ f σ (zq_m hz (by first | decide | omega | (have hL := z_lits; omega))) (by omega) (by first | assumption | omega) (Nat.lt_succ_self _)
  · have k_2 := z_ceq c_2 (a := 4) (b := nn.toInt) rfl rfl
    refine zv_aload_n (j := 0) G dX10_chooses_5 rfl rfl ?_
    refine zv_iload_n (j := 2) G dX10_chooses_6 rfl rfl ?_
    refine zv_iload (j := 5) G dX10_chooses_7 rfl ?_
    refine zv_iload (j := 6) G dX10_chooses_9 rfl ?_
    refine zv_callVi (as := [za_I nn, za_I fd, za_I td]) G (by decide) rfl rfl (zc_X10_haveAll l E nn fd td σ hz.2.2.1 (by omega)) zk_X10_haveAll zm_1619 rfl ⟨(Nat.le_of_ble_eq_true rfl), (Nat.le_of_ble_eq_true rfl)⟩ ⟨Nat.zero_le _, Nat.zero_le _⟩ (Nat.le_of_ble_eq_true rfl) dX10_chooses_11 (fun r_11 σ h_11 => ?_)
    obtain ⟨h_11, rfl⟩ := h_11
    exact zv_zret G hr dX10_chooses_14 (z_nar h_11) ⟨h_11, (zq_m hz (by first | decide | omega | (have hL := z_lits; omega)))⟩
set_option maxHeartbeats 4000000 in
set_option maxRecDepth 100000 in
theorem zc_X10_chooses_at3 (l : Launch) (E : za_E) (nn : Int32) (f : Int32) (mm : Int32) (fd : Int32) (td : Int32) (σ0 : za_S) (hJ : zJ σ0) (hn : 3 ≤ nn.toInt) (hf : 3 ≤ f.toInt ∧ f.toInt ≤ 20) (hm : 0 ≤ mm.toInt ∧ mm.toInt ≤ 20) : zMi l E yX10_chooses cX10_chooses 8 (Option.some Jvm.ClassFile.FieldType.boolean) 20 532 [za_O 19 93, za_I 3, za_I nn, za_I f, za_I mm, za_I fd, za_I td] σ0 (fun r σ' => (r = 0 ∨ r = 1) ∧ zq 12 σ0 σ') := by
  refine zMi_of [(0, za_O 19 93), (1, za_I 3), (2, za_I nn), (3, za_I f), (4, za_I mm), (5, za_I fd), (6, za_I td)] (by decide) rfl rfl (Nat.le_of_ble_eq_true rfl) ?_
  intro ho p e s m args below meth c G hr
  refine zv_gen (R9 := zq 12 σ0) (zq_0 hJ) (fun σ hz => ?_)
  refine zv_iload_n (j := 1) G dX10_chooses_0 rfl rfl ?_
  refine zv_iload_n (j := 2) G dX10_chooses_1 rfl rfl ?_
  refine zv_icmp_ne (tgt := 15) G dX10_chooses_2 (by decide) (fun c_2 => ?_) (fun c_2 => ?_)
  · have k_2 := z_cne c_2 (a := 3) (b := nn.toInt) rfl rfl
    refine zv_iload_n (j := 3) G dX10_chooses_15 rfl rfl ?_
    have J_18 : ∀ (n : Nat) (y7_18 : Int32) (σ : za_S) (hz : zq 12 σ0 σ) (g_18 : 3 ≤ y7_18.toInt ∧ y7_18.toInt ≤ 20) (i7_18 : 0 ≤ y7_18.toInt) (hn_18 : (20 - y7_18.toInt).toNat < n), zV p l e (zRm 20 532) s m args below meth c E (za_A E) 8 0 0 (MQ below (va_Qi (fun r σ' => (r = 0 ∨ r = 1) ∧ zq 12 σ0 σ') (zB E) (za_A E)) args s 0 0 (za_A E)) 18 [(0, za_O 19 93), (1, za_I 3), (2, za_I nn), (4, za_I mm), (5, za_I fd), (6, za_I td), (7, za_I y7_18)] [] σ := by
      intro n
      induction n with
      | zero => intro y7_18 σ hz g_18 i7_18 hn; exact absurd hn (Nat.not_lt_zero _)
      | succ n ih_18 =>
        intro y7_18 σ hz g_18 i7_18 hn_18
        refine zv_iload (j := 6) G dX10_chooses_18 rfl ?_
        refine zv_iload (j := 3) G dX10_chooses_20 rfl ?_
        refine zv_iload_n (j := 2) G dX10_chooses_22 rfl rfl ?_
        refine zv_iload_n (j := 1) G dX10_chooses_23 rfl rfl ?_
        refine zv_isub G dX10_chooses_24 ?_
        refine zv_isub G dX10_chooses_25 ?_
        refine zv_icmp_gt (tgt := 66) G dX10_chooses_26 (by decide) (fun c_26 => ?_) (fun c_26 => ?_)
        · have k_26 := z_clt c_26 (a := (mm - (nn - 3)).toInt) (b := y7_18.toInt) rfl rfl
          refine zv_iconst (v := 0) G dX10_chooses_66 (by decide) ?_
          exact zv_zret G hr dX10_chooses_67 (by decide) ⟨(Or.inl rfl), (zq_m hz (by first | decide | omega | (have hL := z_lits; omega)))⟩
        · have k_26 := z_cnlt c_26 (a := (mm - (nn - 3)).toInt) (b := y7_18.toInt) rfl rfl
          have l_26 := z_lim (D := 3) rfl (by decide) hn hm c_26
          refine zv_aload_n (j := 0) G dX10_chooses_29 rfl rfl ?_
          refine zg_X10_147 G dX10_chooses_30 ?_
          refine zv_iload_n (j := 1) G dX10_chooses_33 rfl rfl ?_
          refine zv_iload (j := 6) G dX10_chooses_34 rfl ?_
          refine zv_iast G (by decide) rfl (fun _ => rfl) (z_in (by decide) (by decide)) dX10_chooses_36 ?_
          refine zv_gen (R9 := zq 12 σ0) (zq_c hz (by omega)) (fun σ hz => ?_)
          refine zv_aload_n (j := 0) G dX10_chooses_37 rfl rfl ?_
          refine zv_iload_n (j := 1) G dX10_chooses_38 rfl rfl ?_
          refine zv_iconst (v := 1) G dX10_chooses_39 (by decide) ?_
          refine zv_iadd G dX10_chooses_40 ?_
          refine zv_cst (y := 4) (by decide) ?_
          refine zv_iload_n (j := 2) G dX10_chooses_41 rfl rfl ?_
          refine zv_iload (j := 6) G dX10_chooses_42 rfl ?_
          refine zv_iconst (v := 1) G dX10_chooses_44 (by decide) ?_
          refine zv_iadd G dX10_chooses_45 ?_
          refine zv_iload (j := 3) G dX10_chooses_46 rfl ?_
          refine zv_iload (j := 4) G dX10_chooses_48 rfl ?_
          refine zv_iload (j := 5) G dX10_chooses_50 rfl ?_
          refine zv_callVi (as := [za_I 4, za_I nn, za_I (y7_18 + 1), za_I mm, za_I fd, za_I td]) G (by decide) rfl rfl (zc_X10_chooses_at4 l E nn (y7_18 + 1) mm fd td σ (zq_J hJ (zq_m hz (by decide))) (by omega) (by have h9 := z_u1 (x := y7_18) (a := 3) (b := 19) (by omega) (by decide) (by decide); omega) hm) zk_X10_chooses zm_1615 rfl ⟨(Nat.le_of_ble_eq_true rfl), (Nat.le_of_ble_eq_true rfl)⟩ ⟨Nat.zero_le _, Nat.zero_le _⟩ (Nat.le_of_ble_eq_true rfl) dX10_chooses_52 (fun r_52 σ h_52 => ?_)
          obtain ⟨h_52, hz9⟩ := h_52
          have hz : zq 12 σ0 σ := zq_tr hz hz9
          refine zv_if_eq (tgt := 60) G dX10_chooses_55 (by decide) (fun c_55 => ?_) (fun c_55 => ?_)
          · obtain ⟨x_60, e_60⟩ : ∃ y : Int32, y = y7_18 + 1 := ⟨_, rfl⟩
            refine zv_iinc (j := 6) (v := x_60) (lv' := [(7, za_I x_60), (0, za_O 19 93), (1, za_I 3), (2, za_I nn), (4, za_I mm), (5, za_I fd), (6, za_I td)]) G dX10_chooses_60 rfl (by rw [e_60]; rfl) (by decide) rfl ?_
            first | have q_60 := z_inc9 (by omega) e_60 | skip
            refine zv_goto (tgt := 18) G dX10_chooses_63 (by decide) ?_
            refine zv_sub [1, 2, 3, 4, 5, 6, 0] (lv' := [(0, za_O 19 93), (1, za_I 3), (2, za_I nn), (4, za_I mm), (5, za_I fd), (6, za_I td), (7, za_I x_60)]) rfl ?_
            exact ih_18 x_60 σ (zq_m hz (by first | decide | omega | (have hL := z_lits; omega))) (by omega) (by have := z_inc9 (by omega) e_60; omega) (by omega)
          · refine zv_iconst (v := 1) G dX10_chooses_58 (by decide) ?_
            exact zv_zret G hr dX10_chooses_59 (by decide) ⟨(Or.inr rfl), (zq_m hz (by first | decide | omega | (have hL := z_lits; omega)))⟩
    refine zv_istore (lv' := [(7, za_I f), (0, za_O 19 93), (1, za_I 3), (2, za_I nn), (3, za_I f), (4, za_I mm), (5, za_I fd), (6, za_I td)]) G dX10_chooses_16 (by decide) rfl ?_
    refine zv_sub [1, 2, 3, 5, 6, 7, 0] (lv' := [(0, za_O 19 93), (1, za_I 3), (2, za_I nn), (4, za_I mm), (5, za_I fd), (6, za_I td), (7, za_I f)]) rfl ?_
    exact J_18 _ f σ (zq_m hz (by first | decide | omega | (have hL := z_lits; omega))) (by omega) (by first | assumption | omega) (Nat.lt_succ_self _)
  · have k_2 := z_ceq c_2 (a := 3) (b := nn.toInt) rfl rfl
    refine zv_aload_n (j := 0) G dX10_chooses_5 rfl rfl ?_
    refine zv_iload_n (j := 2) G dX10_chooses_6 rfl rfl ?_
    refine zv_iload (j := 5) G dX10_chooses_7 rfl ?_
    refine zv_iload (j := 6) G dX10_chooses_9 rfl ?_
    refine zv_callVi (as := [za_I nn, za_I fd, za_I td]) G (by decide) rfl rfl (zc_X10_haveAll l E nn fd td σ hz.2.2.1 (by omega)) zk_X10_haveAll zm_1619 rfl ⟨(Nat.le_of_ble_eq_true rfl), (Nat.le_of_ble_eq_true rfl)⟩ ⟨Nat.zero_le _, Nat.zero_le _⟩ (Nat.le_of_ble_eq_true rfl) dX10_chooses_11 (fun r_11 σ h_11 => ?_)
    obtain ⟨h_11, rfl⟩ := h_11
    exact zv_zret G hr dX10_chooses_14 (z_nar h_11) ⟨h_11, (zq_m hz (by first | decide | omega | (have hL := z_lits; omega)))⟩
set_option maxHeartbeats 4000000 in
set_option maxRecDepth 100000 in
theorem zc_X10_chooses_at2 (l : Launch) (E : za_E) (nn : Int32) (f : Int32) (mm : Int32) (fd : Int32) (td : Int32) (σ0 : za_S) (hJ : zJ σ0) (hn : 2 ≤ nn.toInt) (hf : 2 ≤ f.toInt ∧ f.toInt ≤ 20) (hm : 0 ≤ mm.toInt ∧ mm.toInt ≤ 20) : zMi l E yX10_chooses cX10_chooses 8 (Option.some Jvm.ClassFile.FieldType.boolean) 21 559 [za_O 19 93, za_I 2, za_I nn, za_I f, za_I mm, za_I fd, za_I td] σ0 (fun r σ' => (r = 0 ∨ r = 1) ∧ zq 12 σ0 σ') := by
  refine zMi_of [(0, za_O 19 93), (1, za_I 2), (2, za_I nn), (3, za_I f), (4, za_I mm), (5, za_I fd), (6, za_I td)] (by decide) rfl rfl (Nat.le_of_ble_eq_true rfl) ?_
  intro ho p e s m args below meth c G hr
  refine zv_gen (R9 := zq 12 σ0) (zq_0 hJ) (fun σ hz => ?_)
  refine zv_iload_n (j := 1) G dX10_chooses_0 rfl rfl ?_
  refine zv_iload_n (j := 2) G dX10_chooses_1 rfl rfl ?_
  refine zv_icmp_ne (tgt := 15) G dX10_chooses_2 (by decide) (fun c_2 => ?_) (fun c_2 => ?_)
  · have k_2 := z_cne c_2 (a := 2) (b := nn.toInt) rfl rfl
    refine zv_iload_n (j := 3) G dX10_chooses_15 rfl rfl ?_
    have J_18 : ∀ (n : Nat) (y7_18 : Int32) (σ : za_S) (hz : zq 12 σ0 σ) (g_18 : 2 ≤ y7_18.toInt ∧ y7_18.toInt ≤ 20) (i7_18 : 0 ≤ y7_18.toInt) (hn_18 : (20 - y7_18.toInt).toNat < n), zV p l e (zRm 21 559) s m args below meth c E (za_A E) 8 0 0 (MQ below (va_Qi (fun r σ' => (r = 0 ∨ r = 1) ∧ zq 12 σ0 σ') (zB E) (za_A E)) args s 0 0 (za_A E)) 18 [(0, za_O 19 93), (1, za_I 2), (2, za_I nn), (4, za_I mm), (5, za_I fd), (6, za_I td), (7, za_I y7_18)] [] σ := by
      intro n
      induction n with
      | zero => intro y7_18 σ hz g_18 i7_18 hn; exact absurd hn (Nat.not_lt_zero _)
      | succ n ih_18 =>
        intro y7_18 σ hz g_18 i7_18 hn_18
        refine zv_iload (j := 6) G dX10_chooses_18 rfl ?_
        refine zv_iload (j := 3) G dX10_chooses_20 rfl ?_
        refine zv_iload_n (j := 2) G dX10_chooses_22 rfl rfl ?_
        refine zv_iload_n (j := 1) G dX10_chooses_23 rfl rfl ?_
        refine zv_isub G dX10_chooses_24 ?_
        refine zv_isub G dX10_chooses_25 ?_
        refine zv_icmp_gt (tgt := 66) G dX10_chooses_26 (by decide) (fun c_26 => ?_) (fun c_26 => ?_)
        · have k_26 := z_clt c_26 (a := (mm - (nn - 2)).toInt) (b := y7_18.toInt) rfl rfl
          refine zv_iconst (v := 0) G dX10_chooses_66 (by decide) ?_
          exact zv_zret G hr dX10_chooses_67 (by decide) ⟨(Or.inl rfl), (zq_m hz (by first | decide | omega | (have hL := z_lits; omega)))⟩
        · have k_26 := z_cnlt c_26 (a := (mm - (nn - 2)).toInt) (b := y7_18.toInt) rfl rfl
          have l_26 := z_lim (D := 2) rfl (by decide) hn hm c_26
          refine zv_aload_n (j := 0) G dX10_chooses_29 rfl rfl ?_
          refine zg_X10_147 G dX10_chooses_30 ?_
          refine zv_iload_n (j := 1) G dX10_chooses_33 rfl rfl ?_
          refine zv_iload (j := 6) G dX10_chooses_34 rfl ?_
          refine zv_iast G (by decide) rfl (fun _ => rfl) (z_in (by decide) (by decide)) dX10_chooses_36 ?_
          refine zv_gen (R9 := zq 12 σ0) (zq_c hz (by omega)) (fun σ hz => ?_)
          refine zv_aload_n (j := 0) G dX10_chooses_37 rfl rfl ?_
          refine zv_iload_n (j := 1) G dX10_chooses_38 rfl rfl ?_
          refine zv_iconst (v := 1) G dX10_chooses_39 (by decide) ?_
          refine zv_iadd G dX10_chooses_40 ?_
          refine zv_cst (y := 3) (by decide) ?_
          refine zv_iload_n (j := 2) G dX10_chooses_41 rfl rfl ?_
          refine zv_iload (j := 6) G dX10_chooses_42 rfl ?_
          refine zv_iconst (v := 1) G dX10_chooses_44 (by decide) ?_
          refine zv_iadd G dX10_chooses_45 ?_
          refine zv_iload (j := 3) G dX10_chooses_46 rfl ?_
          refine zv_iload (j := 4) G dX10_chooses_48 rfl ?_
          refine zv_iload (j := 5) G dX10_chooses_50 rfl ?_
          refine zv_callVi (as := [za_I 3, za_I nn, za_I (y7_18 + 1), za_I mm, za_I fd, za_I td]) G (by decide) rfl rfl (zc_X10_chooses_at3 l E nn (y7_18 + 1) mm fd td σ (zq_J hJ (zq_m hz (by decide))) (by omega) (by have h9 := z_u1 (x := y7_18) (a := 2) (b := 19) (by omega) (by decide) (by decide); omega) hm) zk_X10_chooses zm_1615 rfl ⟨(Nat.le_of_ble_eq_true rfl), (Nat.le_of_ble_eq_true rfl)⟩ ⟨Nat.zero_le _, Nat.zero_le _⟩ (Nat.le_of_ble_eq_true rfl) dX10_chooses_52 (fun r_52 σ h_52 => ?_)
          obtain ⟨h_52, hz9⟩ := h_52
          have hz : zq 12 σ0 σ := zq_tr hz hz9
          refine zv_if_eq (tgt := 60) G dX10_chooses_55 (by decide) (fun c_55 => ?_) (fun c_55 => ?_)
          · obtain ⟨x_60, e_60⟩ : ∃ y : Int32, y = y7_18 + 1 := ⟨_, rfl⟩
            refine zv_iinc (j := 6) (v := x_60) (lv' := [(7, za_I x_60), (0, za_O 19 93), (1, za_I 2), (2, za_I nn), (4, za_I mm), (5, za_I fd), (6, za_I td)]) G dX10_chooses_60 rfl (by rw [e_60]; rfl) (by decide) rfl ?_
            first | have q_60 := z_inc9 (by omega) e_60 | skip
            refine zv_goto (tgt := 18) G dX10_chooses_63 (by decide) ?_
            refine zv_sub [1, 2, 3, 4, 5, 6, 0] (lv' := [(0, za_O 19 93), (1, za_I 2), (2, za_I nn), (4, za_I mm), (5, za_I fd), (6, za_I td), (7, za_I x_60)]) rfl ?_
            exact ih_18 x_60 σ (zq_m hz (by first | decide | omega | (have hL := z_lits; omega))) (by omega) (by have := z_inc9 (by omega) e_60; omega) (by omega)
          · refine zv_iconst (v := 1) G dX10_chooses_58 (by decide) ?_
            exact zv_zret G hr dX10_chooses_59 (by decide) ⟨(Or.inr rfl), (zq_m hz (by first | decide | omega | (have hL := z_lits; omega)))⟩
    refine zv_istore (lv' := [(7, za_I f), (0, za_O 19 93), (1, za_I 2), (2, za_I nn), (3, za_I f), (4, za_I mm), (5, za_I fd), (6, za_I td)]) G dX10_chooses_16 (by decide) rfl ?_
    refine zv_sub [1, 2, 3, 5, 6, 7, 0] (lv' := [(0, za_O 19 93), (1, za_I 2), (2, za_I nn), (4, za_I mm), (5, za_I fd), (6, za_I td), (7, za_I f)]) rfl ?_
    exact J_18 _ f σ (zq_m hz (by first | decide | omega | (have hL := z_lits; omega))) (by omega) (by first | assumption | omega) (Nat.lt_succ_self _)
  · have k_2 := z_ceq c_2 (a := 2) (b := nn.toInt) rfl rfl
    refine zv_aload_n (j := 0) G dX10_chooses_5 rfl rfl ?_
    refine zv_iload_n (j := 2) G dX10_chooses_6 rfl rfl ?_
    refine zv_iload (j := 5) G dX10_chooses_7 rfl ?_
    refine zv_iload (j := 6) G dX10_chooses_9 rfl ?_
    refine zv_callVi (as := [za_I nn, za_I fd, za_I td]) G (by decide) rfl rfl (zc_X10_haveAll l E nn fd td σ hz.2.2.1 (by omega)) zk_X10_haveAll zm_1619 rfl ⟨(Nat.le_of_ble_eq_true rfl), (Nat.le_of_ble_eq_true rfl)⟩ ⟨Nat.zero_le _, Nat.zero_le _⟩ (Nat.le_of_ble_eq_true rfl) dX10_chooses_11 (fun r_11 σ h_11 => ?_)
    obtain ⟨h_11, rfl⟩ := h_11
    exact zv_zret G hr dX10_chooses_14 (z_nar h_11) ⟨h_11, (zq_m hz (by first | decide | omega | (have hL := z_lits; omega)))⟩
set_option maxHeartbeats 4000000 in
set_option maxRecDepth 100000 in
theorem zc_X10_chooses_at1 (l : Launch) (E : za_E) (nn : Int32) (f : Int32) (mm : Int32) (fd : Int32) (td : Int32) (σ0 : za_S) (hJ : zJ σ0) (hn : 1 ≤ nn.toInt) (hf : 1 ≤ f.toInt ∧ f.toInt ≤ 20) (hm : 0 ≤ mm.toInt ∧ mm.toInt ≤ 20) : zMi l E yX10_chooses cX10_chooses 8 (Option.some Jvm.ClassFile.FieldType.boolean) 22 586 [za_O 19 93, za_I 1, za_I nn, za_I f, za_I mm, za_I fd, za_I td] σ0 (fun r σ' => (r = 0 ∨ r = 1) ∧ zq 12 σ0 σ') := by
  refine zMi_of [(0, za_O 19 93), (1, za_I 1), (2, za_I nn), (3, za_I f), (4, za_I mm), (5, za_I fd), (6, za_I td)] (by decide) rfl rfl (Nat.le_of_ble_eq_true rfl) ?_
  intro ho p e s m args below meth c G hr
  refine zv_gen (R9 := zq 12 σ0) (zq_0 hJ) (fun σ hz => ?_)
  refine zv_iload_n (j := 1) G dX10_chooses_0 rfl rfl ?_
  refine zv_iload_n (j := 2) G dX10_chooses_1 rfl rfl ?_
  refine zv_icmp_ne (tgt := 15) G dX10_chooses_2 (by decide) (fun c_2 => ?_) (fun c_2 => ?_)
  · have k_2 := z_cne c_2 (a := 1) (b := nn.toInt) rfl rfl
    refine zv_iload_n (j := 3) G dX10_chooses_15 rfl rfl ?_
    have J_18 : ∀ (n : Nat) (y7_18 : Int32) (σ : za_S) (hz : zq 12 σ0 σ) (g_18 : 1 ≤ y7_18.toInt ∧ y7_18.toInt ≤ 20) (i7_18 : 0 ≤ y7_18.toInt) (hn_18 : (20 - y7_18.toInt).toNat < n), zV p l e (zRm 22 586) s m args below meth c E (za_A E) 8 0 0 (MQ below (va_Qi (fun r σ' => (r = 0 ∨ r = 1) ∧ zq 12 σ0 σ') (zB E) (za_A E)) args s 0 0 (za_A E)) 18 [(0, za_O 19 93), (1, za_I 1), (2, za_I nn), (4, za_I mm), (5, za_I fd), (6, za_I td), (7, za_I y7_18)] [] σ := by
      intro n
      induction n with
      | zero => intro y7_18 σ hz g_18 i7_18 hn; exact absurd hn (Nat.not_lt_zero _)
      | succ n ih_18 =>
        intro y7_18 σ hz g_18 i7_18 hn_18
        refine zv_iload (j := 6) G dX10_chooses_18 rfl ?_
        refine zv_iload (j := 3) G dX10_chooses_20 rfl ?_
        refine zv_iload_n (j := 2) G dX10_chooses_22 rfl rfl ?_
        refine zv_iload_n (j := 1) G dX10_chooses_23 rfl rfl ?_
        refine zv_isub G dX10_chooses_24 ?_
        refine zv_isub G dX10_chooses_25 ?_
        refine zv_icmp_gt (tgt := 66) G dX10_chooses_26 (by decide) (fun c_26 => ?_) (fun c_26 => ?_)
        · have k_26 := z_clt c_26 (a := (mm - (nn - 1)).toInt) (b := y7_18.toInt) rfl rfl
          refine zv_iconst (v := 0) G dX10_chooses_66 (by decide) ?_
          exact zv_zret G hr dX10_chooses_67 (by decide) ⟨(Or.inl rfl), (zq_m hz (by first | decide | omega | (have hL := z_lits; omega)))⟩
        · have k_26 := z_cnlt c_26 (a := (mm - (nn - 1)).toInt) (b := y7_18.toInt) rfl rfl
          have l_26 := z_lim (D := 1) rfl (by decide) hn hm c_26
          refine zv_aload_n (j := 0) G dX10_chooses_29 rfl rfl ?_
          refine zg_X10_147 G dX10_chooses_30 ?_
          refine zv_iload_n (j := 1) G dX10_chooses_33 rfl rfl ?_
          refine zv_iload (j := 6) G dX10_chooses_34 rfl ?_
          refine zv_iast G (by decide) rfl (fun _ => rfl) (z_in (by decide) (by decide)) dX10_chooses_36 ?_
          refine zv_gen (R9 := zq 12 σ0) (zq_c hz (by omega)) (fun σ hz => ?_)
          refine zv_aload_n (j := 0) G dX10_chooses_37 rfl rfl ?_
          refine zv_iload_n (j := 1) G dX10_chooses_38 rfl rfl ?_
          refine zv_iconst (v := 1) G dX10_chooses_39 (by decide) ?_
          refine zv_iadd G dX10_chooses_40 ?_
          refine zv_cst (y := 2) (by decide) ?_
          refine zv_iload_n (j := 2) G dX10_chooses_41 rfl rfl ?_
          refine zv_iload (j := 6) G dX10_chooses_42 rfl ?_
          refine zv_iconst (v := 1) G dX10_chooses_44 (by decide) ?_
          refine zv_iadd G dX10_chooses_45 ?_
          refine zv_iload (j := 3) G dX10_chooses_46 rfl ?_
          refine zv_iload (j := 4) G dX10_chooses_48 rfl ?_
          refine zv_iload (j := 5) G dX10_chooses_50 rfl ?_
          refine zv_callVi (as := [za_I 2, za_I nn, za_I (y7_18 + 1), za_I mm, za_I fd, za_I td]) G (by decide) rfl rfl (zc_X10_chooses_at2 l E nn (y7_18 + 1) mm fd td σ (zq_J hJ (zq_m hz (by decide))) (by omega) (by have h9 := z_u1 (x := y7_18) (a := 1) (b := 19) (by omega) (by decide) (by decide); omega) hm) zk_X10_chooses zm_1615 rfl ⟨(Nat.le_of_ble_eq_true rfl), (Nat.le_of_ble_eq_true rfl)⟩ ⟨Nat.zero_le _, Nat.zero_le _⟩ (Nat.le_of_ble_eq_true rfl) dX10_chooses_52 (fun r_52 σ h_52 => ?_)
          obtain ⟨h_52, hz9⟩ := h_52
          have hz : zq 12 σ0 σ := zq_tr hz hz9
          refine zv_if_eq (tgt := 60) G dX10_chooses_55 (by decide) (fun c_55 => ?_) (fun c_55 => ?_)
          · obtain ⟨x_60, e_60⟩ : ∃ y : Int32, y = y7_18 + 1 := ⟨_, rfl⟩
            refine zv_iinc (j := 6) (v := x_60) (lv' := [(7, za_I x_60), (0, za_O 19 93), (1, za_I 1), (2, za_I nn), (4, za_I mm), (5, za_I fd), (6, za_I td)]) G dX10_chooses_60 rfl (by rw [e_60]; rfl) (by decide) rfl ?_
            first | have q_60 := z_inc9 (by omega) e_60 | skip
            refine zv_goto (tgt := 18) G dX10_chooses_63 (by decide) ?_
            refine zv_sub [1, 2, 3, 4, 5, 6, 0] (lv' := [(0, za_O 19 93), (1, za_I 1), (2, za_I nn), (4, za_I mm), (5, za_I fd), (6, za_I td), (7, za_I x_60)]) rfl ?_
            exact ih_18 x_60 σ (zq_m hz (by first | decide | omega | (have hL := z_lits; omega))) (by omega) (by have := z_inc9 (by omega) e_60; omega) (by omega)
          · refine zv_iconst (v := 1) G dX10_chooses_58 (by decide) ?_
            exact zv_zret G hr dX10_chooses_59 (by decide) ⟨(Or.inr rfl), (zq_m hz (by first | decide | omega | (have hL := z_lits; omega)))⟩
    refine zv_istore (lv' := [(7, za_I f), (0, za_O 19 93), (1, za_I 1), (2, za_I nn), (3, za_I f), (4, za_I mm), (5, za_I fd), (6, za_I td)]) G dX10_chooses_16 (by decide) rfl ?_
    refine zv_sub [1, 2, 3, 5, 6, 7, 0] (lv' := [(0, za_O 19 93), (1, za_I 1), (2, za_I nn), (4, za_I mm), (5, za_I fd), (6, za_I td), (7, za_I f)]) rfl ?_
    exact J_18 _ f σ (zq_m hz (by first | decide | omega | (have hL := z_lits; omega))) (by omega) (by first | assumption | omega) (Nat.lt_succ_self _)
  · have k_2 := z_ceq c_2 (a := 1) (b := nn.toInt) rfl rfl
    refine zv_aload_n (j := 0) G dX10_chooses_5 rfl rfl ?_
    refine zv_iload_n (j := 2) G dX10_chooses_6 rfl rfl ?_
    refine zv_iload (j := 5) G dX10_chooses_7 rfl ?_
    refine zv_iload (j := 6) G dX10_chooses_9 rfl ?_
    refine zv_callVi (as := [za_I nn, za_I fd, za_I td]) G (by decide) rfl rfl (zc_X10_haveAll l E nn fd td σ hz.2.2.1 (by omega)) zk_X10_haveAll zm_1619 rfl ⟨(Nat.le_of_ble_eq_true rfl), (Nat.le_of_ble_eq_true rfl)⟩ ⟨Nat.zero_le _, Nat.zero_le _⟩ (Nat.le_of_ble_eq_true rfl) dX10_chooses_11 (fun r_11 σ h_11 => ?_)
    obtain ⟨h_11, rfl⟩ := h_11
    exact zv_zret G hr dX10_chooses_14 (z_nar h_11) ⟨h_11, (zq_m hz (by first | decide | omega | (have hL := z_lits; omega)))⟩
set_option maxHeartbeats 4000000 in
set_option maxRecDepth 100000 in
theorem zc_X10_chooses_at0 (l : Launch) (E : za_E) (nn : Int32) (f : Int32) (mm : Int32) (fd : Int32) (td : Int32) (σ0 : za_S) (hJ : zJ σ0) (hn : 0 ≤ nn.toInt) (hf : 0 ≤ f.toInt ∧ f.toInt ≤ 20) (hm : 0 ≤ mm.toInt ∧ mm.toInt ≤ 20) : zMi l E yX10_chooses cX10_chooses 8 (Option.some Jvm.ClassFile.FieldType.boolean) 23 613 [za_O 19 93, za_I 0, za_I nn, za_I f, za_I mm, za_I fd, za_I td] σ0 (fun r σ' => (r = 0 ∨ r = 1) ∧ zq 12 σ0 σ') := by
  refine zMi_of [(0, za_O 19 93), (1, za_I 0), (2, za_I nn), (3, za_I f), (4, za_I mm), (5, za_I fd), (6, za_I td)] (by decide) rfl rfl (Nat.le_of_ble_eq_true rfl) ?_
  intro ho p e s m args below meth c G hr
  refine zv_gen (R9 := zq 12 σ0) (zq_0 hJ) (fun σ hz => ?_)
  refine zv_iload_n (j := 1) G dX10_chooses_0 rfl rfl ?_
  refine zv_iload_n (j := 2) G dX10_chooses_1 rfl rfl ?_
  refine zv_icmp_ne (tgt := 15) G dX10_chooses_2 (by decide) (fun c_2 => ?_) (fun c_2 => ?_)
  · have k_2 := z_cne c_2 (a := 0) (b := nn.toInt) rfl rfl
    refine zv_iload_n (j := 3) G dX10_chooses_15 rfl rfl ?_
    have J_18 : ∀ (n : Nat) (y7_18 : Int32) (σ : za_S) (hz : zq 12 σ0 σ) (g_18 : 0 ≤ y7_18.toInt ∧ y7_18.toInt ≤ 20) (i7_18 : 0 ≤ y7_18.toInt) (hn_18 : (20 - y7_18.toInt).toNat < n), zV p l e (zRm 23 613) s m args below meth c E (za_A E) 8 0 0 (MQ below (va_Qi (fun r σ' => (r = 0 ∨ r = 1) ∧ zq 12 σ0 σ') (zB E) (za_A E)) args s 0 0 (za_A E)) 18 [(0, za_O 19 93), (1, za_I 0), (2, za_I nn), (4, za_I mm), (5, za_I fd), (6, za_I td), (7, za_I y7_18)] [] σ := by
      intro n
      induction n with
      | zero => intro y7_18 σ hz g_18 i7_18 hn; exact absurd hn (Nat.not_lt_zero _)
      | succ n ih_18 =>
        intro y7_18 σ hz g_18 i7_18 hn_18
        refine zv_iload (j := 6) G dX10_chooses_18 rfl ?_
        refine zv_iload (j := 3) G dX10_chooses_20 rfl ?_
        refine zv_iload_n (j := 2) G dX10_chooses_22 rfl rfl ?_
        refine zv_iload_n (j := 1) G dX10_chooses_23 rfl rfl ?_
        refine zv_isub G dX10_chooses_24 ?_
        refine zv_isub G dX10_chooses_25 ?_
        refine zv_icmp_gt (tgt := 66) G dX10_chooses_26 (by decide) (fun c_26 => ?_) (fun c_26 => ?_)
        · have k_26 := z_clt c_26 (a := (mm - (nn - 0)).toInt) (b := y7_18.toInt) rfl rfl
          refine zv_iconst (v := 0) G dX10_chooses_66 (by decide) ?_
          exact zv_zret G hr dX10_chooses_67 (by decide) ⟨(Or.inl rfl), (zq_m hz (by first | decide | omega | (have hL := z_lits; omega)))⟩
        · have k_26 := z_cnlt c_26 (a := (mm - (nn - 0)).toInt) (b := y7_18.toInt) rfl rfl
          have l_26 := z_lim (D := 0) rfl (by decide) hn hm c_26
          refine zv_aload_n (j := 0) G dX10_chooses_29 rfl rfl ?_
          refine zg_X10_147 G dX10_chooses_30 ?_
          refine zv_iload_n (j := 1) G dX10_chooses_33 rfl rfl ?_
          refine zv_iload (j := 6) G dX10_chooses_34 rfl ?_
          refine zv_iast G (by decide) rfl (fun _ => rfl) (z_in (by decide) (by decide)) dX10_chooses_36 ?_
          refine zv_gen (R9 := zq 12 σ0) (zq_c hz (by omega)) (fun σ hz => ?_)
          refine zv_aload_n (j := 0) G dX10_chooses_37 rfl rfl ?_
          refine zv_iload_n (j := 1) G dX10_chooses_38 rfl rfl ?_
          refine zv_iconst (v := 1) G dX10_chooses_39 (by decide) ?_
          refine zv_iadd G dX10_chooses_40 ?_
          refine zv_cst (y := 1) (by decide) ?_
          refine zv_iload_n (j := 2) G dX10_chooses_41 rfl rfl ?_
          refine zv_iload (j := 6) G dX10_chooses_42 rfl ?_
          refine zv_iconst (v := 1) G dX10_chooses_44 (by decide) ?_
          refine zv_iadd G dX10_chooses_45 ?_
          refine zv_iload (j := 3) G dX10_chooses_46 rfl ?_
          refine zv_iload (j := 4) G dX10_chooses_48 rfl ?_
          refine zv_iload (j := 5) G dX10_chooses_50 rfl ?_
          refine zv_callVi (as := [za_I 1, za_I nn, za_I (y7_18 + 1), za_I mm, za_I fd, za_I td]) G (by decide) rfl rfl (zc_X10_chooses_at1 l E nn (y7_18 + 1) mm fd td σ (zq_J hJ (zq_m hz (by decide))) (by omega) (by have h9 := z_u1 (x := y7_18) (a := 0) (b := 19) (by omega) (by decide) (by decide); omega) hm) zk_X10_chooses zm_1615 rfl ⟨(Nat.le_of_ble_eq_true rfl), (Nat.le_of_ble_eq_true rfl)⟩ ⟨Nat.zero_le _, Nat.zero_le _⟩ (Nat.le_of_ble_eq_true rfl) dX10_chooses_52 (fun r_52 σ h_52 => ?_)
          obtain ⟨h_52, hz9⟩ := h_52
          have hz : zq 12 σ0 σ := zq_tr hz hz9
          refine zv_if_eq (tgt := 60) G dX10_chooses_55 (by decide) (fun c_55 => ?_) (fun c_55 => ?_)
          · obtain ⟨x_60, e_60⟩ : ∃ y : Int32, y = y7_18 + 1 := ⟨_, rfl⟩
            refine zv_iinc (j := 6) (v := x_60) (lv' := [(7, za_I x_60), (0, za_O 19 93), (1, za_I 0), (2, za_I nn), (4, za_I mm), (5, za_I fd), (6, za_I td)]) G dX10_chooses_60 rfl (by rw [e_60]; rfl) (by decide) rfl ?_
            first | have q_60 := z_inc9 (by omega) e_60 | skip
            refine zv_goto (tgt := 18) G dX10_chooses_63 (by decide) ?_
            refine zv_sub [1, 2, 3, 4, 5, 6, 0] (lv' := [(0, za_O 19 93), (1, za_I 0), (2, za_I nn), (4, za_I mm), (5, za_I fd), (6, za_I td), (7, za_I x_60)]) rfl ?_
            exact ih_18 x_60 σ (zq_m hz (by first | decide | omega | (have hL := z_lits; omega))) (by omega) (by have := z_inc9 (by omega) e_60; omega) (by omega)
          · refine zv_iconst (v := 1) G dX10_chooses_58 (by decide) ?_
            exact zv_zret G hr dX10_chooses_59 (by decide) ⟨(Or.inr rfl), (zq_m hz (by first | decide | omega | (have hL := z_lits; omega)))⟩
    refine zv_istore (lv' := [(7, za_I f), (0, za_O 19 93), (1, za_I 0), (2, za_I nn), (3, za_I f), (4, za_I mm), (5, za_I fd), (6, za_I td)]) G dX10_chooses_16 (by decide) rfl ?_
    refine zv_sub [1, 2, 3, 5, 6, 7, 0] (lv' := [(0, za_O 19 93), (1, za_I 0), (2, za_I nn), (4, za_I mm), (5, za_I fd), (6, za_I td), (7, za_I f)]) rfl ?_
    exact J_18 _ f σ (zq_m hz (by first | decide | omega | (have hL := z_lits; omega))) (by omega) (by first | assumption | omega) (Nat.lt_succ_self _)
  · have k_2 := z_ceq c_2 (a := 0) (b := nn.toInt) rfl rfl
    refine zv_aload_n (j := 0) G dX10_chooses_5 rfl rfl ?_
    refine zv_iload_n (j := 2) G dX10_chooses_6 rfl rfl ?_
    refine zv_iload (j := 5) G dX10_chooses_7 rfl ?_
    refine zv_iload (j := 6) G dX10_chooses_9 rfl ?_
    refine zv_callVi (as := [za_I nn, za_I fd, za_I td]) G (by decide) rfl rfl (zc_X10_haveAll l E nn fd td σ hz.2.2.1 (by omega)) zk_X10_haveAll zm_1619 rfl ⟨(Nat.le_of_ble_eq_true rfl), (Nat.le_of_ble_eq_true rfl)⟩ ⟨Nat.zero_le _, Nat.zero_le _⟩ (Nat.le_of_ble_eq_true rfl) dX10_chooses_11 (fun r_11 σ h_11 => ?_)
    obtain ⟨h_11, rfl⟩ := h_11
    exact zv_zret G hr dX10_chooses_14 (z_nar h_11) ⟨h_11, (zq_m hz (by first | decide | omega | (have hL := z_lits; omega)))⟩
set_option maxHeartbeats 4000000 in
set_option maxRecDepth 100000 in
theorem zc_X10_spans (l : Launch) (E : za_E) (t : Int32) (fd : Int32) (td : Int32) (σ0 : za_S) (hJ : zJ σ0) : zMi l E yX10_spans cX10_spans 7 (Option.some Jvm.ClassFile.FieldType.int) 24 640 [za_O 19 93, za_I t, za_I fd, za_I td] σ0 (fun r σ' => zq 12 σ0 σ') := by
  refine zMi_of [(0, za_O 19 93), (1, za_I t), (2, za_I fd), (3, za_I td)] (by decide) rfl rfl (Nat.le_of_ble_eq_true rfl) ?_
  intro ho p e s m args below meth c G hr
  refine zv_gen (R9 := zq 12 σ0) (zq_0 hJ) (fun σ hz => ?_)
  refine zv_aload_n (j := 0) G dX10_spans_0 rfl rfl ?_
  refine zv_iconst (v := 0) G dX10_spans_1 (by decide) ?_
  refine zp_X10_3 G dX10_spans_2 ?_
  refine zv_gen (R9 := zq 12 σ0) (zq_93 hz (by decide)) (fun σ hz => ?_)
  refine zv_iload_n (j := 1) G dX10_spans_5 rfl rfl ?_
  refine zv_callSi (as := [za_I t]) G (zc_X10_isTable l E t σ ) zk_X10_isTable zm_1309 rfl ⟨(Nat.le_of_ble_eq_true rfl), (Nat.le_of_ble_eq_true rfl)⟩ ⟨Nat.zero_le _, Nat.zero_le _⟩ (Nat.le_of_ble_eq_true rfl) dX10_spans_6 (fun r_6 σ h_6 => ?_)
  obtain ⟨h_6, rfl⟩ := h_6
  refine zv_if_eq (tgt := 20) G dX10_spans_9 (by decide) (fun c_9 => ?_) (fun c_9 => ?_)
  · have f_6 := fun q9 => (h_6.2.mpr q9) c_9
    refine zv_iconst (v := (-1)) G dX10_spans_20 (by decide) ?_
    exact zv_iret G hr dX10_spans_21 (zq_m hz (by first | decide | omega | (have hL := z_lits; omega)))
  · have t_6 := h_6.2.mp c_9
    refine zv_iload_n (j := 2) G dX10_spans_12 rfl rfl ?_
    refine zv_iload_n (j := 3) G dX10_spans_13 rfl rfl ?_
    refine zv_callSi (as := [za_I fd, za_I td]) G (zc_X10_isPeriod l E fd td σ ) zk_X10_isPeriod zm_1375 rfl ⟨(Nat.le_of_ble_eq_true rfl), (Nat.le_of_ble_eq_true rfl)⟩ ⟨Nat.zero_le _, Nat.zero_le _⟩ (Nat.le_of_ble_eq_true rfl) dX10_spans_14 (fun r_14 σ h_14 => ?_)
    obtain ⟨h_14, rfl⟩ := h_14
    refine zv_if_ne (tgt := 22) G dX10_spans_17 (by decide) (fun c_17 => ?_) (fun c_17 => ?_)
    · have t_14 := h_14.2.mp c_17
      refine zv_iconst (v := 0) G dX10_spans_22 (by decide) ?_
      have J_25 : ∀ (n : Nat) (y4_25 : Int32) (σ : za_S) (hz : zq 12 σ0 σ) (l_25 : y4_25.toInt ≤ 20) (i4_25 : 0 ≤ y4_25.toInt) (hn_25 : (20 - y4_25.toInt).toNat < n), zV p l e (zRm 24 640) s m args below meth c E (za_A E) 7 0 0 (MQ below (va_Qi (fun r σ' => zq 12 σ0 σ') (zB E) (za_A E)) args s 0 0 (za_A E)) 25 [(0, za_O 19 93), (1, za_I t), (2, za_I fd), (3, za_I td), (4, za_I y4_25)] [] σ := by
        intro n
        induction n with
        | zero => intro y4_25 σ hz l_25 i4_25 hn; exact absurd hn (Nat.not_lt_zero _)
        | succ n ih_25 =>
          intro y4_25 σ hz l_25 i4_25 hn_25
          refine zv_aload_n (j := 0) G dX10_spans_25 rfl rfl ?_
          refine zv_aload_n (j := 0) G dX10_spans_26 rfl rfl ?_
          refine zg_X10_118 G dX10_spans_27 ?_
          refine zv_iload_n (j := 1) G dX10_spans_30 rfl rfl ?_
          refine zv_iload (j := 4) G dX10_spans_31 rfl ?_
          refine zv_callVi (as := [za_O 22 99, za_I t, za_I y4_25]) G (by decide) rfl rfl (zc_X10_seeks l E 99 t y4_25 σ (by first | assumption | decide | omega | exact hz.2.1.1 | exact hz.2.1.2) (by first | assumption | decide | omega | exact hz.2.1.1 | exact hz.2.1.2)) zk_X10_seeks zm_1313 rfl ⟨(Nat.le_of_ble_eq_true rfl), (Nat.le_of_ble_eq_true rfl)⟩ ⟨Nat.zero_le _, Nat.zero_le _⟩ (Nat.le_of_ble_eq_true rfl) dX10_spans_33 (fun r_33 σ h_33 => ?_)
          obtain ⟨h_33, s_33⟩ := h_33
          have n_33 := zq_n hz s_33
          have hz : zq 12 σ0 σ := zq_s hz s_33
          refine zv_if_eq (tgt := 79) G dX10_spans_36 (by decide) (fun c_36 => ?_) (fun c_36 => ?_)
          · refine zv_aload_n (j := 0) G dX10_spans_79 rfl rfl ?_
            refine zv_iload (j := 4) G dX10_spans_80 rfl ?_
            refine zv_iload_n (j := 2) G dX10_spans_82 rfl rfl ?_
            refine zv_iload_n (j := 3) G dX10_spans_83 rfl rfl ?_
            refine zv_callVi (as := [za_I y4_25, za_I fd, za_I td]) G (by decide) rfl rfl (zc_X10_fewest l E y4_25 fd td σ (by omega)) zk_X10_fewest zm_1611 rfl ⟨(Nat.le_of_ble_eq_true rfl), (Nat.le_of_ble_eq_true rfl)⟩ ⟨Nat.zero_le _, Nat.zero_le _⟩ (Nat.le_of_ble_eq_true rfl) dX10_spans_84 (fun r_84 σ h_84 => ?_)
            subst h_84
            refine zv_istore (lv' := [(5, za_I r_84), (0, za_O 19 93), (1, za_I t), (2, za_I fd), (3, za_I td), (4, za_I y4_25)]) G dX10_spans_87 (by decide) rfl ?_
            refine zv_iload (j := 0) G dX10_spans_89 rfl ?_
            refine zv_if_ge (tgt := 97) G dX10_spans_91 (by decide) (fun c_91 => ?_) (fun c_91 => ?_)
            · have k_91 := z_cle c_91 (a := 0) (b := r_84.toInt) rfl rfl
              refine zv_aload_n (j := 1) G dX10_spans_97 rfl rfl ?_
              refine zv_iconst (v := 0) G dX10_spans_98 (by decide) ?_
              refine zv_iload (j := 0) G dX10_spans_99 rfl ?_
              refine zv_iconst (v := 0) G dX10_spans_101 (by decide) ?_
              refine zv_iload (j := 5) G dX10_spans_102 rfl ?_
              refine zv_iload_n (j := 3) G dX10_spans_104 rfl rfl ?_
              refine zv_iload_n (j := 4) G dX10_spans_105 rfl rfl ?_
              refine zv_callVi (as := [za_I 0, za_I r_84, za_I 0, za_I y4_25, za_I fd, za_I td]) G (by decide) rfl rfl (zc_X10_chooses_at0 l E r_84 (0 : Int32) y4_25 fd td σ (zq_J hJ (zq_m hz (by first | decide | omega))) (by have hL := z_lits; omega) (by have hL := z_lits; omega) (by omega)) zk_X10_chooses zm_1615 rfl ⟨(Nat.le_of_ble_eq_true rfl), (Nat.le_of_ble_eq_true rfl)⟩ ⟨Nat.zero_le _, Nat.zero_le _⟩ (Nat.le_of_ble_eq_true rfl) dX10_spans_106 (fun r_106 σ h_106 => ?_)
              obtain ⟨h_106, hz9⟩ := h_106
              have hz : zq 12 σ0 σ := zq_tr hz hz9
              refine zv_popI G dX10_spans_109 ?_
              refine zv_aload_n (j := 1) G dX10_spans_110 rfl rfl ?_
              refine zv_iconst (v := 0) G dX10_spans_111 (by decide) ?_
              refine zp_X10_15 G dX10_spans_112 ?_
              refine zv_gen (R9 := zq 0 σ0) (zq_t0 hz) (fun σ hz => ?_)
              refine zv_iconst (v := 0) G dX10_spans_115 (by decide) ?_
              have J_118 : ∀ (n : Nat) (y6_118 : Int32) (σ : za_S) (hz : zq y6_118.toInt σ0 σ) (g_118 : y6_118.toInt ≤ 12) (i6_118 : 0 ≤ y6_118.toInt) (hn_118 : (2147483648 - y6_118.toInt).toNat < n), zV p l e (zRm 24 640) s m args below meth c E (za_A E) 7 0 0 (MQ below (va_Qi (fun r σ' => zq 12 σ0 σ') (zB E) (za_A E)) args s 0 0 (za_A E)) 118 [(0, za_O 19 93), (5, za_I r_84), (6, za_I y6_118)] [] σ := by
                intro n
                induction n with
                | zero => intro y6_118 σ hz g_118 i6_118 hn; exact absurd hn (Nat.not_lt_zero _)
                | succ n ih_118 =>
                  intro y6_118 σ hz g_118 i6_118 hn_118
                  refine zv_iload (j := 2) G dX10_spans_118 rfl ?_
                  refine zv_iload (j := 1) G dX10_spans_120 rfl ?_
                  refine zv_icmp_ge (tgt := 150) G dX10_spans_122 (by decide) (fun c_122 => ?_) (fun c_122 => ?_)
                  · have k_122 := z_cle c_122 (a := r_84.toInt) (b := y6_118.toInt) rfl rfl
                    refine zv_iload (j := 1) G dX10_spans_150 rfl ?_
                    exact zv_iret G hr dX10_spans_152 (zq_m hz (by first | decide | omega | (have hL := z_lits; omega)))
                  · have k_122 := z_cnle c_122 (a := r_84.toInt) (b := y6_118.toInt) rfl rfl
                    refine zv_iload (j := 2) G dX10_spans_125 rfl ?_
                    refine zv_bipush (v := 12) G dX10_spans_127 (by decide) ?_
                    refine zv_icmp_ge (tgt := 150) G dX10_spans_129 (by decide) (fun c_129 => ?_) (fun c_129 => ?_)
                    · have k_129 := z_cle c_129 (a := 12) (b := y6_118.toInt) rfl rfl
                      refine zv_iload (j := 1) G dX10_spans_150 rfl ?_
                      exact zv_iret G hr dX10_spans_152 (zq_m hz (by first | decide | omega | (have hL := z_lits; omega)))
                    · have b_129 : 0 ≤ y6_118.toInt ∧ y6_118.toInt < 12 := ⟨i6_118, z_ltk c_129 rfl⟩
                      have k_129 := z_cnle c_129 (a := 12) (b := y6_118.toInt) rfl rfl
                      refine zv_aload_n (j := 0) G dX10_spans_132 rfl rfl ?_
                      refine zv_aload_n (j := 0) G dX10_spans_133 rfl rfl ?_
                      refine zg_X10_147 G dX10_spans_134 ?_
                      refine zv_iload (j := 2) G dX10_spans_137 rfl ?_
                      refine zv_iald G (by decide) rfl (z_in (by omega) (by omega)) dX10_spans_139 ?_
                      refine zv_i2l G dX10_spans_140 ?_
                      refine zv_callVv (as := [za_L ((σ.1 188 y6_118.toNatClampNeg).toInt64)]) G (by decide) rfl rfl (zc_X10_enters l E ((σ.1 188 y6_118.toNatClampNeg).toInt64) σ (zq_p hz (by first | decide | omega))) zk_X10_enters zm_1418 rfl ⟨(Nat.le_of_ble_eq_true rfl), (Nat.le_of_ble_eq_true rfl)⟩ ⟨Nat.zero_le _, Nat.zero_le _⟩ (Nat.le_of_ble_eq_true rfl) dX10_spans_141 (fun σ h_141 => ?_)
                      have hz : zq (y6_118.toInt + 1) σ0 σ := zq_e hz h_141
                      obtain ⟨x_144, e_144⟩ : ∃ y : Int32, y = y6_118 + 1 := ⟨_, rfl⟩
                      refine zv_iinc (j := 2) (v := x_144) (lv' := [(6, za_I x_144), (0, za_O 19 93), (5, za_I r_84)]) G dX10_spans_144 rfl (by rw [e_144]; rfl) (by decide) rfl ?_
                      first | have q_144 := z_inc9 (by omega) e_144 | skip
                      refine zv_goto (tgt := 118) G dX10_spans_147 (by decide) ?_
                      refine zv_sub [1, 2, 0] (lv' := [(0, za_O 19 93), (5, za_I r_84), (6, za_I x_144)]) rfl ?_
                      exact ih_118 x_144 σ (zq_m hz (by first | decide | omega | (have hL := z_lits; omega))) (by have hL := z_lits; omega) (by have := z_inc c_122 e_144; omega) (z_meas c_122 e_144 hn_118)
              refine zv_istore (lv' := [(6, za_I 0), (5, za_I r_84), (0, za_O 19 93), (1, za_I t), (2, za_I fd), (3, za_I td), (4, za_I y4_25)]) G dX10_spans_116 (by decide) rfl ?_
              refine zv_sub [2, 1, 0] (lv' := [(0, za_O 19 93), (5, za_I r_84), (6, za_I 0)]) rfl ?_
              exact J_118 _ (0 : Int32) σ (zq_m hz (by first | decide | omega | (have hL := z_lits; omega))) (by have hL := z_lits; omega) (by decide) (Nat.lt_succ_self _)
            · have k_91 := z_cnle c_91 (a := 0) (b := r_84.toInt) rfl rfl
              refine zv_bipush (v := (-2)) G dX10_spans_94 (by decide) ?_
              exact zv_iret G hr dX10_spans_96 (zq_m hz (by first | decide | omega | (have hL := z_lits; omega)))
          · have h8 := zsn_20 hJ t_6 n_33 c_36
            refine zv_aload_n (j := 0) G dX10_spans_39 rfl rfl ?_
            refine zg_X10_141 G dX10_spans_40 ?_
            refine zv_iload (j := 4) G dX10_spans_43 rfl ?_
            refine zv_aload_n (j := 0) G dX10_spans_45 rfl rfl ?_
            refine zg_X10_194 G dX10_spans_46 ?_
            refine zv_iast G (by decide) rfl (fun _ => rfl) (z_in (by omega) (by omega)) dX10_spans_49 ?_
            refine zv_gen (R9 := zq 12 σ0) (zq_w hz (by first | decide | omega)) (fun σ hz => ?_)
            refine zv_aload_n (j := 0) G dX10_spans_50 rfl rfl ?_
            refine zg_X10_144 G dX10_spans_51 ?_
            refine zv_iload (j := 4) G dX10_spans_54 rfl ?_
            refine zv_aload_n (j := 0) G dX10_spans_56 rfl rfl ?_
            refine zg_X10_118 G dX10_spans_57 ?_
            refine zv_iload_n (j := 1) G dX10_spans_60 rfl rfl ?_
            refine zv_aload_n (j := 0) G dX10_spans_61 rfl rfl ?_
            refine zg_X10_191 G dX10_spans_62 ?_
            refine zv_aload_n (j := 0) G dX10_spans_65 rfl rfl ?_
            refine zg_X10_194 G dX10_spans_66 ?_
            refine zv_callSi (as := [za_O 22 99, za_I t, za_I (σ.1 93 15), za_I (σ.1 93 16)]) G (zc_X10_toOf l E 99 t (σ.1 93 15) (σ.1 93 16) σ (by first | assumption | decide | omega | exact hz.2.1.1 | exact hz.2.1.2) (by first | assumption | decide | omega | exact hz.2.1.1 | exact hz.2.1.2) (by first | assumption | decide | omega | exact hz.2.1.1 | exact hz.2.1.2)) zk_X10_toOf zm_1337 rfl ⟨(Nat.le_of_ble_eq_true rfl), (Nat.le_of_ble_eq_true rfl)⟩ ⟨Nat.zero_le _, Nat.zero_le _⟩ (Nat.le_of_ble_eq_true rfl) dX10_spans_69 (fun r_69 σ h_69 => ?_)
            obtain ⟨h_69, rfl⟩ := h_69
            refine zv_iast G (by decide) rfl (fun _ => rfl) (z_in (by omega) (by omega)) dX10_spans_72 ?_
            refine zv_gen (R9 := zq 12 σ0) (zq_w hz (by first | decide | omega)) (fun σ hz => ?_)
            obtain ⟨x_73, e_73⟩ : ∃ y : Int32, y = y4_25 + 1 := ⟨_, rfl⟩
            refine zv_iinc (j := 4) (v := x_73) (lv' := [(4, za_I x_73), (0, za_O 19 93), (1, za_I t), (2, za_I fd), (3, za_I td)]) G dX10_spans_73 rfl (by rw [e_73]; rfl) (by decide) rfl ?_
            first | have q_73 := z_inc9 (by omega) e_73 | skip
            refine zv_goto (tgt := 25) G dX10_spans_76 (by decide) ?_
            refine zv_sub [1, 2, 3, 4, 0] (lv' := [(0, za_O 19 93), (1, za_I t), (2, za_I fd), (3, za_I td), (4, za_I x_73)]) rfl ?_
            exact ih_25 x_73 σ (zq_m hz (by first | decide | omega | (have hL := z_lits; omega))) (by first | decide | omega) (by have := z_inc9 (by omega) e_73; omega) (by omega)
      refine zv_istore (lv' := [(4, za_I 0), (0, za_O 19 93), (1, za_I t), (2, za_I fd), (3, za_I td)]) G dX10_spans_23 (by decide) rfl ?_
      refine zv_sub [1, 2, 3, 4, 0] (lv' := [(0, za_O 19 93), (1, za_I t), (2, za_I fd), (3, za_I td), (4, za_I 0)]) rfl ?_
      exact J_25 _ (0 : Int32) σ (zq_m hz (by first | decide | omega | (have hL := z_lits; omega))) (by first | decide | omega) (by decide) (Nat.lt_succ_self _)
    · have f_14 := fun q9 => (h_14.2.mpr q9) c_17
      refine zv_iconst (v := (-1)) G dX10_spans_20 (by decide) ?_
      exact zv_iret G hr dX10_spans_21 (zq_m hz (by first | decide | omega | (have hL := z_lits; omega)))
set_option maxHeartbeats 4000000 in
set_option maxRecDepth 100000 in
theorem zc_X10_copies (l : Launch) (E : za_E)  (σ0 : za_S)  : zMv l E yX10_copies cX10_copies 1 (Option.none : Option Jvm.ClassFile.FieldType) 2 43 [za_O 19 93] σ0 (fun σ' => σ' = zcp σ0 99 100 2001) := by
  refine zMv_of [(0, za_O 19 93)] (by decide) rfl rfl (Nat.le_of_ble_eq_true rfl) ?_
  intro ho p e s m args below meth c G hr
  refine zv_aload_n (j := 0) G dX10_copies_0 rfl rfl ?_
  refine zg_X10_118 G dX10_copies_1 ?_
  refine zv_aload_n (j := 0) G dX10_copies_4 rfl rfl ?_
  refine zg_X10_121 G dX10_copies_5 ?_
  refine zv_callSv (as := [za_O 22 99, za_O 22 100]) G (zc_X10_copiesTo l E 99 100 σ0 ) zk_X10_copiesTo zm_1381 rfl ⟨(Nat.le_of_ble_eq_true rfl), (Nat.le_of_ble_eq_true rfl)⟩ ⟨Nat.zero_le _, Nat.zero_le _⟩ (Nat.le_of_ble_eq_true rfl) dX10_copies_8 (fun σ h_8 => ?_)
  exact zv_vret G hr dX10_copies_11 h_8
set_option maxHeartbeats 4000000 in
set_option maxRecDepth 100000 in
theorem zc_X10_rows (l : Launch) (E : za_E) (t : Int32) (σ0 : za_S) (hJ : zJ σ0) : zMi l E yX10_rows cX10_rows 3 (Option.some Jvm.ClassFile.FieldType.int) 6 137 [za_O 19 93, za_I t] σ0 (fun r σ' => zq 12 σ0 σ') := by
  refine zMi_of [(0, za_O 19 93), (1, za_I t)] (by decide) rfl rfl (Nat.le_of_ble_eq_true rfl) ?_
  intro ho p e s m args below meth c G hr
  refine zv_gen (R9 := zq 12 σ0) (zq_0 hJ) (fun σ hz => ?_)
  refine zv_aload_n (j := 0) G dX10_rows_0 rfl rfl ?_
  refine zv_iconst (v := 0) G dX10_rows_1 (by decide) ?_
  refine zp_X10_3 G dX10_rows_2 ?_
  refine zv_gen (R9 := zq 12 σ0) (zq_93 hz (by decide)) (fun σ hz => ?_)
  refine zv_iload_n (j := 1) G dX10_rows_5 rfl rfl ?_
  refine zv_callSi (as := [za_I t]) G (zc_X10_isTable l E t σ ) zk_X10_isTable zm_1309 rfl ⟨(Nat.le_of_ble_eq_true rfl), (Nat.le_of_ble_eq_true rfl)⟩ ⟨Nat.zero_le _, Nat.zero_le _⟩ (Nat.le_of_ble_eq_true rfl) dX10_rows_6 (fun r_6 σ h_6 => ?_)
  obtain ⟨h_6, rfl⟩ := h_6
  refine zv_if_ne (tgt := 14) G dX10_rows_9 (by decide) (fun c_9 => ?_) (fun c_9 => ?_)
  · have t_6 := h_6.2.mp c_9
    refine zv_aload_n (j := 0) G dX10_rows_14 rfl rfl ?_
    refine zv_callVv (as := []) G (by decide) rfl rfl (zc_X10_copies l E  σ ) zk_X10_copies zm_1556 rfl ⟨(Nat.le_of_ble_eq_true rfl), (Nat.le_of_ble_eq_true rfl)⟩ ⟨Nat.zero_le _, Nat.zero_le _⟩ (Nat.le_of_ble_eq_true rfl) dX10_rows_15 (fun σ h_15 => ?_)
    have hz := zqy_c hJ hz h_15
    refine zv_aload_n (j := 0) G dX10_rows_18 rfl rfl ?_
    refine zg_X10_118 G dX10_rows_19 ?_
    refine zv_iload_n (j := 1) G dX10_rows_22 rfl rfl ?_
    refine zv_callSi (as := [za_O 22 99, za_I t]) G (zc_X10_rowsOf l E 99 t σ (by first | assumption | decide | omega | exact hz.2.1.1 | exact hz.2.1.2)) zk_X10_rowsOf zm_1348 rfl ⟨(Nat.le_of_ble_eq_true rfl), (Nat.le_of_ble_eq_true rfl)⟩ ⟨Nat.zero_le _, Nat.zero_le _⟩ (Nat.le_of_ble_eq_true rfl) dX10_rows_23 (fun r_23 σ h_23 => ?_)
    obtain ⟨h_23, rfl⟩ := h_23
    refine zv_istore_n (lv' := [(2, za_I r_23), (0, za_O 19 93), (1, za_I t)]) G dX10_rows_26 rfl (by decide) rfl ?_
    refine zv_aload_n (j := 1) G dX10_rows_27 rfl rfl ?_
    refine zv_iconst (v := 0) G dX10_rows_28 (by decide) ?_
    refine zp_X10_15 G dX10_rows_29 ?_
    refine zv_gen (R9 := zqy 0 σ0) (zqy_t0 hz) (fun σ hz => ?_)
    refine zv_aload_n (j := 1) G dX10_rows_32 rfl rfl ?_
    refine zv_iload_n (j := 0) G dX10_rows_33 rfl rfl ?_
    refine zv_aload_n (j := 1) G dX10_rows_34 rfl rfl ?_
    refine zg_X10_121 G dX10_rows_35 ?_
    refine zv_iload_n (j := 2) G dX10_rows_38 rfl rfl ?_
    refine zv_callSi (as := [za_O 22 100, za_I t]) G (zc_X10_joinsAll l E 100 t σ t_6 hz.2.1) zk_X10_joinsAll zm_1463 rfl ⟨(Nat.le_of_ble_eq_true rfl), (Nat.le_of_ble_eq_true rfl)⟩ ⟨Nat.zero_le _, Nat.zero_le _⟩ (Nat.le_of_ble_eq_true rfl) dX10_rows_39 (fun r_39 σ h_39 => ?_)
    have hz : zq 0 σ0 σ := (zqy_jr hz h_39).1
    refine zv_isub G dX10_rows_42 ?_
    refine zv_i2l G dX10_rows_43 ?_
    refine zv_callVv (as := [za_L ((r_23 - r_39).toInt64)]) G (by decide) rfl rfl (zc_X10_enters l E ((r_23 - r_39).toInt64) σ (zq_p hz (by first | decide | omega))) zk_X10_enters zm_1418 rfl ⟨(Nat.le_of_ble_eq_true rfl), (Nat.le_of_ble_eq_true rfl)⟩ ⟨Nat.zero_le _, Nat.zero_le _⟩ (Nat.le_of_ble_eq_true rfl) dX10_rows_44 (fun σ h_44 => ?_)
    have hz : zq 1 σ0 σ := zq_e hz h_44
    refine zv_aload_n (j := 1) G dX10_rows_47 rfl rfl ?_
    refine zv_aload_n (j := 1) G dX10_rows_48 rfl rfl ?_
    refine zg_X10_118 G dX10_rows_49 ?_
    refine zv_iload_n (j := 2) G dX10_rows_52 rfl rfl ?_
    refine zv_callSi (as := [za_O 22 99, za_I t]) G (zc_X10_daysOf l E 99 t σ (by first | assumption | decide | omega | exact hz.2.1.1 | exact hz.2.1.2)) zk_X10_daysOf zm_1560 rfl ⟨(Nat.le_of_ble_eq_true rfl), (Nat.le_of_ble_eq_true rfl)⟩ ⟨Nat.zero_le _, Nat.zero_le _⟩ (Nat.le_of_ble_eq_true rfl) dX10_rows_53 (fun r_53 σ h_53 => ?_)
    subst h_53
    refine zv_i2l G dX10_rows_56 ?_
    refine zv_callVv (as := [za_L r_53.toInt64]) G (by decide) rfl rfl (zc_X10_enters l E r_53.toInt64 σ (zq_p hz (by first | decide | omega))) zk_X10_enters zm_1418 rfl ⟨(Nat.le_of_ble_eq_true rfl), (Nat.le_of_ble_eq_true rfl)⟩ ⟨Nat.zero_le _, Nat.zero_le _⟩ (Nat.le_of_ble_eq_true rfl) dX10_rows_57 (fun σ h_57 => ?_)
    have hz : zq 2 σ0 σ := zq_e hz h_57
    refine zv_iload_n (j := 0) G dX10_rows_60 rfl rfl ?_
    exact zv_iret G hr dX10_rows_61 (zq_m hz (by first | decide | omega | (have hL := z_lits; omega)))
  · have f_6 := fun q9 => (h_6.2.mpr q9) c_9
    refine zv_iconst (v := (-1)) G dX10_rows_12 (by decide) ?_
    exact zv_iret G hr dX10_rows_13 (zq_m hz (by first | decide | omega | (have hL := z_lits; omega)))
set_option maxHeartbeats 4000000 in
set_option maxRecDepth 100000 in
theorem zc_X10_drags (l : Launch) (E : za_E) (k : Int32) (fd : Int32) (td : Int32) (σ0 : za_S) (hJ : zJ σ0) : zMi l E yX10_drags cX10_drags 9 (Option.some Jvm.ClassFile.FieldType.int) 6 138 [za_O 19 93, za_I k, za_I fd, za_I td] σ0 (fun r σ' => zq 12 σ0 σ') := by
  refine zMi_of [(0, za_O 19 93), (1, za_I k), (2, za_I fd), (3, za_I td)] (by decide) rfl rfl (Nat.le_of_ble_eq_true rfl) ?_
  intro ho p e s m args below meth c G hr
  refine zv_gen (R9 := zq 12 σ0) (zq_0 hJ) (fun σ hz => ?_)
  refine zv_aload_n (j := 0) G dX10_drags_0 rfl rfl ?_
  refine zv_iconst (v := 0) G dX10_drags_1 (by decide) ?_
  refine zp_X10_3 G dX10_drags_2 ?_
  refine zv_gen (R9 := zq 12 σ0) (zq_93 hz (by decide)) (fun σ hz => ?_)
  refine zv_iload_n (j := 1) G dX10_drags_5 rfl rfl ?_
  refine zv_callSi (as := [za_I k]) G (zc_X10_isKey l E k σ ) zk_X10_isKey zm_1371 rfl ⟨(Nat.le_of_ble_eq_true rfl), (Nat.le_of_ble_eq_true rfl)⟩ ⟨Nat.zero_le _, Nat.zero_le _⟩ (Nat.le_of_ble_eq_true rfl) dX10_drags_6 (fun r_6 σ h_6 => ?_)
  obtain ⟨h_6, rfl⟩ := h_6
  refine zv_if_eq (tgt := 20) G dX10_drags_9 (by decide) (fun c_9 => ?_) (fun c_9 => ?_)
  · have f_6 := fun q9 => (h_6.2.mpr q9) c_9
    refine zv_iconst (v := (-1)) G dX10_drags_20 (by decide) ?_
    exact zv_iret G hr dX10_drags_21 (zq_m hz (by first | decide | omega | (have hL := z_lits; omega)))
  · have t_6 := h_6.2.mp c_9
    refine zv_iload_n (j := 2) G dX10_drags_12 rfl rfl ?_
    refine zv_iload_n (j := 3) G dX10_drags_13 rfl rfl ?_
    refine zv_callSi (as := [za_I fd, za_I td]) G (zc_X10_isPeriod l E fd td σ ) zk_X10_isPeriod zm_1375 rfl ⟨(Nat.le_of_ble_eq_true rfl), (Nat.le_of_ble_eq_true rfl)⟩ ⟨Nat.zero_le _, Nat.zero_le _⟩ (Nat.le_of_ble_eq_true rfl) dX10_drags_14 (fun r_14 σ h_14 => ?_)
    obtain ⟨h_14, rfl⟩ := h_14
    refine zv_if_ne (tgt := 22) G dX10_drags_17 (by decide) (fun c_17 => ?_) (fun c_17 => ?_)
    · have t_14 := h_14.2.mp c_17
      refine zv_aload_n (j := 0) G dX10_drags_22 rfl rfl ?_
      refine zg_X10_118 G dX10_drags_23 ?_
      refine zv_iconst (v := 1) G dX10_drags_26 (by decide) ?_
      refine zv_iload_n (j := 1) G dX10_drags_27 rfl rfl ?_
      refine zv_iload_n (j := 2) G dX10_drags_28 rfl rfl ?_
      refine zv_iload_n (j := 3) G dX10_drags_29 rfl rfl ?_
      refine zv_callSi (as := [za_O 22 99, za_I 1, za_I k, za_I fd, za_I td]) G (zc_X10_rowsIn l E 99 (1 : Int32) k fd td σ (by first | assumption | decide | omega | exact hz.2.1.1 | exact hz.2.1.2) (by first | assumption | decide | omega | exact hz.2.1.1 | exact hz.2.1.2)) zk_X10_rowsIn zm_1378 rfl ⟨(Nat.le_of_ble_eq_true rfl), (Nat.le_of_ble_eq_true rfl)⟩ ⟨Nat.zero_le _, Nat.zero_le _⟩ (Nat.le_of_ble_eq_true rfl) dX10_drags_30 (fun r_30 σ h_30 => ?_)
      subst h_30
      refine zv_if_ne (tgt := 39) G dX10_drags_33 (by decide) (fun c_33 => ?_) (fun c_33 => ?_)
      · refine zv_aload_n (j := 0) G dX10_drags_39 rfl rfl ?_
        refine zv_callVv (as := []) G (by decide) rfl rfl (zc_X10_copies l E  σ ) zk_X10_copies zm_1556 rfl ⟨(Nat.le_of_ble_eq_true rfl), (Nat.le_of_ble_eq_true rfl)⟩ ⟨Nat.zero_le _, Nat.zero_le _⟩ (Nat.le_of_ble_eq_true rfl) dX10_drags_40 (fun σ h_40 => ?_)
        have hz := zqy_c hJ hz h_40
        refine zv_aload_n (j := 0) G dX10_drags_43 rfl rfl ?_
        refine zg_X10_121 G dX10_drags_44 ?_
        refine zv_sipush (v := 2000) G dX10_drags_47 (by decide) ?_
        refine zv_iconst (v := 1) G dX10_drags_50 (by decide) ?_
        refine zv_iast G (by decide) rfl (fun _ => rfl) (z_in (by decide) (by decide)) dX10_drags_51 ?_
        refine zv_gen (R9 := zqg 12 σ0) (zqg_w hz) (fun σ hz => ?_)
        refine zv_aload_n (j := 0) G dX10_drags_52 rfl rfl ?_
        refine zv_aload_n (j := 0) G dX10_drags_53 rfl rfl ?_
        refine zg_X10_121 G dX10_drags_54 ?_
        refine zv_iconst (v := 1) G dX10_drags_57 (by decide) ?_
        refine zv_iload_n (j := 1) G dX10_drags_58 rfl rfl ?_
        refine zv_iload_n (j := 2) G dX10_drags_59 rfl rfl ?_
        refine zv_iload_n (j := 3) G dX10_drags_60 rfl rfl ?_
        refine zv_callVv (as := [za_O 22 100, za_I 1, za_I k, za_I fd, za_I td]) G (by decide) rfl rfl (zc_X10_takesOut l E 100 (1 : Int32) k fd td σ (by decide) (by decide) t_6 hz.2.1 hz.2.2 t_14) zk_X10_takesOut zm_1442 rfl ⟨(Nat.le_of_ble_eq_true rfl), (Nat.le_of_ble_eq_true rfl)⟩ ⟨Nat.zero_le _, Nat.zero_le _⟩ (Nat.le_of_ble_eq_true rfl) dX10_drags_61 (fun σ h_61 => ?_)
        have hz := zqg_x hz h_61
        refine zv_aload_n (j := 0) G dX10_drags_64 rfl rfl ?_
        refine zv_aload_n (j := 0) G dX10_drags_65 rfl rfl ?_
        refine zg_X10_121 G dX10_drags_66 ?_
        refine zv_callVv (as := [za_O 22 100]) G (by decide) rfl rfl (zc_X10_follows l E 100 σ (by decide) hz.2.1 hz.2.2) zk_X10_follows zm_1446 rfl ⟨(Nat.le_of_ble_eq_true rfl), (Nat.le_of_ble_eq_true rfl)⟩ ⟨Nat.zero_le _, Nat.zero_le _⟩ (Nat.le_of_ble_eq_true rfl) dX10_drags_69 (fun σ h_69 => ?_)
        have hz : zq 12 σ0 σ := (zqg_x hz h_69).1
        refine zv_iconst (v := 0) G dX10_drags_72 (by decide) ?_
        refine zv_istore (lv' := [(4, za_I 0), (0, za_O 19 93), (1, za_I k), (2, za_I fd), (3, za_I td)]) G dX10_drags_73 (by decide) rfl ?_
        refine zv_iconst (v := 0) G dX10_drags_75 (by decide) ?_
        have J_78 : ∀ (n : Nat) (y4_78 : Int32) (y5_78 : Int32) (σ : za_S) (hz : zq 12 σ0 σ) (i5_78 : 0 ≤ y5_78.toInt) (u5_78 : y5_78.toInt ≤ 10) (hn_78 : (2147483648 - y5_78.toInt).toNat < n), zV p l e (zRm 6 138) s m args below meth c E (za_A E) 9 0 0 (MQ below (va_Qi (fun r σ' => zq 12 σ0 σ') (zB E) (za_A E)) args s 0 0 (za_A E)) 78 [(0, za_O 19 93), (4, za_I y4_78), (5, za_I y5_78)] [] σ := by
          intro n
          induction n with
          | zero => intro y4_78 y5_78 σ hz i5_78 u5_78 hn; exact absurd hn (Nat.not_lt_zero _)
          | succ n ih_78 =>
            intro y4_78 y5_78 σ hz i5_78 u5_78 hn_78
            refine zv_iload (j := 2) G dX10_drags_78 rfl ?_
            refine zv_bipush (v := 10) G dX10_drags_80 (by decide) ?_
            refine zv_icmp_ge (tgt := 189) G dX10_drags_82 (by decide) (fun c_82 => ?_) (fun c_82 => ?_)
            · have k_82 := z_cle c_82 (a := 10) (b := y5_78.toInt) rfl rfl
              refine zv_aload_n (j := 0) G dX10_drags_189 rfl rfl ?_
              refine zv_iconst (v := 0) G dX10_drags_190 (by decide) ?_
              refine zp_X10_15 G dX10_drags_191 ?_
              refine zv_gen (R9 := zq 0 σ0) (zq_t0 hz) (fun σ hz => ?_)
              refine zv_aload_n (j := 0) G dX10_drags_194 rfl rfl ?_
              refine zv_iload (j := 1) G dX10_drags_195 rfl ?_
              refine zv_i2l G dX10_drags_197 ?_
              refine zv_callVv (as := [za_L y4_78.toInt64]) G (by decide) rfl rfl (zc_X10_enters l E y4_78.toInt64 σ (zq_p hz (by first | decide | omega))) zk_X10_enters zm_1418 rfl ⟨(Nat.le_of_ble_eq_true rfl), (Nat.le_of_ble_eq_true rfl)⟩ ⟨Nat.zero_le _, Nat.zero_le _⟩ (Nat.le_of_ble_eq_true rfl) dX10_drags_198 (fun σ h_198 => ?_)
              have hz : zq 1 σ0 σ := zq_e hz h_198
              refine zv_aload_n (j := 0) G dX10_drags_201 rfl rfl ?_
              refine zg_X10_262 G dX10_drags_202 ?_
              exact zv_iret G hr dX10_drags_205 (zq_m hz (by first | decide | omega | (have hL := z_lits; omega)))
            · have b_82 : 0 ≤ y5_78.toInt ∧ y5_78.toInt < 10 := ⟨i5_78, z_ltk c_82 rfl⟩
              have k_82 := z_cnle c_82 (a := 10) (b := y5_78.toInt) rfl rfl
              refine zv_iconst (v := 0) G dX10_drags_85 (by decide) ?_
              have J_88 : ∀ (n : Nat) (y4_88 : Int32) (y6_88 : Int32) (σ : za_S) (hz : zq 12 σ0 σ) (i6_88 : 0 ≤ y6_88.toInt) (u6_88 : y6_88.toInt ≤ 100) (hn_88 : (2147483648 - y6_88.toInt).toNat < n), zV p l e (zRm 6 138) s m args below meth c E (za_A E) 9 0 0 (MQ below (va_Qi (fun r σ' => zq 12 σ0 σ') (zB E) (za_A E)) args s 0 0 (za_A E)) 88 [(0, za_O 19 93), (4, za_I y4_88), (5, za_I y5_78), (6, za_I y6_88)] [] σ := by
                intro n
                induction n with
                | zero => intro y4_88 y6_88 σ hz i6_88 u6_88 hn; exact absurd hn (Nat.not_lt_zero _)
                | succ n ih_88 =>
                  intro y4_88 y6_88 σ hz i6_88 u6_88 hn_88
                  refine zv_iload (j := 3) G dX10_drags_88 rfl ?_
                  refine zv_bipush (v := 100) G dX10_drags_90 (by decide) ?_
                  refine zv_icmp_ge (tgt := 183) G dX10_drags_92 (by decide) (fun c_92 => ?_) (fun c_92 => ?_)
                  · have k_92 := z_cle c_92 (a := 100) (b := y6_88.toInt) rfl rfl
                    obtain ⟨x_183, e_183⟩ : ∃ y : Int32, y = y5_78 + 1 := ⟨_, rfl⟩
                    refine zv_iinc (j := 2) (v := x_183) (lv' := [(5, za_I x_183), (0, za_O 19 93), (4, za_I y4_88), (6, za_I y6_88)]) G dX10_drags_183 rfl (by rw [e_183]; rfl) (by decide) rfl ?_
                    first | have q_183 := z_inc9 (by omega) e_183 | skip
                    refine zv_goto (tgt := 78) G dX10_drags_186 (by decide) ?_
                    refine zv_sub [1, 2, 0] (lv' := [(0, za_O 19 93), (4, za_I y4_88), (5, za_I x_183)]) rfl ?_
                    exact ih_78 y4_88 x_183 σ (zq_m hz (by first | decide | omega | (have hL := z_lits; omega))) (by have := z_inc c_82 e_183; omega) (by have := z_inc9 (by omega) e_183; omega) (z_meas c_82 e_183 hn_78)
                  · have b_92 : 0 ≤ y6_88.toInt ∧ y6_88.toInt < 100 := ⟨i6_88, z_ltk c_92 rfl⟩
                    have k_92 := z_cnle c_92 (a := 100) (b := y6_88.toInt) rfl rfl
                    refine zv_aload_n (j := 0) G dX10_drags_95 rfl rfl ?_
                    refine zg_X10_118 G dX10_drags_96 ?_
                    refine zv_iconst (v := 0) G dX10_drags_99 (by decide) ?_
                    refine zv_iload (j := 2) G dX10_drags_100 rfl ?_
                    refine zv_iload (j := 3) G dX10_drags_102 rfl ?_
                    refine zv_callSi (as := [za_O 22 99, za_I 0, za_I y5_78, za_I y6_88]) G (zc_X10_begins l E 99 (0 : Int32) y5_78 y6_88 σ (by first | assumption | decide | omega | exact hz.2.1.1 | exact hz.2.1.2) (by first | assumption | decide | omega | exact hz.2.1.1 | exact hz.2.1.2)) zk_X10_begins zm_1317 rfl ⟨(Nat.le_of_ble_eq_true rfl), (Nat.le_of_ble_eq_true rfl)⟩ ⟨Nat.zero_le _, Nat.zero_le _⟩ (Nat.le_of_ble_eq_true rfl) dX10_drags_104 (fun r_104 σ h_104 => ?_)
                    obtain ⟨h_104, rfl⟩ := h_104
                    refine zv_if_eq (tgt := 177) G dX10_drags_107 (by decide) (fun c_107 => ?_) (fun c_107 => ?_)
                    · have f_104 := fun q9 => (h_104.2.mpr q9) c_107
                      obtain ⟨x_177, e_177⟩ : ∃ y : Int32, y = y6_88 + 1 := ⟨_, rfl⟩
                      refine zv_iinc (j := 3) (v := x_177) (lv' := [(6, za_I x_177), (0, za_O 19 93), (4, za_I y4_88), (5, za_I y5_78)]) G dX10_drags_177 rfl (by rw [e_177]; rfl) (by decide) rfl ?_
                      first | have q_177 := z_inc9 (by omega) e_177 | skip
                      refine zv_goto (tgt := 88) G dX10_drags_180 (by decide) ?_
                      refine zv_sub [1, 2, 3, 0] (lv' := [(0, za_O 19 93), (4, za_I y4_88), (5, za_I y5_78), (6, za_I x_177)]) rfl ?_
                      exact ih_88 y4_88 x_177 σ (zq_m hz (by first | decide | omega | (have hL := z_lits; omega))) (by have := z_inc c_92 e_177; omega) (by have := z_inc9 (by omega) e_177; omega) (z_meas c_92 e_177 hn_88)
                    · have t_104 := h_104.2.mp c_107
                      refine zv_iconst (v := 0) G dX10_drags_110 (by decide) ?_
                      refine zv_istore (lv' := [(7, za_I 0), (0, za_O 19 93), (4, za_I y4_88), (5, za_I y5_78), (6, za_I y6_88)]) G dX10_drags_111 (by decide) rfl ?_
                      refine zv_iload (j := 4) G dX10_drags_113 rfl ?_
                      have J_117 : ∀ (n : Nat) (y7_117 : Int32) (y8_117 : Int32) (σ : za_S) (hz : zq 12 σ0 σ) (b7_117 : y7_117 = 0 ∨ y7_117 = 1) (i8_117 : 0 ≤ y8_117.toInt) (hn_117 : (2147483648 - y8_117.toInt).toNat < n), zV p l e (zRm 6 138) s m args below meth c E (za_A E) 9 0 0 (MQ below (va_Qi (fun r σ' => zq 12 σ0 σ') (zB E) (za_A E)) args s 0 0 (za_A E)) 117 [(0, za_O 19 93), (4, za_I y4_88), (5, za_I y5_78), (6, za_I y6_88), (7, za_I y7_117), (8, za_I y8_117)] [] σ := by
                        intro n
                        induction n with
                        | zero => intro y7_117 y8_117 σ hz b7_117 i8_117 hn; exact absurd hn (Nat.not_lt_zero _)
                        | succ n ih_117 =>
                          intro y7_117 y8_117 σ hz b7_117 i8_117 hn_117
                          refine zv_iload (j := 5) G dX10_drags_117 rfl ?_
                          refine zv_aload_n (j := 0) G dX10_drags_119 rfl rfl ?_
                          refine zg_X10_118 G dX10_drags_120 ?_
                          refine zv_iconst (v := 0) G dX10_drags_123 (by decide) ?_
                          refine zv_iload (j := 2) G dX10_drags_124 rfl ?_
                          refine zv_iload (j := 3) G dX10_drags_126 rfl ?_
                          refine zv_callSi (as := [za_O 22 99, za_I 0, za_I y5_78, za_I y6_88]) G (zc_X10_toOf l E 99 (0 : Int32) y5_78 y6_88 σ (by first | assumption | decide | omega | exact hz.2.1.1 | exact hz.2.1.2) (by first | assumption | decide | omega | exact hz.2.1.1 | exact hz.2.1.2) (by first | assumption | decide | omega | exact hz.2.1.1 | exact hz.2.1.2)) zk_X10_toOf zm_1337 rfl ⟨(Nat.le_of_ble_eq_true rfl), (Nat.le_of_ble_eq_true rfl)⟩ ⟨Nat.zero_le _, Nat.zero_le _⟩ (Nat.le_of_ble_eq_true rfl) dX10_drags_128 (fun r_128 σ h_128 => ?_)
                          obtain ⟨h_128, rfl⟩ := h_128
                          refine zv_icmp_ge (tgt := 167) G dX10_drags_131 (by decide) (fun c_131 => ?_) (fun c_131 => ?_)
                          · have k_131 := z_cle c_131 (a := r_128.toInt) (b := y8_117.toInt) rfl rfl
                            refine zv_iload (j := 1) G dX10_drags_167 rfl ?_
                            refine zv_iload (j := 4) G dX10_drags_169 rfl ?_
                            refine zv_callSi (as := [za_I y7_117]) G (zc_X10_flag l E y7_117 σ ) zk_X10_flag zm_1351 rfl ⟨(Nat.le_of_ble_eq_true rfl), (Nat.le_of_ble_eq_true rfl)⟩ ⟨Nat.zero_le _, Nat.zero_le _⟩ (Nat.le_of_ble_eq_true rfl) dX10_drags_171 (fun r_171 σ h_171 => ?_)
                            obtain ⟨h_171, rfl⟩ := h_171
                            have g_171 := z_flagT h_171.2 (a := y7_117.toInt) rfl
                            refine zv_iadd G dX10_drags_174 ?_
                            refine zv_top (fun x_175 e_175 => ?_)
                            first | have q_175 := z_addf e_175 (a := y4_88.toInt) (b := r_171.toInt) rfl rfl (by omega) (by omega) | skip
                            refine zv_istore (lv' := [(4, za_I x_175), (0, za_O 19 93), (5, za_I y5_78), (6, za_I y6_88), (7, za_I y7_117), (8, za_I y8_117)]) G dX10_drags_175 (by decide) rfl ?_
                            obtain ⟨x_177, e_177⟩ : ∃ y : Int32, y = y6_88 + 1 := ⟨_, rfl⟩
                            refine zv_iinc (j := 3) (v := x_177) (lv' := [(6, za_I x_177), (4, za_I x_175), (0, za_O 19 93), (5, za_I y5_78), (7, za_I y7_117), (8, za_I y8_117)]) G dX10_drags_177 rfl (by rw [e_177]; rfl) (by decide) rfl ?_
                            first | have q_177 := z_inc9 (by omega) e_177 | skip
                            refine zv_goto (tgt := 88) G dX10_drags_180 (by decide) ?_
                            refine zv_sub [2, 1, 3, 0] (lv' := [(0, za_O 19 93), (4, za_I x_175), (5, za_I y5_78), (6, za_I x_177)]) rfl ?_
                            exact ih_88 x_175 x_177 σ (zq_m hz (by first | decide | omega | (have hL := z_lits; omega))) (by have := z_inc c_92 e_177; omega) (by have := z_inc9 (by omega) e_177; omega) (z_meas c_92 e_177 hn_88)
                          · have k_131 := z_cnle c_131 (a := r_128.toInt) (b := y8_117.toInt) rfl rfl
                            refine zv_iload (j := 4) G dX10_drags_134 rfl ?_
                            refine zv_if_ne (tgt := 154) G dX10_drags_136 (by decide) (fun c_136 => ?_) (fun c_136 => ?_)
                            · have k_136 := z_cne c_136 (a := y7_117.toInt) (b := 0) rfl rfl
                              refine zv_iconst (v := 1) G dX10_drags_154 (by decide) ?_
                              refine zv_goto (tgt := 159) G dX10_drags_155 (by decide) ?_
                              refine zv_istore (lv' := [(7, za_I 1), (0, za_O 19 93), (4, za_I y4_88), (5, za_I y5_78), (6, za_I y6_88), (8, za_I y8_117)]) G dX10_drags_159 (by decide) rfl ?_
                              obtain ⟨x_161, e_161⟩ : ∃ y : Int32, y = y8_117 + 1 := ⟨_, rfl⟩
                              refine zv_iinc (j := 5) (v := x_161) (lv' := [(8, za_I x_161), (7, za_I 1), (0, za_O 19 93), (4, za_I y4_88), (5, za_I y5_78), (6, za_I y6_88)]) G dX10_drags_161 rfl (by rw [e_161]; rfl) (by decide) rfl ?_
                              first | have q_161 := z_inc9 (by omega) e_161 | skip
                              refine zv_goto (tgt := 117) G dX10_drags_164 (by decide) ?_
                              refine zv_sub [2, 3, 4, 5, 1, 0] (lv' := [(0, za_O 19 93), (4, za_I y4_88), (5, za_I y5_78), (6, za_I y6_88), (7, za_I 1), (8, za_I x_161)]) rfl ?_
                              exact ih_117 (1 : Int32) x_161 σ (zq_m hz (by first | decide | omega | (have hL := z_lits; omega))) (Or.inr rfl) (by have := z_inc c_131 e_161; omega) (z_meas c_131 e_161 hn_117)
                            · have k_136 := z_ceq c_136 (a := y7_117.toInt) (b := 0) rfl rfl
                              refine zv_aload_n (j := 0) G dX10_drags_139 rfl rfl ?_
                              refine zg_X10_121 G dX10_drags_140 ?_
                              refine zv_iconst (v := 0) G dX10_drags_143 (by decide) ?_
                              refine zv_iload (j := 2) G dX10_drags_144 rfl ?_
                              refine zv_iload (j := 5) G dX10_drags_146 rfl ?_
                              refine zv_callSi (as := [za_O 22 100, za_I 0, za_I y5_78, za_I y8_117]) G (zc_X10_isThere l E 100 (0 : Int32) y5_78 y8_117 σ (by first | assumption | decide | omega | exact hz.2.1.1 | exact hz.2.1.2) (by first | assumption | decide | omega | exact hz.2.1.1 | exact hz.2.1.2)) zk_X10_isThere zm_1320 rfl ⟨(Nat.le_of_ble_eq_true rfl), (Nat.le_of_ble_eq_true rfl)⟩ ⟨Nat.zero_le _, Nat.zero_le _⟩ (Nat.le_of_ble_eq_true rfl) dX10_drags_148 (fun r_148 σ h_148 => ?_)
                              obtain ⟨h_148, rfl⟩ := h_148
                              refine zv_if_ne (tgt := 158) G dX10_drags_151 (by decide) (fun c_151 => ?_) (fun c_151 => ?_)
                              · have t_148 := h_148.2.mp c_151
                                refine zv_iconst (v := 0) G dX10_drags_158 (by decide) ?_
                                refine zv_istore (lv' := [(7, za_I 0), (0, za_O 19 93), (4, za_I y4_88), (5, za_I y5_78), (6, za_I y6_88), (8, za_I y8_117)]) G dX10_drags_159 (by decide) rfl ?_
                                obtain ⟨x_161, e_161⟩ : ∃ y : Int32, y = y8_117 + 1 := ⟨_, rfl⟩
                                refine zv_iinc (j := 5) (v := x_161) (lv' := [(8, za_I x_161), (7, za_I 0), (0, za_O 19 93), (4, za_I y4_88), (5, za_I y5_78), (6, za_I y6_88)]) G dX10_drags_161 rfl (by rw [e_161]; rfl) (by decide) rfl ?_
                                first | have q_161 := z_inc9 (by omega) e_161 | skip
                                refine zv_goto (tgt := 117) G dX10_drags_164 (by decide) ?_
                                refine zv_sub [2, 3, 4, 5, 1, 0] (lv' := [(0, za_O 19 93), (4, za_I y4_88), (5, za_I y5_78), (6, za_I y6_88), (7, za_I 0), (8, za_I x_161)]) rfl ?_
                                exact ih_117 (0 : Int32) x_161 σ (zq_m hz (by first | decide | omega | (have hL := z_lits; omega))) (Or.inl rfl) (by have := z_inc c_131 e_161; omega) (z_meas c_131 e_161 hn_117)
                              · have f_148 := fun q9 => (h_148.2.mpr q9) c_151
                                refine zv_iconst (v := 1) G dX10_drags_154 (by decide) ?_
                                refine zv_goto (tgt := 159) G dX10_drags_155 (by decide) ?_
                                refine zv_istore (lv' := [(7, za_I 1), (0, za_O 19 93), (4, za_I y4_88), (5, za_I y5_78), (6, za_I y6_88), (8, za_I y8_117)]) G dX10_drags_159 (by decide) rfl ?_
                                obtain ⟨x_161, e_161⟩ : ∃ y : Int32, y = y8_117 + 1 := ⟨_, rfl⟩
                                refine zv_iinc (j := 5) (v := x_161) (lv' := [(8, za_I x_161), (7, za_I 1), (0, za_O 19 93), (4, za_I y4_88), (5, za_I y5_78), (6, za_I y6_88)]) G dX10_drags_161 rfl (by rw [e_161]; rfl) (by decide) rfl ?_
                                first | have q_161 := z_inc9 (by omega) e_161 | skip
                                refine zv_goto (tgt := 117) G dX10_drags_164 (by decide) ?_
                                refine zv_sub [2, 3, 4, 5, 1, 0] (lv' := [(0, za_O 19 93), (4, za_I y4_88), (5, za_I y5_78), (6, za_I y6_88), (7, za_I 1), (8, za_I x_161)]) rfl ?_
                                exact ih_117 (1 : Int32) x_161 σ (zq_m hz (by first | decide | omega | (have hL := z_lits; omega))) (Or.inr rfl) (by have := z_inc c_131 e_161; omega) (z_meas c_131 e_161 hn_117)
                      refine zv_istore (lv' := [(8, za_I y6_88), (7, za_I 0), (0, za_O 19 93), (4, za_I y4_88), (5, za_I y5_78), (6, za_I y6_88)]) G dX10_drags_115 (by decide) rfl ?_
                      refine zv_sub [2, 3, 4, 5, 1, 0] (lv' := [(0, za_O 19 93), (4, za_I y4_88), (5, za_I y5_78), (6, za_I y6_88), (7, za_I 0), (8, za_I y6_88)]) rfl ?_
                      exact J_117 _ (0 : Int32) y6_88 σ (zq_m hz (by first | decide | omega | (have hL := z_lits; omega))) (Or.inl rfl) i6_88 (Nat.lt_succ_self _)
              refine zv_istore (lv' := [(6, za_I 0), (0, za_O 19 93), (4, za_I y4_78), (5, za_I y5_78)]) G dX10_drags_86 (by decide) rfl ?_
              refine zv_sub [1, 2, 3, 0] (lv' := [(0, za_O 19 93), (4, za_I y4_78), (5, za_I y5_78), (6, za_I 0)]) rfl ?_
              exact J_88 _ y4_78 (0 : Int32) σ (zq_m hz (by first | decide | omega | (have hL := z_lits; omega))) (by decide) (by decide) (Nat.lt_succ_self _)
        refine zv_istore (lv' := [(5, za_I 0), (4, za_I 0), (0, za_O 19 93), (1, za_I k), (2, za_I fd), (3, za_I td)]) G dX10_drags_76 (by decide) rfl ?_
        refine zv_sub [2, 1, 0] (lv' := [(0, za_O 19 93), (4, za_I 0), (5, za_I 0)]) rfl ?_
        exact J_78 _ (0 : Int32) (0 : Int32) σ (zq_m hz (by first | decide | omega | (have hL := z_lits; omega))) (by decide) (by decide) (Nat.lt_succ_self _)
      · refine zv_bipush (v := (-2)) G dX10_drags_36 (by decide) ?_
        exact zv_iret G hr dX10_drags_38 (zq_m hz (by first | decide | omega | (have hL := z_lits; omega)))
    · have f_14 := fun q9 => (h_14.2.mpr q9) c_17
      refine zv_iconst (v := (-1)) G dX10_drags_20 (by decide) ?_
      exact zv_iret G hr dX10_drags_21 (zq_m hz (by first | decide | omega | (have hL := z_lits; omega)))
set_option maxHeartbeats 4000000 in
set_option maxRecDepth 100000 in
theorem zc_X10_draws (l : Launch) (E : za_E) (nn : Int32) (N : Int) (σ0 : za_S) (hn : nn.toInt = N) (h0 : 0 < N) : zMi l E yX10_draws cX10_draws 2 (Option.some Jvm.ClassFile.FieldType.int) 1 21 [za_O 19 93, za_I nn] σ0 (fun r σ' => (0 ≤ r.toInt ∧ r.toInt < N) ∧ ∃ x, σ' = za_si σ0 93 35 x) := by
  refine zMi_of [(0, za_O 19 93), (1, za_I nn)] (by decide) rfl rfl (Nat.le_of_ble_eq_true rfl) ?_
  intro ho p e s m args below meth c G hr
  refine zv_aload_n (j := 0) G dX10_draws_0 rfl rfl ?_
  refine zv_aload_n (j := 0) G dX10_draws_1 rfl rfl ?_
  refine zg_X10_419 G dX10_draws_2 ?_
  refine zv_ldc_w (v := 1103515245) G dX10_draws_5 zm_1718 ?_
  refine zv_imul G dX10_draws_8 ?_
  refine zv_sipush (v := 12345) G dX10_draws_9 (by decide) ?_
  refine zv_iadd G dX10_draws_12 ?_
  refine zp_X10_419 G dX10_draws_13 ?_
  refine zv_aload_n (j := 0) G dX10_draws_16 rfl rfl ?_
  refine zg_X10_419 G dX10_draws_17 ?_
  refine zv_bipush (v := 16) G dX10_draws_20 (by decide) ?_
  refine zv_iushr G dX10_draws_22 ?_
  refine zv_iload_n (j := 1) G dX10_draws_23 rfl rfl ?_
  refine zv_irem G dX10_draws_24 (fun e9 => by rw [e9] at hn; have u9 : (0 : Int32).toInt = 0 := (by decide); omega) ?_
  exact zv_iret G hr dX10_draws_25 ⟨z_drw hn h0, _, rfl⟩
set_option maxHeartbeats 4000000 in
set_option maxRecDepth 100000 in
theorem zc_X10_drawnAct (l : Launch) (E : za_E)  (σ0 : za_S) (hG : zG (σ0.1 100)) : zMv l E yX10_drawnAct cX10_drawnAct 6 (Option.none : Option Jvm.ClassFile.FieldType) 8 197 [za_O 19 93] σ0 (fun σ' => zfd σ0 σ') := by
  refine zMv_of [(0, za_O 19 93)] (by decide) rfl rfl (Nat.le_of_ble_eq_true rfl) ?_
  intro ho p e s m args below meth c G hr
  refine zv_gen (R9 := zfd σ0) (zfd_r hG) (fun σ hz => ?_)
  refine zv_aload_n (j := 0) G dX10_drawnAct_0 rfl rfl ?_
  refine zv_bipush (v := 6) G dX10_drawnAct_1 (by decide) ?_
  refine zv_callVi (as := [za_I 6]) G (by decide) rfl rfl (zc_X10_draws l E (6 : Int32) (6 : Int) σ rfl (by decide)) zk_X10_draws zm_1714 rfl ⟨(Nat.le_of_ble_eq_true rfl), (Nat.le_of_ble_eq_true rfl)⟩ ⟨Nat.zero_le _, Nat.zero_le _⟩ (Nat.le_of_ble_eq_true rfl) dX10_drawnAct_3 (fun r_3 σ h_3 => ?_)
  obtain ⟨h_3, x_3, e9_3⟩ := h_3
  have hz : zfd σ0 σ := by rw [e9_3]; exact zfd_w hz
  refine zv_istore_n (lv' := [(1, za_I r_3), (0, za_O 19 93)]) G dX10_drawnAct_6 rfl (by decide) rfl ?_
  refine zv_aload_n (j := 1) G dX10_drawnAct_7 rfl rfl ?_
  refine zv_iconst (v := 2) G dX10_drawnAct_8 (by decide) ?_
  refine zv_callVi (as := [za_I 2]) G (by decide) rfl rfl (zc_X10_draws l E (2 : Int32) (2 : Int) σ rfl (by decide)) zk_X10_draws zm_1714 rfl ⟨(Nat.le_of_ble_eq_true rfl), (Nat.le_of_ble_eq_true rfl)⟩ ⟨Nat.zero_le _, Nat.zero_le _⟩ (Nat.le_of_ble_eq_true rfl) dX10_drawnAct_9 (fun r_9 σ h_9 => ?_)
  obtain ⟨h_9, x_9, e9_9⟩ := h_9
  have hz : zfd σ0 σ := by rw [e9_9]; exact zfd_w hz
  refine zv_istore_n (lv' := [(2, za_I r_9), (1, za_I r_3), (0, za_O 19 93)]) G dX10_drawnAct_12 rfl (by decide) rfl ?_
  refine zv_aload_n (j := 2) G dX10_drawnAct_13 rfl rfl ?_
  refine zv_bipush (v := 10) G dX10_drawnAct_14 (by decide) ?_
  refine zv_callVi (as := [za_I 10]) G (by decide) rfl rfl (zc_X10_draws l E (10 : Int32) (10 : Int) σ rfl (by decide)) zk_X10_draws zm_1714 rfl ⟨(Nat.le_of_ble_eq_true rfl), (Nat.le_of_ble_eq_true rfl)⟩ ⟨Nat.zero_le _, Nat.zero_le _⟩ (Nat.le_of_ble_eq_true rfl) dX10_drawnAct_16 (fun r_16 σ h_16 => ?_)
  obtain ⟨h_16, x_16, e9_16⟩ := h_16
  have hz : zfd σ0 σ := by rw [e9_16]; exact zfd_w hz
  refine zv_istore_n (lv' := [(3, za_I r_16), (2, za_I r_9), (1, za_I r_3), (0, za_O 19 93)]) G dX10_drawnAct_19 rfl (by decide) rfl ?_
  refine zv_aload_n (j := 3) G dX10_drawnAct_20 rfl rfl ?_
  refine zv_bipush (v := 100) G dX10_drawnAct_21 (by decide) ?_
  refine zv_callVi (as := [za_I 100]) G (by decide) rfl rfl (zc_X10_draws l E (100 : Int32) (100 : Int) σ rfl (by decide)) zk_X10_draws zm_1714 rfl ⟨(Nat.le_of_ble_eq_true rfl), (Nat.le_of_ble_eq_true rfl)⟩ ⟨Nat.zero_le _, Nat.zero_le _⟩ (Nat.le_of_ble_eq_true rfl) dX10_drawnAct_23 (fun r_23 σ h_23 => ?_)
  obtain ⟨h_23, x_23, e9_23⟩ := h_23
  have hz : zfd σ0 σ := by rw [e9_23]; exact zfd_w hz
  refine zv_istore (lv' := [(4, za_I r_23), (3, za_I r_16), (2, za_I r_9), (1, za_I r_3), (0, za_O 19 93)]) G dX10_drawnAct_26 (by decide) rfl ?_
  refine zv_bipush (v := 100) G dX10_drawnAct_28 (by decide) ?_
  refine zv_iload (j := 0) G dX10_drawnAct_30 rfl ?_
  refine zv_aload_n (j := 4) G dX10_drawnAct_32 rfl rfl ?_
  refine zv_bipush (v := 20) G dX10_drawnAct_33 (by decide) ?_
  refine zv_callVi (as := [za_I 20]) G (by decide) rfl rfl (zc_X10_draws l E (20 : Int32) (20 : Int) σ rfl (by decide)) zk_X10_draws zm_1714 rfl ⟨(Nat.le_of_ble_eq_true rfl), (Nat.le_of_ble_eq_true rfl)⟩ ⟨Nat.zero_le _, Nat.zero_le _⟩ (Nat.le_of_ble_eq_true rfl) dX10_drawnAct_35 (fun r_35 σ h_35 => ?_)
  obtain ⟨h_35, x_35, e9_35⟩ := h_35
  have hz : zfd σ0 σ := by rw [e9_35]; exact zfd_w hz
  refine zv_iadd G dX10_drawnAct_38 ?_
  refine zv_iconst (v := 1) G dX10_drawnAct_39 (by decide) ?_
  refine zv_iadd G dX10_drawnAct_40 ?_
  refine zv_mmin G zm_1354 zm_392 zm_147 zm_393 (Nat.le_of_ble_eq_true rfl) (Nat.le_of_ble_eq_true rfl) (Nat.zero_le _) (Nat.zero_le _) dX10_drawnAct_41 ?_
  refine zv_top (fun x_41 e_41 => ?_)
  refine zv_istore (lv' := [(5, za_I x_41), (4, za_I r_23), (3, za_I r_16), (2, za_I r_9), (1, za_I r_3), (0, za_O 19 93)]) G dX10_drawnAct_44 (by decide) rfl ?_
  refine zv_iload_n (j := 4) G dX10_drawnAct_46 rfl rfl ?_
  rcases Decidable.em (r_3 = 2) with q_47_2 | q_47_2
  · refine zv_tabIn (off := 29) (tgt := 76) G dX10_drawnAct_47 (by rw [q_47_2]; decide) (by rw [q_47_2]; decide) (by rw [q_47_2]; rfl) (by decide) ?_
    refine zv_aload_n (j := 5) G dX10_drawnAct_76 rfl rfl ?_
    refine zv_aload_n (j := 5) G dX10_drawnAct_77 rfl rfl ?_
    refine zg_X10_121 G dX10_drawnAct_78 ?_
    refine zv_iload_n (j := 3) G dX10_drawnAct_81 rfl rfl ?_
    refine zv_iload_n (j := 2) G dX10_drawnAct_82 rfl rfl ?_
    refine zv_aload_n (j := 5) G dX10_drawnAct_83 rfl rfl ?_
    refine zv_bipush (v := 100) G dX10_drawnAct_84 (by decide) ?_
    refine zv_callVi (as := [za_I 100]) G (by decide) rfl rfl (zc_X10_draws l E (100 : Int32) (100 : Int) σ rfl (by decide)) zk_X10_draws zm_1714 rfl ⟨(Nat.le_of_ble_eq_true rfl), (Nat.le_of_ble_eq_true rfl)⟩ ⟨Nat.zero_le _, Nat.zero_le _⟩ (Nat.le_of_ble_eq_true rfl) dX10_drawnAct_86 (fun r_86 σ h_86 => ?_)
    obtain ⟨h_86, x_86, e9_86⟩ := h_86
    have hz : zfd σ0 σ := by rw [e9_86]; exact zfd_w hz
    refine zv_iload (j := 1) G dX10_drawnAct_89 rfl ?_
    refine zv_iload (j := 0) G dX10_drawnAct_91 rfl ?_
    refine zv_callVi (as := [za_O 22 100, za_I r_9, za_I r_16, za_I r_86, za_I r_23, za_I x_41]) G (by decide) rfl rfl (zc_X10_setsOne l E 100 r_9 r_16 r_86 r_23 x_41 σ (by decide) hz.2) zk_X10_setsOne zm_1403 rfl ⟨(Nat.le_of_ble_eq_true rfl), (Nat.le_of_ble_eq_true rfl)⟩ ⟨Nat.zero_le _, Nat.zero_le _⟩ (Nat.le_of_ble_eq_true rfl) dX10_drawnAct_93 (fun r_93 σ h_93 => ?_)
    have hz := zfd_a hz h_93.2
    refine zv_popI G dX10_drawnAct_96 ?_
    refine zv_goto (tgt := 174) G dX10_drawnAct_97 (by decide) ?_
    exact zv_vret G hr dX10_drawnAct_174 hz
  rcases Decidable.em (r_3 = 3) with q_47_3 | q_47_3
  · refine zv_tabIn (off := 53) (tgt := 100) G dX10_drawnAct_47 (by rw [q_47_3]; decide) (by rw [q_47_3]; decide) (by rw [q_47_3]; rfl) (by decide) ?_
    refine zv_aload_n (j := 5) G dX10_drawnAct_100 rfl rfl ?_
    refine zv_aload_n (j := 5) G dX10_drawnAct_101 rfl rfl ?_
    refine zg_X10_121 G dX10_drawnAct_102 ?_
    refine zv_iload_n (j := 2) G dX10_drawnAct_105 rfl rfl ?_
    refine zv_aload_n (j := 5) G dX10_drawnAct_106 rfl rfl ?_
    refine zv_bipush (v := 11) G dX10_drawnAct_107 (by decide) ?_
    refine zv_callVi (as := [za_I 11]) G (by decide) rfl rfl (zc_X10_draws l E (11 : Int32) (11 : Int) σ rfl (by decide)) zk_X10_draws zm_1714 rfl ⟨(Nat.le_of_ble_eq_true rfl), (Nat.le_of_ble_eq_true rfl)⟩ ⟨Nat.zero_le _, Nat.zero_le _⟩ (Nat.le_of_ble_eq_true rfl) dX10_drawnAct_109 (fun r_109 σ h_109 => ?_)
    obtain ⟨h_109, x_109, e9_109⟩ := h_109
    have hz : zfd σ0 σ := by rw [e9_109]; exact zfd_w hz
    refine zv_iload (j := 1) G dX10_drawnAct_112 rfl ?_
    refine zv_iload (j := 0) G dX10_drawnAct_114 rfl ?_
    refine zv_callVi (as := [za_O 22 100, za_I r_16, za_I r_109, za_I r_23, za_I x_41]) G (by decide) rfl rfl (zc_X10_refersOne l E 100 r_16 r_109 r_23 x_41 σ (by decide) hz.2) zk_X10_refersOne zm_1426 rfl ⟨(Nat.le_of_ble_eq_true rfl), (Nat.le_of_ble_eq_true rfl)⟩ ⟨Nat.zero_le _, Nat.zero_le _⟩ (Nat.le_of_ble_eq_true rfl) dX10_drawnAct_116 (fun r_116 σ h_116 => ?_)
    have hz := zfd_a hz h_116
    refine zv_popI G dX10_drawnAct_119 ?_
    refine zv_goto (tgt := 174) G dX10_drawnAct_120 (by decide) ?_
    exact zv_vret G hr dX10_drawnAct_174 hz
  rcases Decidable.em (r_3 = 4) with q_47_4 | q_47_4
  · refine zv_tabIn (off := 76) (tgt := 123) G dX10_drawnAct_47 (by rw [q_47_4]; decide) (by rw [q_47_4]; decide) (by rw [q_47_4]; rfl) (by decide) ?_
    refine zv_aload_n (j := 5) G dX10_drawnAct_123 rfl rfl ?_
    refine zv_aload_n (j := 5) G dX10_drawnAct_124 rfl rfl ?_
    refine zg_X10_121 G dX10_drawnAct_125 ?_
    refine zv_iload_n (j := 3) G dX10_drawnAct_128 rfl rfl ?_
    refine zv_iload_n (j := 2) G dX10_drawnAct_129 rfl rfl ?_
    refine zv_iload (j := 1) G dX10_drawnAct_130 rfl ?_
    refine zv_iload (j := 0) G dX10_drawnAct_132 rfl ?_
    refine zv_callVi (as := [za_O 22 100, za_I r_9, za_I r_16, za_I r_23, za_I x_41]) G (by decide) rfl rfl (zc_X10_cutsOne l E 100 r_9 r_16 r_23 x_41 σ (by decide) hz.2) zk_X10_cutsOne zm_1438 rfl ⟨(Nat.le_of_ble_eq_true rfl), (Nat.le_of_ble_eq_true rfl)⟩ ⟨Nat.zero_le _, Nat.zero_le _⟩ (Nat.le_of_ble_eq_true rfl) dX10_drawnAct_134 (fun r_134 σ h_134 => ?_)
    have hz := zfd_a hz h_134
    refine zv_popI G dX10_drawnAct_137 ?_
    refine zv_goto (tgt := 174) G dX10_drawnAct_138 (by decide) ?_
    exact zv_vret G hr dX10_drawnAct_174 hz
  rcases Decidable.em (r_3 = 5) with q_47_5 | q_47_5
  · refine zv_tabIn (off := 94) (tgt := 141) G dX10_drawnAct_47 (by rw [q_47_5]; decide) (by rw [q_47_5]; decide) (by rw [q_47_5]; rfl) (by decide) ?_
    refine zv_aload_n (j := 5) G dX10_drawnAct_141 rfl rfl ?_
    refine zg_X10_121 G dX10_drawnAct_142 ?_
    refine zv_iload_n (j := 3) G dX10_drawnAct_145 rfl rfl ?_
    refine zv_callSi (as := [za_O 22 100, za_I r_9]) G (zc_X10_joinsAll l E 100 r_9 σ (by omega) hz.2.1) zk_X10_joinsAll zm_1463 rfl ⟨(Nat.le_of_ble_eq_true rfl), (Nat.le_of_ble_eq_true rfl)⟩ ⟨Nat.zero_le _, Nat.zero_le _⟩ (Nat.le_of_ble_eq_true rfl) dX10_drawnAct_146 (fun r_146 σ h_146 => ?_)
    have hz := zfd_j hz h_146
    refine zv_popI G dX10_drawnAct_149 ?_
    refine zv_goto (tgt := 174) G dX10_drawnAct_150 (by decide) ?_
    exact zv_vret G hr dX10_drawnAct_174 hz
  have n_47_0 := lv_neT q_47_2 (a := 2) rfl
  have n_47_1 := lv_neT q_47_3 (a := 3) rfl
  have n_47_2 := lv_neT q_47_4 (a := 4) rfl
  have n_47_3 := lv_neT q_47_5 (a := 5) rfl
  refine zv_tabOut (tgt := 153) G dX10_drawnAct_47 (by omega) (by decide) ?_
  refine zv_aload_n (j := 5) G dX10_drawnAct_153 rfl rfl ?_
  refine zv_aload_n (j := 5) G dX10_drawnAct_154 rfl rfl ?_
  refine zg_X10_121 G dX10_drawnAct_155 ?_
  refine zv_iload_n (j := 3) G dX10_drawnAct_158 rfl rfl ?_
  refine zv_iload_n (j := 2) G dX10_drawnAct_159 rfl rfl ?_
  refine zv_aload_n (j := 5) G dX10_drawnAct_160 rfl rfl ?_
  refine zv_bipush (v := 100) G dX10_drawnAct_161 (by decide) ?_
  refine zv_callVi (as := [za_I 100]) G (by decide) rfl rfl (zc_X10_draws l E (100 : Int32) (100 : Int) σ rfl (by decide)) zk_X10_draws zm_1714 rfl ⟨(Nat.le_of_ble_eq_true rfl), (Nat.le_of_ble_eq_true rfl)⟩ ⟨Nat.zero_le _, Nat.zero_le _⟩ (Nat.le_of_ble_eq_true rfl) dX10_drawnAct_163 (fun r_163 σ h_163 => ?_)
  obtain ⟨h_163, x_163, e9_163⟩ := h_163
  have hz : zfd σ0 σ := by rw [e9_163]; exact zfd_w hz
  refine zv_iload (j := 1) G dX10_drawnAct_166 rfl ?_
  refine zv_iload (j := 0) G dX10_drawnAct_168 rfl ?_
  refine zv_callVi (as := [za_O 22 100, za_I r_9, za_I r_16, za_I r_163, za_I r_23, za_I x_41]) G (by decide) rfl rfl (zc_X10_addsOne l E 100 r_9 r_16 r_163 r_23 x_41 σ (by decide) hz.2) zk_X10_addsOne zm_1367 rfl ⟨(Nat.le_of_ble_eq_true rfl), (Nat.le_of_ble_eq_true rfl)⟩ ⟨Nat.zero_le _, Nat.zero_le _⟩ (Nat.le_of_ble_eq_true rfl) dX10_drawnAct_170 (fun r_170 σ h_170 => ?_)
  have hz := zfd_a hz h_170
  refine zv_popI G dX10_drawnAct_173 ?_
  exact zv_vret G hr dX10_drawnAct_174 hz
set_option maxHeartbeats 4000000 in
set_option maxRecDepth 100000 in
theorem zc_X10_years (l : Launch) (E : za_E) (sd : Int32) (nn : Int32) (σ0 : za_S) (hJ : zJ σ0) : zMi l E yX10_years cX10_years 8 (Option.some Jvm.ClassFile.FieldType.int) 9 222 [za_O 19 93, za_I sd, za_I nn] σ0 (fun r σ' => zq 12 σ0 σ') := by
  refine zMi_of [(0, za_O 19 93), (1, za_I sd), (2, za_I nn)] (by decide) rfl rfl (Nat.le_of_ble_eq_true rfl) ?_
  intro ho p e s m args below meth c G hr
  refine zv_gen (R9 := zq 12 σ0) (zq_0 hJ) (fun σ hz => ?_)
  refine zv_aload_n (j := 0) G dX10_years_0 rfl rfl ?_
  refine zv_iconst (v := 0) G dX10_years_1 (by decide) ?_
  refine zp_X10_3 G dX10_years_2 ?_
  refine zv_gen (R9 := zq 12 σ0) (zq_93 hz (by decide)) (fun σ hz => ?_)
  refine zv_iload_n (j := 2) G dX10_years_5 rfl rfl ?_
  refine zv_i2l G dX10_years_6 ?_
  refine zv_lconst (v := 1) G dX10_years_7 (by decide) ?_
  refine zv_ldc2 (v := 40) G dX10_years_8 zm_1709 ?_
  refine zv_callSi (as := [za_L nn.toInt64, za_L 1, za_L 40]) G (zc_X10_in l E nn.toInt64 1 40 σ ) zk_X10_in zm_1180 rfl ⟨(Nat.le_of_ble_eq_true rfl), (Nat.le_of_ble_eq_true rfl)⟩ ⟨Nat.zero_le _, Nat.zero_le _⟩ (Nat.le_of_ble_eq_true rfl) dX10_years_11 (fun r_11 σ h_11 => ?_)
  obtain ⟨h_11, rfl⟩ := h_11
  refine zv_if_ne (tgt := 19) G dX10_years_14 (by decide) (fun c_14 => ?_) (fun c_14 => ?_)
  · have t_11 := h_11.2.mp c_14
    refine zv_aload_n (j := 0) G dX10_years_19 rfl rfl ?_
    refine zv_iload_n (j := 1) G dX10_years_20 rfl rfl ?_
    refine zp_X10_419 G dX10_years_21 ?_
    refine zv_gen (R9 := zq 12 σ0) (zq_93 hz (by decide)) (fun σ hz => ?_)
    refine zv_aload_n (j := 0) G dX10_years_24 rfl rfl ?_
    refine zv_callVv (as := []) G (by decide) rfl rfl (zc_X10_copies l E  σ ) zk_X10_copies zm_1556 rfl ⟨(Nat.le_of_ble_eq_true rfl), (Nat.le_of_ble_eq_true rfl)⟩ ⟨Nat.zero_le _, Nat.zero_le _⟩ (Nat.le_of_ble_eq_true rfl) dX10_years_25 (fun σ h_25 => ?_)
    have hz := zqy_c hJ hz h_25
    refine zv_iconst (v := 0) G dX10_years_28 (by decide) ?_
    have J_30 : ∀ (n : Nat) (y3_30 : Int32) (σ : za_S) (hz : zqy 12 σ0 σ) (i3_30 : 0 ≤ y3_30.toInt) (hn_30 : (2147483648 - y3_30.toInt).toNat < n), zV p l e (zRm 9 222) s m args below meth c E (za_A E) 8 0 0 (MQ below (va_Qi (fun r σ' => zq 12 σ0 σ') (zB E) (za_A E)) args s 0 0 (za_A E)) 30 [(0, za_O 19 93), (2, za_I nn), (3, za_I y3_30)] [] σ := by
      intro n
      induction n with
      | zero => intro y3_30 σ hz i3_30 hn; exact absurd hn (Nat.not_lt_zero _)
      | succ n ih_30 =>
        intro y3_30 σ hz i3_30 hn_30
        refine zv_iload_n (j := 2) G dX10_years_30 rfl rfl ?_
        refine zv_iload_n (j := 1) G dX10_years_31 rfl rfl ?_
        refine zv_icmp_ge (tgt := 45) G dX10_years_32 (by decide) (fun c_32 => ?_) (fun c_32 => ?_)
        · have k_32 := z_cle c_32 (a := nn.toInt) (b := y3_30.toInt) rfl rfl
          refine zv_lconst (v := 0) G dX10_years_45 (by decide) ?_
          refine zv_lstore_n (lv' := [(3, za_L 0), (0, za_O 19 93), (2, za_I nn)]) G dX10_years_46 rfl (by decide) rfl ?_
          refine zv_iconst (v := 0) G dX10_years_47 (by decide) ?_
          have J_50 : ∀ (n : Nat) (y3_50 : Int64) (y5_50 : Int32) (σ : za_S) (hz : zqy 12 σ0 σ) (i5_50 : 0 ≤ y5_50.toInt) (u5_50 : y5_50.toInt ≤ 2) (hn_50 : (2147483648 - y5_50.toInt).toNat < n), zV p l e (zRm 9 222) s m args below meth c E (za_A E) 8 0 0 (MQ below (va_Qi (fun r σ' => zq 12 σ0 σ') (zB E) (za_A E)) args s 0 0 (za_A E)) 50 [(0, za_O 19 93), (3, za_L y3_50), (5, za_I y5_50)] [] σ := by
            intro n
            induction n with
            | zero => intro y3_50 y5_50 σ hz i5_50 u5_50 hn; exact absurd hn (Nat.not_lt_zero _)
            | succ n ih_50 =>
              intro y3_50 y5_50 σ hz i5_50 u5_50 hn_50
              refine zv_iload (j := 2) G dX10_years_50 rfl ?_
              refine zv_iconst (v := 2) G dX10_years_52 (by decide) ?_
              refine zv_icmp_ge (tgt := 134) G dX10_years_53 (by decide) (fun c_53 => ?_) (fun c_53 => ?_)
              · have k_53 := z_cle c_53 (a := 2) (b := y5_50.toInt) rfl rfl
                refine zv_aload_n (j := 0) G dX10_years_134 rfl rfl ?_
                refine zv_iconst (v := 0) G dX10_years_135 (by decide) ?_
                refine zp_X10_15 G dX10_years_136 ?_
                refine zv_gen (R9 := zq 0 σ0) (zq_t0 hz.1) (fun σ hz => ?_)
                refine zv_aload_n (j := 0) G dX10_years_139 rfl rfl ?_
                refine zv_aload_n (j := 0) G dX10_years_140 rfl rfl ?_
                refine zg_X10_121 G dX10_years_141 ?_
                refine zv_iconst (v := 0) G dX10_years_144 (by decide) ?_
                refine zv_callSi (as := [za_O 22 100, za_I 0]) G (zc_X10_daysOf l E 100 (0 : Int32) σ (by first | assumption | decide | omega | exact hz.2.1.1 | exact hz.2.1.2)) zk_X10_daysOf zm_1560 rfl ⟨(Nat.le_of_ble_eq_true rfl), (Nat.le_of_ble_eq_true rfl)⟩ ⟨Nat.zero_le _, Nat.zero_le _⟩ (Nat.le_of_ble_eq_true rfl) dX10_years_145 (fun r_145 σ h_145 => ?_)
                subst h_145
                refine zv_aload_n (j := 0) G dX10_years_148 rfl rfl ?_
                refine zg_X10_121 G dX10_years_149 ?_
                refine zv_iconst (v := 1) G dX10_years_152 (by decide) ?_
                refine zv_callSi (as := [za_O 22 100, za_I 1]) G (zc_X10_daysOf l E 100 (1 : Int32) σ (by first | assumption | decide | omega | exact hz.2.1.1 | exact hz.2.1.2)) zk_X10_daysOf zm_1560 rfl ⟨(Nat.le_of_ble_eq_true rfl), (Nat.le_of_ble_eq_true rfl)⟩ ⟨Nat.zero_le _, Nat.zero_le _⟩ (Nat.le_of_ble_eq_true rfl) dX10_years_153 (fun r_153 σ h_153 => ?_)
                subst h_153
                refine zv_iadd G dX10_years_156 ?_
                refine zv_i2l G dX10_years_157 ?_
                refine zv_callVv (as := [za_L ((r_145 + r_153).toInt64)]) G (by decide) rfl rfl (zc_X10_enters l E ((r_145 + r_153).toInt64) σ (zq_p hz (by first | decide | omega))) zk_X10_enters zm_1418 rfl ⟨(Nat.le_of_ble_eq_true rfl), (Nat.le_of_ble_eq_true rfl)⟩ ⟨Nat.zero_le _, Nat.zero_le _⟩ (Nat.le_of_ble_eq_true rfl) dX10_years_158 (fun σ h_158 => ?_)
                have hz : zq 1 σ0 σ := zq_e hz h_158
                refine zv_aload_n (j := 0) G dX10_years_161 rfl rfl ?_
                refine zv_lload_n (j := 1) G dX10_years_162 rfl rfl ?_
                refine zv_callVv (as := [za_L y3_50]) G (by decide) rfl rfl (zc_X10_enters l E y3_50 σ (zq_p hz (by first | decide | omega))) zk_X10_enters zm_1418 rfl ⟨(Nat.le_of_ble_eq_true rfl), (Nat.le_of_ble_eq_true rfl)⟩ ⟨Nat.zero_le _, Nat.zero_le _⟩ (Nat.le_of_ble_eq_true rfl) dX10_years_163 (fun σ h_163 => ?_)
                have hz : zq 2 σ0 σ := zq_e hz h_163
                refine zv_aload_n (j := 0) G dX10_years_166 rfl rfl ?_
                refine zg_X10_121 G dX10_years_167 ?_
                refine zv_iconst (v := 0) G dX10_years_170 (by decide) ?_
                refine zv_callSi (as := [za_O 22 100, za_I 0]) G (zc_X10_rowsOf l E 100 (0 : Int32) σ (by first | assumption | decide | omega | exact hz.2.1.1 | exact hz.2.1.2)) zk_X10_rowsOf zm_1348 rfl ⟨(Nat.le_of_ble_eq_true rfl), (Nat.le_of_ble_eq_true rfl)⟩ ⟨Nat.zero_le _, Nat.zero_le _⟩ (Nat.le_of_ble_eq_true rfl) dX10_years_171 (fun r_171 σ h_171 => ?_)
                obtain ⟨h_171, rfl⟩ := h_171
                refine zv_aload_n (j := 0) G dX10_years_174 rfl rfl ?_
                refine zg_X10_121 G dX10_years_175 ?_
                refine zv_iconst (v := 1) G dX10_years_178 (by decide) ?_
                refine zv_callSi (as := [za_O 22 100, za_I 1]) G (zc_X10_rowsOf l E 100 (1 : Int32) σ (by first | assumption | decide | omega | exact hz.2.1.1 | exact hz.2.1.2)) zk_X10_rowsOf zm_1348 rfl ⟨(Nat.le_of_ble_eq_true rfl), (Nat.le_of_ble_eq_true rfl)⟩ ⟨Nat.zero_le _, Nat.zero_le _⟩ (Nat.le_of_ble_eq_true rfl) dX10_years_179 (fun r_179 σ h_179 => ?_)
                obtain ⟨h_179, rfl⟩ := h_179
                refine zv_iadd G dX10_years_182 ?_
                exact zv_iret G hr dX10_years_183 (zq_m hz (by decide))
              · have b_53 : 0 ≤ y5_50.toInt ∧ y5_50.toInt < 2 := ⟨i5_50, z_ltk c_53 rfl⟩
                have k_53 := z_cnle c_53 (a := 2) (b := y5_50.toInt) rfl rfl
                refine zv_iconst (v := 0) G dX10_years_56 (by decide) ?_
                have J_59 : ∀ (n : Nat) (y3_59 : Int64) (y6_59 : Int32) (σ : za_S) (hz : zqy 12 σ0 σ) (i6_59 : 0 ≤ y6_59.toInt) (u6_59 : y6_59.toInt ≤ 10) (hn_59 : (2147483648 - y6_59.toInt).toNat < n), zV p l e (zRm 9 222) s m args below meth c E (za_A E) 8 0 0 (MQ below (va_Qi (fun r σ' => zq 12 σ0 σ') (zB E) (za_A E)) args s 0 0 (za_A E)) 59 [(0, za_O 19 93), (3, za_L y3_59), (5, za_I y5_50), (6, za_I y6_59)] [] σ := by
                  intro n
                  induction n with
                  | zero => intro y3_59 y6_59 σ hz i6_59 u6_59 hn; exact absurd hn (Nat.not_lt_zero _)
                  | succ n ih_59 =>
                    intro y3_59 y6_59 σ hz i6_59 u6_59 hn_59
                    refine zv_iload (j := 3) G dX10_years_59 rfl ?_
                    refine zv_bipush (v := 10) G dX10_years_61 (by decide) ?_
                    refine zv_icmp_ge (tgt := 128) G dX10_years_63 (by decide) (fun c_63 => ?_) (fun c_63 => ?_)
                    · have k_63 := z_cle c_63 (a := 10) (b := y6_59.toInt) rfl rfl
                      obtain ⟨x_128, e_128⟩ : ∃ y : Int32, y = y5_50 + 1 := ⟨_, rfl⟩
                      refine zv_iinc (j := 2) (v := x_128) (lv' := [(5, za_I x_128), (0, za_O 19 93), (3, za_L y3_59), (6, za_I y6_59)]) G dX10_years_128 rfl (by rw [e_128]; rfl) (by decide) rfl ?_
                      first | have q_128 := z_inc9 (by omega) e_128 | skip
                      refine zv_goto (tgt := 50) G dX10_years_131 (by decide) ?_
                      refine zv_sub [1, 2, 0] (lv' := [(0, za_O 19 93), (3, za_L y3_59), (5, za_I x_128)]) rfl ?_
                      exact ih_50 y3_59 x_128 σ hz (by have := z_inc c_53 e_128; omega) (by have := z_inc9 (by omega) e_128; omega) (z_meas c_53 e_128 hn_50)
                    · have b_63 : 0 ≤ y6_59.toInt ∧ y6_59.toInt < 10 := ⟨i6_59, z_ltk c_63 rfl⟩
                      have k_63 := z_cnle c_63 (a := 10) (b := y6_59.toInt) rfl rfl
                      refine zv_iconst (v := 0) G dX10_years_66 (by decide) ?_
                      have J_69 : ∀ (n : Nat) (y3_69 : Int64) (y7_69 : Int32) (σ : za_S) (hz : zqy 12 σ0 σ) (i7_69 : 0 ≤ y7_69.toInt) (u7_69 : y7_69.toInt ≤ 100) (hn_69 : (2147483648 - y7_69.toInt).toNat < n), zV p l e (zRm 9 222) s m args below meth c E (za_A E) 8 0 0 (MQ below (va_Qi (fun r σ' => zq 12 σ0 σ') (zB E) (za_A E)) args s 0 0 (za_A E)) 69 [(0, za_O 19 93), (3, za_L y3_69), (5, za_I y5_50), (6, za_I y6_59), (7, za_I y7_69)] [] σ := by
                        intro n
                        induction n with
                        | zero => intro y3_69 y7_69 σ hz i7_69 u7_69 hn; exact absurd hn (Nat.not_lt_zero _)
                        | succ n ih_69 =>
                          intro y3_69 y7_69 σ hz i7_69 u7_69 hn_69
                          refine zv_iload (j := 4) G dX10_years_69 rfl ?_
                          refine zv_bipush (v := 100) G dX10_years_71 (by decide) ?_
                          refine zv_icmp_ge (tgt := 122) G dX10_years_73 (by decide) (fun c_73 => ?_) (fun c_73 => ?_)
                          · have k_73 := z_cle c_73 (a := 100) (b := y7_69.toInt) rfl rfl
                            obtain ⟨x_122, e_122⟩ : ∃ y : Int32, y = y6_59 + 1 := ⟨_, rfl⟩
                            refine zv_iinc (j := 3) (v := x_122) (lv' := [(6, za_I x_122), (0, za_O 19 93), (3, za_L y3_69), (5, za_I y5_50), (7, za_I y7_69)]) G dX10_years_122 rfl (by rw [e_122]; rfl) (by decide) rfl ?_
                            first | have q_122 := z_inc9 (by omega) e_122 | skip
                            refine zv_goto (tgt := 59) G dX10_years_125 (by decide) ?_
                            refine zv_sub [1, 2, 3, 0] (lv' := [(0, za_O 19 93), (3, za_L y3_69), (5, za_I y5_50), (6, za_I x_122)]) rfl ?_
                            exact ih_59 y3_69 x_122 σ hz (by have := z_inc c_63 e_122; omega) (by have := z_inc9 (by omega) e_122; omega) (z_meas c_63 e_122 hn_59)
                          · have b_73 : 0 ≤ y7_69.toInt ∧ y7_69.toInt < 100 := ⟨i7_69, z_ltk c_73 rfl⟩
                            have k_73 := z_cnle c_73 (a := 100) (b := y7_69.toInt) rfl rfl
                            refine zv_lload_n (j := 1) G dX10_years_76 rfl rfl ?_
                            refine zv_aload_n (j := 0) G dX10_years_77 rfl rfl ?_
                            refine zg_X10_121 G dX10_years_78 ?_
                            refine zv_iload (j := 2) G dX10_years_81 rfl ?_
                            refine zv_iload (j := 3) G dX10_years_83 rfl ?_
                            refine zv_iload (j := 4) G dX10_years_85 rfl ?_
                            refine zv_callSi (as := [za_O 22 100, za_I y5_50, za_I y6_59, za_I y7_69]) G (zc_X10_begins l E 100 y5_50 y6_59 y7_69 σ (by first | assumption | decide | omega | exact hz.2.1.1 | exact hz.2.1.2) (by first | assumption | decide | omega | exact hz.2.1.1 | exact hz.2.1.2)) zk_X10_begins zm_1317 rfl ⟨(Nat.le_of_ble_eq_true rfl), (Nat.le_of_ble_eq_true rfl)⟩ ⟨Nat.zero_le _, Nat.zero_le _⟩ (Nat.le_of_ble_eq_true rfl) dX10_years_87 (fun r_87 σ h_87 => ?_)
                            obtain ⟨h_87, rfl⟩ := h_87
                            refine zv_if_eq (tgt := 113) G dX10_years_90 (by decide) (fun c_90 => ?_) (fun c_90 => ?_)
                            · have f_87 := fun q9 => (h_87.2.mpr q9) c_90
                              refine zv_lconst (v := 0) G dX10_years_113 (by decide) ?_
                              refine zv_ladd G dX10_years_114 ?_
                              refine zv_topl (fun x_115 e_115 => ?_)
                              refine zv_lstore_n (lv' := [(3, za_L x_115), (0, za_O 19 93), (5, za_I y5_50), (6, za_I y6_59), (7, za_I y7_69)]) G dX10_years_115 rfl (by decide) rfl ?_
                              obtain ⟨x_116, e_116⟩ : ∃ y : Int32, y = y7_69 + 1 := ⟨_, rfl⟩
                              refine zv_iinc (j := 4) (v := x_116) (lv' := [(7, za_I x_116), (3, za_L x_115), (0, za_O 19 93), (5, za_I y5_50), (6, za_I y6_59)]) G dX10_years_116 rfl (by rw [e_116]; rfl) (by decide) rfl ?_
                              first | have q_116 := z_inc9 (by omega) e_116 | skip
                              refine zv_goto (tgt := 69) G dX10_years_119 (by decide) ?_
                              refine zv_sub [2, 1, 3, 4, 0] (lv' := [(0, za_O 19 93), (3, za_L x_115), (5, za_I y5_50), (6, za_I y6_59), (7, za_I x_116)]) rfl ?_
                              exact ih_69 x_115 x_116 σ hz (by have := z_inc c_73 e_116; omega) (by have := z_inc9 (by omega) e_116; omega) (z_meas c_73 e_116 hn_69)
                            · have t_87 := h_87.2.mp c_90
                              refine zv_iload (j := 4) G dX10_years_93 rfl ?_
                              refine zv_aload_n (j := 0) G dX10_years_95 rfl rfl ?_
                              refine zg_X10_121 G dX10_years_96 ?_
                              refine zv_iload (j := 2) G dX10_years_99 rfl ?_
                              refine zv_iload (j := 3) G dX10_years_101 rfl ?_
                              refine zv_iload (j := 4) G dX10_years_103 rfl ?_
                              refine zv_callSi (as := [za_O 22 100, za_I y5_50, za_I y6_59, za_I y7_69]) G (zc_X10_valueOn l E 100 y5_50 y6_59 y7_69 σ (by first | assumption | decide | omega | exact hz.2.1.1 | exact hz.2.1.2) (by first | assumption | decide | omega | exact hz.2.1.1 | exact hz.2.1.2) (by first | assumption | decide | omega | exact hz.2.1.1 | exact hz.2.1.2)) zk_X10_valueOn zm_1334 rfl ⟨(Nat.le_of_ble_eq_true rfl), (Nat.le_of_ble_eq_true rfl)⟩ ⟨Nat.zero_le _, Nat.zero_le _⟩ (Nat.le_of_ble_eq_true rfl) dX10_years_105 (fun r_105 σ h_105 => ?_)
                              obtain ⟨h_105, rfl⟩ := h_105
                              refine zv_imul G dX10_years_108 ?_
                              refine zv_i2l G dX10_years_109 ?_
                              refine zv_goto (tgt := 114) G dX10_years_110 (by decide) ?_
                              refine zv_ladd G dX10_years_114 ?_
                              refine zv_topl (fun x_115 e_115 => ?_)
                              refine zv_lstore_n (lv' := [(3, za_L x_115), (0, za_O 19 93), (5, za_I y5_50), (6, za_I y6_59), (7, za_I y7_69)]) G dX10_years_115 rfl (by decide) rfl ?_
                              obtain ⟨x_116, e_116⟩ : ∃ y : Int32, y = y7_69 + 1 := ⟨_, rfl⟩
                              refine zv_iinc (j := 4) (v := x_116) (lv' := [(7, za_I x_116), (3, za_L x_115), (0, za_O 19 93), (5, za_I y5_50), (6, za_I y6_59)]) G dX10_years_116 rfl (by rw [e_116]; rfl) (by decide) rfl ?_
                              first | have q_116 := z_inc9 (by omega) e_116 | skip
                              refine zv_goto (tgt := 69) G dX10_years_119 (by decide) ?_
                              refine zv_sub [2, 1, 3, 4, 0] (lv' := [(0, za_O 19 93), (3, za_L x_115), (5, za_I y5_50), (6, za_I y6_59), (7, za_I x_116)]) rfl ?_
                              exact ih_69 x_115 x_116 σ hz (by have := z_inc c_73 e_116; omega) (by have := z_inc9 (by omega) e_116; omega) (z_meas c_73 e_116 hn_69)
                      refine zv_istore (lv' := [(7, za_I 0), (0, za_O 19 93), (3, za_L y3_59), (5, za_I y5_50), (6, za_I y6_59)]) G dX10_years_67 (by decide) rfl ?_
                      refine zv_sub [1, 2, 3, 4, 0] (lv' := [(0, za_O 19 93), (3, za_L y3_59), (5, za_I y5_50), (6, za_I y6_59), (7, za_I 0)]) rfl ?_
                      exact J_69 _ y3_59 (0 : Int32) σ hz (by decide) (by decide) (Nat.lt_succ_self _)
                refine zv_istore (lv' := [(6, za_I 0), (0, za_O 19 93), (3, za_L y3_50), (5, za_I y5_50)]) G dX10_years_57 (by decide) rfl ?_
                refine zv_sub [1, 2, 3, 0] (lv' := [(0, za_O 19 93), (3, za_L y3_50), (5, za_I y5_50), (6, za_I 0)]) rfl ?_
                exact J_59 _ y3_50 (0 : Int32) σ hz (by decide) (by decide) (Nat.lt_succ_self _)
          refine zv_istore (lv' := [(5, za_I 0), (3, za_L 0), (0, za_O 19 93), (2, za_I nn)]) G dX10_years_48 (by decide) rfl ?_
          refine zv_sub [2, 1, 0] (lv' := [(0, za_O 19 93), (3, za_L 0), (5, za_I 0)]) rfl ?_
          exact J_50 _ 0 (0 : Int32) σ hz (by decide) (by decide) (Nat.lt_succ_self _)
        · have k_32 := z_cnle c_32 (a := nn.toInt) (b := y3_30.toInt) rfl rfl
          refine zv_aload_n (j := 0) G dX10_years_35 rfl rfl ?_
          refine zv_callVv (as := []) G (by decide) rfl rfl (zc_X10_drawnAct l E  σ hz.2) zk_X10_drawnAct zm_1710 rfl ⟨(Nat.le_of_ble_eq_true rfl), (Nat.le_of_ble_eq_true rfl)⟩ ⟨Nat.zero_le _, Nat.zero_le _⟩ (Nat.le_of_ble_eq_true rfl) dX10_years_36 (fun σ h_36 => ?_)
          have hz := zqy_d hz h_36
          obtain ⟨x_39, e_39⟩ : ∃ y : Int32, y = y3_30 + 1 := ⟨_, rfl⟩
          refine zv_iinc (j := 2) (v := x_39) (lv' := [(3, za_I x_39), (0, za_O 19 93), (2, za_I nn)]) G dX10_years_39 rfl (by rw [e_39]; rfl) (by decide) rfl ?_
          first | have q_39 := z_inc9 (by omega) e_39 | skip
          refine zv_goto (tgt := 30) G dX10_years_42 (by decide) ?_
          refine zv_sub [1, 2, 0] (lv' := [(0, za_O 19 93), (2, za_I nn), (3, za_I x_39)]) rfl ?_
          exact ih_30 x_39 σ hz (by have := z_inc c_32 e_39; omega) (z_meas c_32 e_39 hn_30)
    refine zv_istore_n (lv' := [(3, za_I 0), (0, za_O 19 93), (1, za_I sd), (2, za_I nn)]) G dX10_years_29 rfl (by decide) rfl ?_
    refine zv_sub [1, 3, 0] (lv' := [(0, za_O 19 93), (2, za_I nn), (3, za_I 0)]) rfl ?_
    exact J_30 _ (0 : Int32) σ hz (by decide) (Nat.lt_succ_self _)
  · have f_11 := fun q9 => (h_11.2.mpr q9) c_14
    refine zv_iconst (v := (-1)) G dX10_years_17 (by decide) ?_
    exact zv_iret G hr dX10_years_18 (zq_m hz (by decide))
