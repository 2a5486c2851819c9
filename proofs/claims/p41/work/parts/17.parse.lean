/-! ===== the reference reads a text ===== -/
section ZP
variable {p : Program} {l : Launch} {e : Env} {R : Room} {s : State} {m : MethodId} {args : Array Value} {below : List Frame} {meth : Method} {c : Code} {cells slots : Nat} {Q : State → Prop}
variable {E : za_E} {A : Nat → Prop} {nL : Nat} {cc : ByteArray} {own : String}
variable {pc : Nat} {lv lv' : List (Nat × za_V)} {st : List za_V} {σ : za_S}
theorem zv_aaldR (G : zC p s m args meth c cc own nL E A) {kd w n b r kd2 : Nat} {i : Int32} (hk : kd < 50) (hk2 : kd2 < 50) (he : za_e E (σ.1 w) (σ.2 w) kd w = .inl (E.2.2.1 5, n, .inr (.inr (.inr (.inr (fun i => some (E.1 + (b + r * i)))))))) (hi : vp_in i n) (hok : ∀ j, j < n → za_kd (b + r * j) = kd2) (hd : decode cc pc = .ok (.aaload, 1)) (k : zV p l e R s m args below meth c E A nL cells slots Q (pc + 1) lv (za_O kd2 (b + r * i.toNatClampNeg) :: st) σ) : zV p l e R s m args below meth c E A nL cells slots Q pc lv (za_I i :: za_O kd w :: st) σ := by
  intro H locs ls ho hs hP hS hl
  have hw := (List.forall_mem_cons.mp (List.forall_mem_cons.mp hs).2).1
  have hw1 : za_kd w = kd := za_okO hk hw
  have hc9 : za_c E (za_O kd w) = .ref (E.1 + w) := za_cO hk
  have hat := za_w_at (E := E) (σ := σ) (za_kd_lt hw1 (by omega))
  rw [hw1, he] at hat
  rw [List.map_cons, List.map_cons, hc9]
  have hj : i.toNatClampNeg < n := Nat.not_le.mp fun q => hi (Or.inr q)
  have hok1 : za_ok (za_O kd2 (b + r * i.toNatClampNeg)) := za_okM hk2 (hok _ hj)
  have h9 := k H locs ls ho (za_fm hok1 (List.forall_mem_cons.mp (List.forall_mem_cons.mp hs).2).2) hP hS hl
  rw [List.map_cons, za_cO hk2] at h9
  refine W.aald (v := .ref (E.1 + (b + r * i.toNatClampNeg))) (ty := .array .int) G.1 G.2.1 (hP w _ hat) ((G.2.2.2.2.2.1.1.2 5 (E.2.2.1 5, .array .int) rfl).1 n (fun j => va_rf (some (E.1 + (b + r * j))))) rfl (fun q => by cases q) ?_ ?_ rfl rfl hd h9
  · show ¬ (i < 0 ∨ (arrV _ _ _).slots.size ≤ _)
    rw [arrV_size]
    exact hi
  · show (arrV _ _ _).slots[_]? = _
    rw [arrV_read _ _ hj]
    rfl
end ZP
def zpo (σ : za_S) : Prop := 0 ≤ (σ.1 93 5).toInt ∧ (σ.1 93 5).toInt ≤ (σ.1 93 6).toInt ∧ (σ.1 93 6).toInt ≤ 80
theorem z_mn2 {x a b : Int32} (e : x = if b < a then b else a) (ha : 0 ≤ a.toInt) (hb : 0 ≤ b.toInt) : 0 ≤ x.toInt ∧ x.toInt ≤ b.toInt := by
  rw [e]
  split
  · exact ⟨hb, Int.le_refl _⟩
  · rename_i h
    rw [z_lt] at h
    omega
def zaf (σ0 σ : za_S) : Prop := (∀ w, w ≠ 93 → σ.1 w = σ0.1 w) ∧ σ.2 = σ0.2 ∧ ∀ j, j ≠ 5 → σ.1 93 j = σ0.1 93 j
theorem zaf_r (σ : za_S) : zaf σ σ := ⟨fun _ _ => rfl, rfl, fun _ _ => rfl⟩
theorem zaf_w {σ0 σ : za_S} {x : Int32} (h : zaf σ0 σ) : zaf σ0 (za_si σ 93 5 x) := ⟨fun w hw => by rw [(za_si_off w hw).1]; exact h.1 w hw, h.2.1, fun j hj => by rw [za_si_ne _ _ (Or.inr hj)]; exact h.2.2 j hj⟩
theorem zaf_t {a b d : za_S} (h : zaf a b) (k : zaf b d) : zaf a d := ⟨fun w hw => (k.1 w hw).trans (h.1 w hw), k.2.1.trans h.2.1, fun j hj => (k.2.2 j hj).trans (h.2.2 j hj)⟩
/-- at least so many signs further -/
def zat (k : Int) (σ0 σ : za_S) : Prop := zaf σ0 σ ∧ (σ0.1 93 5).toInt + k ≤ (σ.1 93 5).toInt ∧ (σ.1 93 5).toInt ≤ (σ0.1 93 6).toInt
theorem zat_r {σ : za_S} (h : zpo σ) : zat 0 σ σ := ⟨zaf_r σ, by omega, h.2.1⟩
theorem zat_t {k k' : Int} {a b d : za_S} (h : zat k a b) (q : zat k' b d) : zat (k + k') a d := ⟨zaf_t h.1 q.1, by have h1 := h.2.1; have h2 := q.2.1; omega, by have h1 := q.2.2; rw [h.1.2.2 6 (by decide)] at h1; exact h1⟩
theorem zat_m {k k' : Int} {a b : za_S} (h : zat k a b) (q : k' ≤ k) : zat k' a b := ⟨h.1, by have h1 := h.2.1; omega, h.2.2⟩
theorem zat_i {k : Int} {σ0 σ : za_S} (h : zat k σ0 σ) (ho : zpo σ0) (hk : 0 ≤ k) (hl : (σ.1 93 5).toInt < (σ.1 93 6).toInt) : zat (k + 1) σ0 (za_si σ 93 5 (σ.1 93 5 + 1)) := by
  have e6 := h.1.2.2 6 (by decide)
  have h1 := h.2.1
  have h2 := h.2.2
  obtain ⟨o1, o2, o3⟩ := ho
  rw [e6] at hl
  have e : (σ.1 93 5 + 1).toInt = (σ.1 93 5).toInt + 1 := by rw [z_add (by rw [z_one]; omega) (by rw [z_one]; omega), z_one]
  refine ⟨zaf_w h.1, ?_, ?_⟩
  · rw [za_si_same, e]; omega
  · rw [za_si_same, e]; omega
theorem zat_o {k : Int} {σ0 σ : za_S} (h : zat k σ0 σ) (hk : 0 ≤ k) (ho : zpo σ0) : zpo σ := by
  have e6 := h.1.2.2 6 (by decide)
  obtain ⟨o1, o2, o3⟩ := ho
  have h1 := h.2.1
  have h2 := h.2.2
  unfold zpo
  rw [e6]
  omega
def zdg (σ : za_S) : Prop := (σ.1 93 5).toInt < (σ.1 93 6).toInt ∧ 48 ≤ (σ.1 95 (σ.1 93 5).toNatClampNeg).toInt ∧ (σ.1 95 (σ.1 93 5).toNatClampNeg).toInt ≤ 57
theorem z_tin {σ : za_S} (h : zpo σ) (c : ¬ σ.1 93 6 ≤ σ.1 93 5) : vp_in (σ.1 93 5) 80 := by
  rw [z_le] at c
  exact z_in h.1 (by have h2 := h.2.2; omega)
theorem z_tk {a r b : Int32} (ha : 0 ≤ a.toInt ∧ a.toInt ≤ 80) (hb : b = 0 ∨ b = 1) (h : (r = 0 ∨ r = 1) ∧ r = if b = 0 then 0 else 1) : (a + r).toInt = a.toInt + b.toInt := by
  have e : r = b := by rcases hb with rfl | rfl <;> exact h.2
  rw [e]
  have h1 : 0 ≤ b.toInt ∧ b.toInt ≤ 1 := by rcases hb with rfl | rfl <;> decide
  exact z_add (by omega) (by omega)
theorem z_dgt {x v t : Int32} (e : x = 10 * v + t - 48) (hv : 0 ≤ v.toInt ∧ v.toInt ≤ 99) (ht : 48 ≤ t.toInt ∧ t.toInt ≤ 57) : x.toInt = 10 * v.toInt + t.toInt - 48 := by
  have h10 : (10 : Int32).toInt = 10 := by decide
  have h48 : (48 : Int32).toInt = 48 := by decide
  have h1 : (10 * v).toInt = 10 * v.toInt := by rw [z_mul (by rw [h10]; omega) (by rw [h10]; omega), h10]
  have h2 : (10 * v + t).toInt = 10 * v.toInt + t.toInt := by rw [z_add (by rw [h1]; omega) (by rw [h1]; omega), h1]
  rw [e, z_sub (by rw [h2, h48]; omega) (by rw [h2, h48]; omega), h2, h48]
set_option maxHeartbeats 4000000 in
set_option maxRecDepth 100000 in
theorem zc_X10_reads (l : Launch) (E : za_E) (mo : Int32) (σ0 : za_S) (h0 : 0 ≤ (σ0.1 93 4).toInt) (hm : 0 ≤ mo.toInt) : zMi l E yX10_reads cX10_reads 3 (Option.some Jvm.ClassFile.FieldType.int) 1 21 [za_O 19 93, za_I mo] σ0 (fun r σ' => r = σ0.1 93 4 ∧ ∃ x, (0 ≤ x.toInt ∧ x.toInt ≤ mo.toInt) ∧ σ' = za_si (za_si (za_si (za_si σ0 93 4 0) 93 5 0) 93 7 0) 93 6 x) := by
  refine zMi_of [(0, za_O 19 93), (1, za_I mo)] (by decide) rfl rfl (Nat.le_of_ble_eq_true rfl) ?_
  intro ho p e s m args below meth c G hr
  refine zv_aload_n (j := 0) G dX10_reads_0 rfl rfl ?_
  refine zg_X10_18 G dX10_reads_1 ?_
  refine zv_top (fun x_4 e_4 => ?_)
  refine zv_istore_n (lv' := [(2, za_I x_4), (0, za_O 19 93), (1, za_I mo)]) G dX10_reads_4 rfl (by decide) rfl ?_
  refine zv_aload_n (j := 1) G dX10_reads_5 rfl rfl ?_
  refine zv_iconst (v := 0) G dX10_reads_6 (by decide) ?_
  refine zp_X10_18 G dX10_reads_7 ?_
  refine zv_aload_n (j := 1) G dX10_reads_10 rfl rfl ?_
  refine zv_iconst (v := 0) G dX10_reads_11 (by decide) ?_
  refine zp_X10_29 G dX10_reads_12 ?_
  refine zv_aload_n (j := 1) G dX10_reads_15 rfl rfl ?_
  refine zv_iconst (v := 0) G dX10_reads_16 (by decide) ?_
  refine zp_X10_32 G dX10_reads_17 ?_
  refine zv_aload_n (j := 1) G dX10_reads_20 rfl rfl ?_
  refine zv_iload_n (j := 0) G dX10_reads_21 rfl rfl ?_
  refine zv_iload_n (j := 2) G dX10_reads_22 rfl rfl ?_
  refine zv_mmin G zm_1354 zm_392 zm_147 zm_393 (Nat.le_of_ble_eq_true rfl) (Nat.le_of_ble_eq_true rfl) (Nat.zero_le _) (Nat.zero_le _) dX10_reads_23 ?_
  refine zv_top (fun x_23 e_23 => ?_)
  refine zp_X10_41 G dX10_reads_26 ?_
  refine zv_iload_n (j := 0) G dX10_reads_29 rfl rfl ?_
  exact zv_iret G hr dX10_reads_30 ⟨e_4, x_23, z_mn2 e_23 (by rw [e_4]; exact h0) hm, rfl⟩
set_option maxHeartbeats 4000000 in
set_option maxRecDepth 100000 in
theorem zc_X10_takes (l : Launch) (E : za_E) (sg : Int32) (σ0 : za_S) (hp : zpo σ0) : zMi l E yX10_takes cX10_takes 3 (Option.some Jvm.ClassFile.FieldType.boolean) 2 41 [za_O 19 93, za_I sg] σ0 (fun r σ' => (r = 0 ∨ r = 1) ∧ zaf σ0 σ' ∧ (σ'.1 93 5).toInt = (σ0.1 93 5).toInt + r.toInt ∧ (r = 1 → (σ0.1 93 5).toInt < (σ0.1 93 6).toInt)) := by
  refine zMi_of [(0, za_O 19 93), (1, za_I sg)] (by decide) rfl rfl (Nat.le_of_ble_eq_true rfl) ?_
  intro ho p e s m args below meth c G hr
  refine zv_aload_n (j := 0) G dX10_takes_0 rfl rfl ?_
  refine zg_X10_29 G dX10_takes_1 ?_
  refine zv_aload_n (j := 0) G dX10_takes_4 rfl rfl ?_
  refine zg_X10_41 G dX10_takes_5 ?_
  have J_29 : ∀ (s0_29 : Int32) (w_29 : s0_29 = 1 → (σ0.1 93 5).toInt < (σ0.1 93 6).toInt) (bs0_29 : s0_29 = 0 ∨ s0_29 = 1), zV p l e (zRm 2 41) s m args below meth c E (za_A E) 3 0 0 (MQ below (va_Qi (fun r σ' => (r = 0 ∨ r = 1) ∧ zaf σ0 σ' ∧ (σ'.1 93 5).toInt = (σ0.1 93 5).toInt + r.toInt ∧ (r = 1 → (σ0.1 93 5).toInt < (σ0.1 93 6).toInt)) (zB E) (za_A E)) args s 0 0 (za_A E)) 29 [(0, za_O 19 93)] [za_I s0_29] σ0 := by
    intro s0_29 w_29 bs0_29
    refine zv_istore_n (lv' := [(2, za_I s0_29), (0, za_O 19 93)]) G dX10_takes_29 rfl (by decide) rfl ?_
    refine zv_aload_n (j := 1) G dX10_takes_30 rfl rfl ?_
    refine zv_dupO G dX10_takes_31 ?_
    refine zg_X10_29 G dX10_takes_32 ?_
    refine zv_iload_n (j := 0) G dX10_takes_35 rfl rfl ?_
    refine zv_callSi (as := [za_I s0_29]) G (zc_X10_flag l E s0_29 σ0 ) zk_X10_flag zm_1351 rfl ⟨(Nat.le_of_ble_eq_true rfl), (Nat.le_of_ble_eq_true rfl)⟩ ⟨Nat.zero_le _, Nat.zero_le _⟩ (Nat.le_of_ble_eq_true rfl) dX10_takes_36 (fun r_36 σ h_36 => ?_)
    obtain ⟨h_36, e9⟩ := h_36
    rw [e9]
    clear e9 σ
    refine zv_iadd G dX10_takes_39 ?_
    refine zp_X10_29 G dX10_takes_40 ?_
    refine zv_iload_n (j := 0) G dX10_takes_43 rfl rfl ?_
    exact zv_zret G hr dX10_takes_44 (z_nar bs0_29) ⟨bs0_29, zaf_w (zaf_r σ0), by rw [za_si_same]; exact z_tk ⟨hp.1, by have h1 := hp.2; omega⟩ bs0_29 h_36, w_29⟩
  have J_28 : zV p l e (zRm 2 41) s m args below meth c E (za_A E) 3 0 0 (MQ below (va_Qi (fun r σ' => (r = 0 ∨ r = 1) ∧ zaf σ0 σ' ∧ (σ'.1 93 5).toInt = (σ0.1 93 5).toInt + r.toInt ∧ (r = 1 → (σ0.1 93 5).toInt < (σ0.1 93 6).toInt)) (zB E) (za_A E)) args s 0 0 (za_A E)) 28 [(0, za_O 19 93)] [] σ0 := by
    refine zv_iconst (v := 0) G dX10_takes_28 (by decide) ?_
    refine zv_sub [0] (lv' := [(0, za_O 19 93)]) rfl ?_
    exact J_29 (0 : Int32) (by first | exact fun h => absurd h (by decide) | exact fun _ => by rw [z_le] at c_8; omega) (Or.inl rfl)
  refine zv_icmp_ge (tgt := 28) G dX10_takes_8 (by decide) (fun c_8 => ?_) (fun c_8 => ?_)
  · refine zv_sub [0] (lv' := [(0, za_O 19 93)]) rfl ?_
    exact J_28
  · refine zv_aload_n (j := 0) G dX10_takes_11 rfl rfl ?_
    refine zg_X10_21 G dX10_takes_12 ?_
    refine zv_aload_n (j := 0) G dX10_takes_15 rfl rfl ?_
    refine zg_X10_29 G dX10_takes_16 ?_
    refine zv_iald G (by decide) rfl (z_tin hp c_8) dX10_takes_19 ?_
    refine zv_iload_n (j := 1) G dX10_takes_20 rfl rfl ?_
    refine zv_icmp_ne (tgt := 28) G dX10_takes_21 (by decide) (fun c_21 => ?_) (fun c_21 => ?_)
    · refine zv_sub [0] (lv' := [(0, za_O 19 93)]) rfl ?_
      exact J_28
    · refine zv_iconst (v := 1) G dX10_takes_24 (by decide) ?_
      refine zv_goto (tgt := 29) G dX10_takes_25 (by decide) ?_
      refine zv_sub [0] (lv' := [(0, za_O 19 93)]) rfl ?_
      exact J_29 (1 : Int32) (by first | exact fun h => absurd h (by decide) | exact fun _ => by rw [z_le] at c_8; omega) (Or.inr rfl)
set_option maxHeartbeats 4000000 in
set_option maxRecDepth 100000 in
theorem zc_X10_isDigit (l : Launch) (E : za_E)  (σ : za_S) (hp : zpo σ) : zMi l E yX10_isDigit cX10_isDigit 1 (Option.some Jvm.ClassFile.FieldType.boolean) 2 46 [za_O 19 93] σ (fun r σ' => ((r = 0 ∨ r = 1) ∧ (¬ r = 0 ↔ zdg σ)) ∧ σ' = σ) := by
  refine zMi_of [(0, za_O 19 93)] (by decide) rfl rfl (Nat.le_of_ble_eq_true rfl) ?_
  intro ho p e s m args below meth c G hr
  refine zv_aload_n (j := 0) G dX10_isDigit_0 rfl rfl ?_
  refine zg_X10_29 G dX10_isDigit_1 ?_
  refine zv_aload_n (j := 0) G dX10_isDigit_4 rfl rfl ?_
  refine zg_X10_41 G dX10_isDigit_5 ?_
  refine zv_icmp_ge (tgt := 37) G dX10_isDigit_8 (by decide) (fun c_8 => ?_) (fun c_8 => ?_)
  · refine zv_iconst (v := 0) G dX10_isDigit_37 (by decide) ?_
    exact zv_zret G hr dX10_isDigit_38 (by decide) ⟨⟨Or.inl rfl, fun h => absurd rfl h, fun h => False.elim (by first | (rw [z_le] at c_8; have h1 := h.1; omega) | exact f_27 (by have hL := z_lL; have h1 := h.2; rw [z_w]; omega))⟩, rfl⟩
  · refine zv_aload_n (j := 0) G dX10_isDigit_11 rfl rfl ?_
    refine zg_X10_21 G dX10_isDigit_12 ?_
    refine zv_aload_n (j := 0) G dX10_isDigit_15 rfl rfl ?_
    refine zg_X10_29 G dX10_isDigit_16 ?_
    refine zv_iald G (by decide) rfl (z_tin hp c_8) dX10_isDigit_19 ?_
    refine zv_i2l G dX10_isDigit_20 ?_
    refine zv_ldc2 (v := 48) G dX10_isDigit_21 zm_1514 ?_
    refine zv_ldc2 (v := 57) G dX10_isDigit_24 zm_1515 ?_
    refine zv_callSi (as := [za_L ((σ.1 95 (σ.1 93 5).toNatClampNeg).toInt64), za_L 48, za_L 57]) G (zc_X10_in l E ((σ.1 95 (σ.1 93 5).toNatClampNeg).toInt64) 48 57 σ ) zk_X10_in zm_1180 rfl ⟨(Nat.le_of_ble_eq_true rfl), (Nat.le_of_ble_eq_true rfl)⟩ ⟨Nat.zero_le _, Nat.zero_le _⟩ (Nat.le_of_ble_eq_true rfl) dX10_isDigit_27 (fun r_27 σ h_27 => ?_)
    obtain ⟨h_27, rfl⟩ := h_27
    refine zv_if_eq (tgt := 37) G dX10_isDigit_30 (by decide) (fun c_30 => ?_) (fun c_30 => ?_)
    · have f_27 := fun q9 => (h_27.2.mpr q9) c_30
      refine zv_iconst (v := 0) G dX10_isDigit_37 (by decide) ?_
      exact zv_zret G hr dX10_isDigit_38 (by decide) ⟨⟨Or.inl rfl, fun h => absurd rfl h, fun h => False.elim (by first | (rw [z_le] at c_8; have h1 := h.1; omega) | exact f_27 (by have hL := z_lL; have h1 := h.2; rw [z_w]; omega))⟩, rfl⟩
    · have t_27 := h_27.2.mp c_30
      refine zv_iconst (v := 1) G dX10_isDigit_33 (by decide) ?_
      refine zv_goto (tgt := 38) G dX10_isDigit_34 (by decide) ?_
      exact zv_zret G hr dX10_isDigit_38 (by decide) ⟨⟨Or.inr rfl, fun _ => ⟨by rw [z_le] at c_8; omega, by have hL := z_lL; rw [z_w] at t_27; omega⟩, fun _ => by decide⟩, rfl⟩
set_option maxHeartbeats 4000000 in
set_option maxRecDepth 100000 in
theorem zc_X10_takesOf (l : Launch) (E : za_E) (a1 : Nat) (σ0 : za_S) (hp : zpo σ0) : zMi l E yX10_takesOf cX10_takesOf 3 (Option.some Jvm.ClassFile.FieldType.int) 5 106 [za_O 19 93, za_O 50 a1] σ0 (fun r σ' => (r = -1 ∧ zat 0 σ0 σ') ∨ ((0 ≤ r.toInt ∧ r.toInt < (za_len.getD a1 0 : Nat)) ∧ zat 1 σ0 σ')) := by
  refine zMi_of [(0, za_O 19 93), (1, za_O 50 a1)] (by decide) rfl rfl (Nat.le_of_ble_eq_true rfl) ?_
  intro ho p e s m args below meth c G hr
  have hq : a1 < 19 := (List.forall_mem_cons.mp (List.forall_mem_cons.mp ho).2).1
  refine zv_iconst (v := 0) G dX10_takesOf_0 (by decide) ?_
  have J_2 : ∀ (n : Nat) (y2_2 : Int32) (i2_2 : 0 ≤ y2_2.toInt) (hn_2 : (2147483648 - y2_2.toInt).toNat < n), zV p l e (zRm 5 106) s m args below meth c E (za_A E) 3 0 0 (MQ below (va_Qi (fun r σ' => (r = -1 ∧ zat 0 σ0 σ') ∨ ((0 ≤ r.toInt ∧ r.toInt < (za_len.getD a1 0 : Nat)) ∧ zat 1 σ0 σ')) (zB E) (za_A E)) args s 0 0 (za_A E)) 2 [(0, za_O 19 93), (1, za_O 50 a1), (2, za_I y2_2)] [] σ0 := by
    intro n
    induction n with
    | zero => intro y2_2 i2_2 hn; exact absurd hn (Nat.not_lt_zero _)
    | succ n ih_2 =>
      intro y2_2 i2_2 hn_2
      refine zv_iload_n (j := 2) G dX10_takesOf_2 rfl rfl ?_
      refine zv_aload_n (j := 1) G dX10_takesOf_3 rfl rfl ?_
      refine zv_callTi (as := []) G (zc_J0_length_8abf5 l E a1 σ0 ) zk_J0_length_8abf5 zm_1491 rfl ⟨(Nat.le_of_ble_eq_true rfl), (Nat.le_of_ble_eq_true rfl)⟩ ⟨Nat.zero_le _, Nat.zero_le _⟩ (Nat.le_of_ble_eq_true rfl) dX10_takesOf_4 (fun r_4 σ h_4 => ?_)
      obtain ⟨h_4, e9⟩ := h_4
      rw [e9]
      clear e9 σ
      refine zv_icmp_ge (tgt := 56) G dX10_takesOf_7 (by decide) (fun c_7 => ?_) (fun c_7 => ?_)
      · refine zv_iconst (v := (-1)) G dX10_takesOf_56 (by decide) ?_
        exact zv_iret G hr dX10_takesOf_57 (Or.inl ⟨rfl, zat_r hp⟩)
      · refine zv_aload_n (j := 0) G dX10_takesOf_10 rfl rfl ?_
        refine zg_X10_29 G dX10_takesOf_11 ?_
        refine zv_aload_n (j := 0) G dX10_takesOf_14 rfl rfl ?_
        refine zg_X10_41 G dX10_takesOf_15 ?_
        refine zv_icmp_ge (tgt := 56) G dX10_takesOf_18 (by decide) (fun c_18 => ?_) (fun c_18 => ?_)
        · refine zv_iconst (v := (-1)) G dX10_takesOf_56 (by decide) ?_
          exact zv_iret G hr dX10_takesOf_57 (Or.inl ⟨rfl, zat_r hp⟩)
        · refine zv_aload_n (j := 1) G dX10_takesOf_21 rfl rfl ?_
          refine zv_iload_n (j := 2) G dX10_takesOf_22 rfl rfl ?_
          refine zv_callTi (as := [za_I y2_2]) G (zc_J0_charAt_5068e l E a1 y2_2 σ0 ⟨i2_2, by rw [← h_4]; rw [z_le] at c_7; omega⟩) zk_J0_charAt_5068e zm_1492 rfl ⟨(Nat.le_of_ble_eq_true rfl), (Nat.le_of_ble_eq_true rfl)⟩ ⟨Nat.zero_le _, Nat.zero_le _⟩ (Nat.le_of_ble_eq_true rfl) dX10_takesOf_23 (fun r_23 σ h_23 => ?_)
          obtain ⟨h_23, e9⟩ := h_23
          rw [e9]
          clear e9 σ
          refine zv_aload_n (j := 0) G dX10_takesOf_26 rfl rfl ?_
          refine zg_X10_21 G dX10_takesOf_27 ?_
          refine zv_aload_n (j := 0) G dX10_takesOf_30 rfl rfl ?_
          refine zg_X10_29 G dX10_takesOf_31 ?_
          refine zv_iald G (by decide) rfl (z_tin hp c_18) dX10_takesOf_34 ?_
          refine zv_icmp_ne (tgt := 50) G dX10_takesOf_35 (by decide) (fun c_35 => ?_) (fun c_35 => ?_)
          · obtain ⟨x_50, e_50⟩ : ∃ y : Int32, y = y2_2 + 1 := ⟨_, rfl⟩
            refine zv_iinc (j := 2) (v := x_50) (lv' := [(2, za_I x_50), (0, za_O 19 93), (1, za_O 50 a1)]) G dX10_takesOf_50 rfl (by rw [e_50]; rfl) (by decide) rfl ?_
            refine zv_goto (tgt := 2) G dX10_takesOf_53 (by decide) ?_
            refine zv_sub [1, 2, 0] (lv' := [(0, za_O 19 93), (1, za_O 50 a1), (2, za_I x_50)]) rfl ?_
            exact ih_2 x_50 (by have := z_inc c_7 e_50; omega) (z_meas c_7 e_50 hn_2)
          · refine zv_aload_n (j := 0) G dX10_takesOf_38 rfl rfl ?_
            refine zv_dupO G dX10_takesOf_39 ?_
            refine zg_X10_29 G dX10_takesOf_40 ?_
            refine zv_iconst (v := 1) G dX10_takesOf_43 (by decide) ?_
            refine zv_iadd G dX10_takesOf_44 ?_
            refine zp_X10_29 G dX10_takesOf_45 ?_
            refine zv_iload_n (j := 2) G dX10_takesOf_48 rfl rfl ?_
            exact zv_iret G hr dX10_takesOf_49 (Or.inr ⟨⟨i2_2, by rw [← z_lenT hq, ← h_4]; rw [z_le] at c_7; omega⟩, zat_i (zat_r hp) hp (by decide) (by rw [z_le] at c_18; omega)⟩)
  refine zv_istore_n (lv' := [(2, za_I 0), (0, za_O 19 93), (1, za_O 50 a1)]) G dX10_takesOf_1 rfl (by decide) rfl ?_
  refine zv_sub [1, 2, 0] (lv' := [(0, za_O 19 93), (1, za_O 50 a1), (2, za_I 0)]) rfl ?_
  exact J_2 _ (0 : Int32) (by decide) (Nat.lt_succ_self _)
set_option maxHeartbeats 4000000 in
set_option maxRecDepth 100000 in
theorem zc_X10_number (l : Launch) (E : za_E) (dg : Int32) (σ0 : za_S) (hp : zpo σ0) (hd : 1 ≤ dg.toInt ∧ dg.toInt ≤ 3) : zMi l E yX10_number cX10_number 4 (Option.some Jvm.ClassFile.FieldType.int) 3 66 [za_O 19 93, za_I dg] σ0 (fun r σ' => (r = -1 ∧ ¬ zdg σ0 ∧ zat 0 σ0 σ') ∨ ((0 ≤ r.toInt ∧ r.toInt ≤ 999) ∧ zat 1 σ0 σ')) := by
  refine zMi_of [(0, za_O 19 93), (1, za_I dg)] (by decide) rfl rfl (Nat.le_of_ble_eq_true rfl) ?_
  intro ho p e s m args below meth c G hr
  refine zv_gen (R9 := (fun σ => σ = σ0)) rfl (fun σ hz => ?_)
  refine zv_aload_n (j := 0) G dX10_number_0 rfl rfl ?_
  refine zv_callVi (as := []) G (by decide) rfl rfl (zc_X10_isDigit l E  σ (by rw [hz]; exact hp)) zk_X10_isDigit zm_1510 rfl ⟨(Nat.le_of_ble_eq_true rfl), (Nat.le_of_ble_eq_true rfl)⟩ ⟨Nat.zero_le _, Nat.zero_le _⟩ (Nat.le_of_ble_eq_true rfl) dX10_number_1 (fun r_1 σ h_1 => ?_)
  obtain ⟨h_1, rfl⟩ := h_1
  refine zv_if_ne (tgt := 9) G dX10_number_4 (by decide) (fun c_4 => ?_) (fun c_4 => ?_)
  · have t_1 := h_1.2.mp c_4
    refine zv_iconst (v := 0) G dX10_number_9 (by decide) ?_
    refine zv_istore_n (lv' := [(2, za_I 0), (0, za_O 19 93), (1, za_I dg)]) G dX10_number_10 rfl (by decide) rfl ?_
    refine zv_iconst (v := 0) G dX10_number_11 (by decide) ?_
    have J_13 : ∀ (n : Nat) (y2_13 : Int32) (y3_13 : Int32) (σ : za_S) (hz : zat y3_13.toInt σ0 σ) (v_13 : (y3_13.toInt = 0 ∧ y2_13.toInt = 0) ∨ (y3_13.toInt = 1 ∧ 0 ≤ y2_13.toInt ∧ y2_13.toInt ≤ 9) ∨ (y3_13.toInt = 2 ∧ 0 ≤ y2_13.toInt ∧ y2_13.toInt ≤ 99) ∨ (y3_13.toInt = 3 ∧ 0 ≤ y2_13.toInt ∧ y2_13.toInt ≤ 999)) (g_13 : y3_13.toInt = 0 → zdg σ) (i3_13 : 0 ≤ y3_13.toInt) (hn_13 : (2147483648 - y3_13.toInt).toNat < n), zV p l e (zRm 3 66) s m args below meth c E (za_A E) 4 0 0 (MQ below (va_Qi (fun r σ' => (r = -1 ∧ ¬ zdg σ0 ∧ zat 0 σ0 σ') ∨ ((0 ≤ r.toInt ∧ r.toInt ≤ 999) ∧ zat 1 σ0 σ')) (zB E) (za_A E)) args s 0 0 (za_A E)) 13 [(0, za_O 19 93), (1, za_I dg), (2, za_I y2_13), (3, za_I y3_13)] [] σ := by
      intro n
      induction n with
      | zero => intro y2_13 y3_13 σ hz v_13 g_13 i3_13 hn; exact absurd hn (Nat.not_lt_zero _)
      | succ n ih_13 =>
        intro y2_13 y3_13 σ hz v_13 g_13 i3_13 hn_13
        refine zv_iload_n (j := 3) G dX10_number_13 rfl rfl ?_
        refine zv_iload_n (j := 1) G dX10_number_14 rfl rfl ?_
        refine zv_icmp_ge (tgt := 59) G dX10_number_15 (by decide) (fun c_15 => ?_) (fun c_15 => ?_)
        · have k_15 := z_cle c_15 (a := dg.toInt) (b := y3_13.toInt) rfl rfl
          refine zv_iload_n (j := 2) G dX10_number_59 rfl rfl ?_
          exact zv_iret G hr dX10_number_60 (Or.inr ⟨by omega, zat_m hz (by first | omega | (have c9 : ¬ y3_13.toInt = 0 := fun h => f_19 (g_13 h); omega))⟩)
        · have k_15 := z_cnle c_15 (a := dg.toInt) (b := y3_13.toInt) rfl rfl
          refine zv_aload_n (j := 0) G dX10_number_18 rfl rfl ?_
          refine zv_callVi (as := []) G (by decide) rfl rfl (zc_X10_isDigit l E  σ (zat_o hz (by omega) hp)) zk_X10_isDigit zm_1510 rfl ⟨(Nat.le_of_ble_eq_true rfl), (Nat.le_of_ble_eq_true rfl)⟩ ⟨Nat.zero_le _, Nat.zero_le _⟩ (Nat.le_of_ble_eq_true rfl) dX10_number_19 (fun r_19 σ h_19 => ?_)
          obtain ⟨h_19, rfl⟩ := h_19
          refine zv_if_eq (tgt := 59) G dX10_number_22 (by decide) (fun c_22 => ?_) (fun c_22 => ?_)
          · have f_19 := fun q9 => (h_19.2.mpr q9) c_22
            refine zv_iload_n (j := 2) G dX10_number_59 rfl rfl ?_
            exact zv_iret G hr dX10_number_60 (Or.inr ⟨by omega, zat_m hz (by first | omega | (have c9 : ¬ y3_13.toInt = 0 := fun h => f_19 (g_13 h); omega))⟩)
          · have t_19 := h_19.2.mp c_22
            refine zv_bipush (v := 10) G dX10_number_25 (by decide) ?_
            refine zv_iload_n (j := 2) G dX10_number_27 rfl rfl ?_
            refine zv_imul G dX10_number_28 ?_
            refine zv_aload_n (j := 0) G dX10_number_29 rfl rfl ?_
            refine zg_X10_21 G dX10_number_30 ?_
            refine zv_aload_n (j := 0) G dX10_number_33 rfl rfl ?_
            refine zg_X10_29 G dX10_number_34 ?_
            refine zv_iald G (by decide) rfl (z_tin (zat_o hz (by omega) hp) (by rw [z_le]; have h9 := t_19.1; omega)) dX10_number_37 ?_
            refine zv_iadd G dX10_number_38 ?_
            refine zv_bipush (v := 48) G dX10_number_39 (by decide) ?_
            refine zv_isub G dX10_number_41 ?_
            refine zv_top (fun x_42 e_42 => ?_)
            first | have q_42 := z_subf e_42 (a := ((10 * y2_13) + (σ.1 95 (σ.1 93 5).toNatClampNeg)).toInt) (b := 48) rfl rfl (by omega) (by omega) | skip
            refine zv_istore_n (lv' := [(2, za_I x_42), (0, za_O 19 93), (1, za_I dg), (3, za_I y3_13)]) G dX10_number_42 rfl (by decide) rfl ?_
            refine zv_aload_n (j := 1) G dX10_number_43 rfl rfl ?_
            refine zv_dupO G dX10_number_44 ?_
            refine zg_X10_29 G dX10_number_45 ?_
            refine zv_iconst (v := 1) G dX10_number_48 (by decide) ?_
            refine zv_iadd G dX10_number_49 ?_
            refine zp_X10_29 G dX10_number_50 ?_
            refine zv_gen (R9 := (zat (y3_13.toInt + 1) σ0)) (zat_i hz hp (by omega) t_19.1) (fun σ hz => ?_)
            obtain ⟨x_53, e_53⟩ : ∃ y : Int32, y = y3_13 + 1 := ⟨_, rfl⟩
            refine zv_iinc (j := 3) (v := x_53) (lv' := [(3, za_I x_53), (2, za_I x_42), (0, za_O 19 93), (1, za_I dg)]) G dX10_number_53 rfl (by rw [e_53]; rfl) (by decide) rfl ?_
            first | have q_53 := z_inc9 (by omega) e_53 | skip
            refine zv_goto (tgt := 13) G dX10_number_56 (by decide) ?_
            refine zv_sub [2, 3, 1, 0] (lv' := [(0, za_O 19 93), (1, za_I dg), (2, za_I x_42), (3, za_I x_53)]) rfl ?_
            exact ih_13 x_42 x_53 σ (by rw [q_53]; exact hz) (by have t9 := t_19.2; have u9 := z_dgt e_42 (by omega) t9; omega) (fun h9 => by omega) (by have := z_inc c_15 e_53; omega) (z_meas c_15 e_53 hn_13)
    refine zv_istore_n (lv' := [(3, za_I 0), (2, za_I 0), (0, za_O 19 93), (1, za_I dg)]) G dX10_number_12 rfl (by decide) rfl ?_
    refine zv_sub [2, 3, 1, 0] (lv' := [(0, za_O 19 93), (1, za_I dg), (2, za_I 0), (3, za_I 0)]) rfl ?_
    exact J_13 _ (0 : Int32) (0 : Int32) σ (by rw [hz]; exact zat_r hp) (by decide) (fun _ => t_1) (by decide) (Nat.lt_succ_self _)
  · have f_1 := fun q9 => (h_1.2.mpr q9) c_4
    refine zv_iconst (v := (-1)) G dX10_number_7 (by decide) ?_
    exact zv_iret G hr dX10_number_8 (Or.inl ⟨rfl, fun h => f_1 (by rw [hz]; exact h), by rw [hz]; exact zat_r hp⟩)
set_option maxHeartbeats 4000000 in
set_option maxRecDepth 100000 in
theorem zc_X10_two (l : Launch) (E : za_E)  (σ0 : za_S) (hp : zpo σ0) : zMi l E yX10_two cX10_two 3 (Option.some Jvm.ClassFile.FieldType.int) 4 89 [za_O 19 93] σ0 (fun r σ' => zat 0 σ0 σ') := by
  refine zMi_of [(0, za_O 19 93)] (by decide) rfl rfl (Nat.le_of_ble_eq_true rfl) ?_
  intro ho p e s m args below meth c G hr
  refine zv_gen (R9 := zat 0 σ0) (zat_r hp) (fun σ hz => ?_)
  refine zv_aload_n (j := 0) G dX10_two_0 rfl rfl ?_
  refine zv_iconst (v := 1) G dX10_two_1 (by decide) ?_
  refine zv_callVi (as := [za_I 1]) G (by decide) rfl rfl (zc_X10_number l E (1 : Int32) σ (zat_o hz (by decide) hp) (by decide)) zk_X10_number zm_1506 rfl ⟨(Nat.le_of_ble_eq_true rfl), (Nat.le_of_ble_eq_true rfl)⟩ ⟨Nat.zero_le _, Nat.zero_le _⟩ (Nat.le_of_ble_eq_true rfl) dX10_two_2 (fun r_2 σ h_2 => ?_)
  have hz : zat 0 σ0 σ := by rcases h_2 with ⟨-, -, k9⟩ | ⟨-, k9⟩ <;> exact zat_m (zat_t hz k9) (by decide)
  refine zv_istore_n (lv' := [(1, za_I r_2), (0, za_O 19 93)]) G dX10_two_5 rfl (by decide) rfl ?_
  refine zv_iload_n (j := 0) G dX10_two_6 rfl rfl ?_
  have J_19 : ∀ (s0_19 : Int32) (σ : za_S) (hz : zat 0 σ0 σ), zV p l e (zRm 4 89) s m args below meth c E (za_A E) 3 0 0 (MQ below (va_Qi (fun r σ' => zat 0 σ0 σ') (zB E) (za_A E)) args s 0 0 (za_A E)) 19 [(1, za_I r_2)] [za_I s0_19] σ := by
    intro s0_19 σ hz
    refine zv_istore_n (lv' := [(2, za_I s0_19), (1, za_I r_2)]) G dX10_two_19 rfl (by decide) rfl ?_
    refine zv_iload_n (j := 0) G dX10_two_20 rfl rfl ?_
    refine zv_if_ge (tgt := 28) G dX10_two_21 (by decide) (fun c_21 => ?_) (fun c_21 => ?_)
    · have k_21 := z_cle c_21 (a := 0) (b := s0_19.toInt) rfl rfl
      refine zv_bipush (v := 10) G dX10_two_28 (by decide) ?_
      refine zv_iload_n (j := 1) G dX10_two_30 rfl rfl ?_
      refine zv_imul G dX10_two_31 ?_
      refine zv_iload_n (j := 0) G dX10_two_32 rfl rfl ?_
      refine zv_iadd G dX10_two_33 ?_
      exact zv_iret G hr dX10_two_34 hz
    · have k_21 := z_cnle c_21 (a := 0) (b := s0_19.toInt) rfl rfl
      refine zv_iconst (v := (-1)) G dX10_two_24 (by decide) ?_
      refine zv_goto (tgt := 34) G dX10_two_25 (by decide) ?_
      exact zv_iret G hr dX10_two_34 hz
  refine zv_if_ge (tgt := 14) G dX10_two_7 (by decide) (fun c_7 => ?_) (fun c_7 => ?_)
  · have k_7 := z_cle c_7 (a := 0) (b := r_2.toInt) rfl rfl
    refine zv_aload_n (j := 1) G dX10_two_14 rfl rfl ?_
    refine zv_iconst (v := 1) G dX10_two_15 (by decide) ?_
    refine zv_callVi (as := [za_I 1]) G (by decide) rfl rfl (zc_X10_number l E (1 : Int32) σ (zat_o hz (by decide) hp) (by decide)) zk_X10_number zm_1506 rfl ⟨(Nat.le_of_ble_eq_true rfl), (Nat.le_of_ble_eq_true rfl)⟩ ⟨Nat.zero_le _, Nat.zero_le _⟩ (Nat.le_of_ble_eq_true rfl) dX10_two_16 (fun r_16 σ h_16 => ?_)
    have hz : zat 0 σ0 σ := by rcases h_16 with ⟨-, -, k9⟩ | ⟨-, k9⟩ <;> exact zat_m (zat_t hz k9) (by decide)
    refine zv_sub [0] (lv' := [(1, za_I r_2)]) rfl ?_
    exact J_19 r_16 σ hz
  · have k_7 := z_cnle c_7 (a := 0) (b := r_2.toInt) rfl rfl
    refine zv_iconst (v := (-1)) G dX10_two_10 (by decide) ?_
    refine zv_goto (tgt := 19) G dX10_two_11 (by decide) ?_
    refine zv_sub [0] (lv' := [(1, za_I r_2)]) rfl ?_
    exact J_19 (-1) σ hz
set_option maxHeartbeats 4000000 in
set_option maxRecDepth 100000 in
theorem zc_X10_faultOf (l : Launch) (E : za_E) (n9 : Int32) (mo : Int32) (is : Int32) (σ : za_S) (hp : zpo σ) (hm : 0 ≤ mo.toInt ∧ mo.toInt ≤ 80) : zMi l E yX10_faultOf cX10_faultOf 5 (Option.some Jvm.ClassFile.FieldType.int) 1 21 [za_O 19 93, za_I n9, za_I mo, za_I is] σ (fun r σ' => (0 ≤ r.toInt → ¬ is = 0) ∧ σ' = σ) := by
  refine zMi_of [(0, za_O 19 93), (1, za_I n9), (2, za_I mo), (3, za_I is)] (by decide) rfl rfl (Nat.le_of_ble_eq_true rfl) ?_
  intro ho p e s m args below meth c G hr
  refine zv_iload_n (j := 3) G dX10_faultOf_0 rfl rfl ?_
  have J_20 : ∀ (s0_20 : Int32) (w_20 : s0_20 = 0 ∨ ¬ is = 0), zV p l e (zRm 1 21) s m args below meth c E (za_A E) 5 0 0 (MQ below (va_Qi (fun r σ' => (0 ≤ r.toInt → ¬ is = 0) ∧ σ' = σ) (zB E) (za_A E)) args s 0 0 (za_A E)) 20 [(0, za_O 19 93), (1, za_I n9), (2, za_I mo)] [za_I s0_20] σ := by
    intro s0_20 w_20
    refine zv_istore (lv' := [(4, za_I s0_20), (0, za_O 19 93), (1, za_I n9), (2, za_I mo)]) G dX10_faultOf_20 (by decide) rfl ?_
    refine zv_iload_n (j := 2) G dX10_faultOf_22 rfl rfl ?_
    refine zv_iload_n (j := 3) G dX10_faultOf_23 rfl rfl ?_
    have J_44 : zV p l e (zRm 1 21) s m args below meth c E (za_A E) 5 0 0 (MQ below (va_Qi (fun r σ' => (0 ≤ r.toInt → ¬ is = 0) ∧ σ' = σ) (zB E) (za_A E)) args s 0 0 (za_A E)) 44 [(0, za_O 19 93), (4, za_I s0_20)] [] σ := by
      refine zv_iload (j := 1) G dX10_faultOf_44 rfl ?_
      refine zv_if_eq (tgt := 53) G dX10_faultOf_46 (by decide) (fun c_46 => ?_) (fun c_46 => ?_)
      · have k_46 := z_ceq c_46 (a := s0_20.toInt) (b := 0) rfl rfl
        refine zv_iconst (v := (-1)) G dX10_faultOf_53 (by decide) ?_
        refine zv_aload_n (j := 0) G dX10_faultOf_54 rfl rfl ?_
        refine zg_X10_29 G dX10_faultOf_55 ?_
        refine zv_isub G dX10_faultOf_58 ?_
        exact zv_iret G hr dX10_faultOf_59 ⟨(fun h => absurd h (by have hL := z_lits; have o9 := hp; unfold zpo at o9; rw [z_sub (by omega) (by omega)]; omega)), rfl⟩
      · have k_46 := z_cne c_46 (a := s0_20.toInt) (b := 0) rfl rfl
        refine zv_iconst (v := 0) G dX10_faultOf_49 (by decide) ?_
        refine zv_goto (tgt := 59) G dX10_faultOf_50 (by decide) ?_
        exact zv_iret G hr dX10_faultOf_59 ⟨(fun _ => w_20.resolve_left c_46), rfl⟩
    refine zv_icmp_le (tgt := 44) G dX10_faultOf_24 (by decide) (fun c_24 => ?_) (fun c_24 => ?_)
    · have k_24 := z_cle c_24 (a := n9.toInt) (b := mo.toInt) rfl rfl
      refine zv_sub [1, 0] (lv' := [(0, za_O 19 93), (4, za_I s0_20)]) rfl ?_
      exact J_44
    · have k_24 := z_cnle c_24 (a := n9.toInt) (b := mo.toInt) rfl rfl
      refine zv_iload (j := 0) G dX10_faultOf_27 rfl ?_
      refine zv_if_ne (tgt := 40) G dX10_faultOf_29 (by decide) (fun c_29 => ?_) (fun c_29 => ?_)
      · have k_29 := z_cne c_29 (a := s0_20.toInt) (b := 0) rfl rfl
        refine zv_iconst (v := (-1)) G dX10_faultOf_40 (by decide) ?_
        refine zv_iload_n (j := 3) G dX10_faultOf_41 rfl rfl ?_
        refine zv_isub G dX10_faultOf_42 ?_
        exact zv_iret G hr dX10_faultOf_43 ⟨(fun h => absurd h (by have hL := z_lits; rw [z_sub (by omega) (by omega)]; omega)), rfl⟩
      · have k_29 := z_ceq c_29 (a := s0_20.toInt) (b := 0) rfl rfl
        refine zv_aload_n (j := 1) G dX10_faultOf_32 rfl rfl ?_
        refine zg_X10_29 G dX10_faultOf_33 ?_
        refine zv_iload_n (j := 3) G dX10_faultOf_36 rfl rfl ?_
        refine zv_icmp_lt (tgt := 44) G dX10_faultOf_37 (by decide) (fun c_37 => ?_) (fun c_37 => ?_)
        · have k_37 := z_clt c_37 (a := (σ.1 93 5).toInt) (b := mo.toInt) rfl rfl
          refine zv_sub [1, 0] (lv' := [(0, za_O 19 93), (4, za_I s0_20)]) rfl ?_
          exact J_44
        · have k_37 := z_cnlt c_37 (a := (σ.1 93 5).toInt) (b := mo.toInt) rfl rfl
          refine zv_iconst (v := (-1)) G dX10_faultOf_40 (by decide) ?_
          refine zv_iload_n (j := 3) G dX10_faultOf_41 rfl rfl ?_
          refine zv_isub G dX10_faultOf_42 ?_
          exact zv_iret G hr dX10_faultOf_43 ⟨(fun h => absurd h (by have hL := z_lits; rw [z_sub (by omega) (by omega)]; omega)), rfl⟩
  have J_19 : zV p l e (zRm 1 21) s m args below meth c E (za_A E) 5 0 0 (MQ below (va_Qi (fun r σ' => (0 ≤ r.toInt → ¬ is = 0) ∧ σ' = σ) (zB E) (za_A E)) args s 0 0 (za_A E)) 19 [(0, za_O 19 93), (1, za_I n9), (2, za_I mo)] [] σ := by
    refine zv_iconst (v := 0) G dX10_faultOf_19 (by decide) ?_
    refine zv_sub [0, 1, 2] (lv' := [(0, za_O 19 93), (1, za_I n9), (2, za_I mo)]) rfl ?_
    exact J_20 (0 : Int32) (by first | exact Or.inl rfl | exact Or.inr c_1)
  refine zv_if_eq (tgt := 19) G dX10_faultOf_1 (by decide) (fun c_1 => ?_) (fun c_1 => ?_)
  · have k_1 := z_ceq c_1 (a := is.toInt) (b := 0) rfl rfl
    refine zv_sub [0, 1, 2] (lv' := [(0, za_O 19 93), (1, za_I n9), (2, za_I mo)]) rfl ?_
    exact J_19
  · have k_1 := z_cne c_1 (a := is.toInt) (b := 0) rfl rfl
    refine zv_aload_n (j := 0) G dX10_faultOf_4 rfl rfl ?_
    refine zg_X10_29 G dX10_faultOf_5 ?_
    refine zv_aload_n (j := 0) G dX10_faultOf_8 rfl rfl ?_
    refine zg_X10_41 G dX10_faultOf_9 ?_
    refine zv_icmp_ne (tgt := 19) G dX10_faultOf_12 (by decide) (fun c_12 => ?_) (fun c_12 => ?_)
    · have k_12 := z_cne c_12 (a := (σ.1 93 5).toInt) (b := (σ.1 93 6).toInt) rfl rfl
      refine zv_sub [0, 1, 2] (lv' := [(0, za_O 19 93), (1, za_I n9), (2, za_I mo)]) rfl ?_
      exact J_19
    · have k_12 := z_ceq c_12 (a := (σ.1 93 5).toInt) (b := (σ.1 93 6).toInt) rfl rfl
      refine zv_iconst (v := 1) G dX10_faultOf_15 (by decide) ?_
      refine zv_goto (tgt := 20) G dX10_faultOf_16 (by decide) ?_
      refine zv_sub [0, 1, 2] (lv' := [(0, za_O 19 93), (1, za_I n9), (2, za_I mo)]) rfl ?_
      exact J_20 (1 : Int32) (by first | exact Or.inl rfl | exact Or.inr c_1)
set_option maxHeartbeats 4000000 in
set_option maxRecDepth 100000 in
theorem zc_X10_codes (l : Launch) (E : za_E) (v : Int32) (σ0 : za_S) (hc : 0 ≤ (σ0.1 93 9).toInt ∧ (σ0.1 93 9).toInt ≤ 79) : zMv l E yX10_codes cX10_codes 2 (Option.none : Option Jvm.ClassFile.FieldType) 1 21 [za_O 19 93, za_I v] σ0 (fun σ' => σ' = za_si (za_si σ0 96 (σ0.1 93 9).toNatClampNeg v) 93 9 (σ0.1 93 9 + 1)) := by
  refine zMv_of [(0, za_O 19 93), (1, za_I v)] (by decide) rfl rfl (Nat.le_of_ble_eq_true rfl) ?_
  intro ho p e s m args below meth c G hr
  refine zv_aload_n (j := 0) G dX10_codes_0 rfl rfl ?_
  refine zg_X10_70 G dX10_codes_1 ?_
  refine zv_aload_n (j := 0) G dX10_codes_4 rfl rfl ?_
  refine zg_X10_73 G dX10_codes_5 ?_
  refine zv_iload_n (j := 1) G dX10_codes_8 rfl rfl ?_
  refine zv_iast G (by decide) rfl (fun _ => rfl) (z_in hc.1 (by omega)) dX10_codes_9 ?_
  refine zv_aload_n (j := 0) G dX10_codes_10 rfl rfl ?_
  refine zv_dupO G dX10_codes_11 ?_
  refine zg_X10_73 G dX10_codes_12 ?_
  refine zv_iconst (v := 1) G dX10_codes_15 (by decide) ?_
  refine zv_iadd G dX10_codes_16 ?_
  refine zp_X10_73 G dX10_codes_17 ?_
  exact zv_vret G hr dX10_codes_20 (by rw [za_si_ne _ _ (Or.inl (by decide))])
set_option maxHeartbeats 4000000 in
set_option maxRecDepth 100000 in
theorem zc_X10_worked (l : Launch) (E : za_E) (ac : Int32) (va : Int32) (vb : Int32) (σ : za_S)  : zMi l E yX10_worked cX10_worked 3 (Option.some Jvm.ClassFile.FieldType.int) 2 41 [za_I ac, za_I va, za_I vb] σ (fun r σ' => σ' = σ) := by
  refine zMi_of [(0, za_I ac), (1, za_I va), (2, za_I vb)] (by decide) rfl rfl (Nat.le_of_ble_eq_true rfl) ?_
  intro ho p e s m args below meth c G hr
  refine zv_iload_n (j := 0) G dX10_worked_0 rfl rfl ?_
  rcases Decidable.em (ac = 0) with q_1_0 | q_1_0
  · refine zv_tabIn (off := 39) (tgt := 40) G dX10_worked_1 (by rw [q_1_0]; decide) (by rw [q_1_0]; decide) (by rw [q_1_0]; rfl) (by decide) ?_
    refine zv_iload_n (j := 1) G dX10_worked_40 rfl rfl ?_
    refine zv_iload_n (j := 2) G dX10_worked_41 rfl rfl ?_
    refine zv_icmp_ge (tgt := 49) G dX10_worked_42 (by decide) (fun c_42 => ?_) (fun c_42 => ?_)
    · refine zv_iconst (v := 0) G dX10_worked_49 (by decide) ?_
      refine zv_callSi (as := [za_I 0]) G (zc_X10_flag l E (0 : Int32) σ ) zk_X10_flag zm_1351 rfl ⟨(Nat.le_of_ble_eq_true rfl), (Nat.le_of_ble_eq_true rfl)⟩ ⟨Nat.zero_le _, Nat.zero_le _⟩ (Nat.le_of_ble_eq_true rfl) dX10_worked_50 (fun r_50 σ h_50 => ?_)
      obtain ⟨h_50, rfl⟩ := h_50
      exact zv_iret G hr dX10_worked_53 rfl
    · refine zv_iconst (v := 1) G dX10_worked_45 (by decide) ?_
      refine zv_goto (tgt := 50) G dX10_worked_46 (by decide) ?_
      refine zv_callSi (as := [za_I 1]) G (zc_X10_flag l E (1 : Int32) σ ) zk_X10_flag zm_1351 rfl ⟨(Nat.le_of_ble_eq_true rfl), (Nat.le_of_ble_eq_true rfl)⟩ ⟨Nat.zero_le _, Nat.zero_le _⟩ (Nat.le_of_ble_eq_true rfl) dX10_worked_50 (fun r_50 σ h_50 => ?_)
      obtain ⟨h_50, rfl⟩ := h_50
      exact zv_iret G hr dX10_worked_53 rfl
  rcases Decidable.em (ac = 1) with q_1_1 | q_1_1
  · refine zv_tabIn (off := 53) (tgt := 54) G dX10_worked_1 (by rw [q_1_1]; decide) (by rw [q_1_1]; decide) (by rw [q_1_1]; rfl) (by decide) ?_
    refine zv_iload_n (j := 1) G dX10_worked_54 rfl rfl ?_
    refine zv_iload_n (j := 2) G dX10_worked_55 rfl rfl ?_
    refine zv_icmp_le (tgt := 63) G dX10_worked_56 (by decide) (fun c_56 => ?_) (fun c_56 => ?_)
    · refine zv_iconst (v := 0) G dX10_worked_63 (by decide) ?_
      refine zv_callSi (as := [za_I 0]) G (zc_X10_flag l E (0 : Int32) σ ) zk_X10_flag zm_1351 rfl ⟨(Nat.le_of_ble_eq_true rfl), (Nat.le_of_ble_eq_true rfl)⟩ ⟨Nat.zero_le _, Nat.zero_le _⟩ (Nat.le_of_ble_eq_true rfl) dX10_worked_64 (fun r_64 σ h_64 => ?_)
      obtain ⟨h_64, rfl⟩ := h_64
      exact zv_iret G hr dX10_worked_67 rfl
    · refine zv_iconst (v := 1) G dX10_worked_59 (by decide) ?_
      refine zv_goto (tgt := 64) G dX10_worked_60 (by decide) ?_
      refine zv_callSi (as := [za_I 1]) G (zc_X10_flag l E (1 : Int32) σ ) zk_X10_flag zm_1351 rfl ⟨(Nat.le_of_ble_eq_true rfl), (Nat.le_of_ble_eq_true rfl)⟩ ⟨Nat.zero_le _, Nat.zero_le _⟩ (Nat.le_of_ble_eq_true rfl) dX10_worked_64 (fun r_64 σ h_64 => ?_)
      obtain ⟨h_64, rfl⟩ := h_64
      exact zv_iret G hr dX10_worked_67 rfl
  rcases Decidable.em (ac = 2) with q_1_2 | q_1_2
  · refine zv_tabIn (off := 67) (tgt := 68) G dX10_worked_1 (by rw [q_1_2]; decide) (by rw [q_1_2]; decide) (by rw [q_1_2]; rfl) (by decide) ?_
    refine zv_iload_n (j := 1) G dX10_worked_68 rfl rfl ?_
    refine zv_iload_n (j := 2) G dX10_worked_69 rfl rfl ?_
    refine zv_icmp_ne (tgt := 77) G dX10_worked_70 (by decide) (fun c_70 => ?_) (fun c_70 => ?_)
    · refine zv_iconst (v := 0) G dX10_worked_77 (by decide) ?_
      refine zv_callSi (as := [za_I 0]) G (zc_X10_flag l E (0 : Int32) σ ) zk_X10_flag zm_1351 rfl ⟨(Nat.le_of_ble_eq_true rfl), (Nat.le_of_ble_eq_true rfl)⟩ ⟨Nat.zero_le _, Nat.zero_le _⟩ (Nat.le_of_ble_eq_true rfl) dX10_worked_78 (fun r_78 σ h_78 => ?_)
      obtain ⟨h_78, rfl⟩ := h_78
      exact zv_iret G hr dX10_worked_81 rfl
    · refine zv_iconst (v := 1) G dX10_worked_73 (by decide) ?_
      refine zv_goto (tgt := 78) G dX10_worked_74 (by decide) ?_
      refine zv_callSi (as := [za_I 1]) G (zc_X10_flag l E (1 : Int32) σ ) zk_X10_flag zm_1351 rfl ⟨(Nat.le_of_ble_eq_true rfl), (Nat.le_of_ble_eq_true rfl)⟩ ⟨Nat.zero_le _, Nat.zero_le _⟩ (Nat.le_of_ble_eq_true rfl) dX10_worked_78 (fun r_78 σ h_78 => ?_)
      obtain ⟨h_78, rfl⟩ := h_78
      exact zv_iret G hr dX10_worked_81 rfl
  rcases Decidable.em (ac = 3) with q_1_3 | q_1_3
  · refine zv_tabIn (off := 81) (tgt := 82) G dX10_worked_1 (by rw [q_1_3]; decide) (by rw [q_1_3]; decide) (by rw [q_1_3]; rfl) (by decide) ?_
    refine zv_iload_n (j := 1) G dX10_worked_82 rfl rfl ?_
    refine zv_iload_n (j := 2) G dX10_worked_83 rfl rfl ?_
    refine zv_iadd G dX10_worked_84 ?_
    exact zv_iret G hr dX10_worked_85 rfl
  rcases Decidable.em (ac = 4) with q_1_4 | q_1_4
  · refine zv_tabIn (off := 85) (tgt := 86) G dX10_worked_1 (by rw [q_1_4]; decide) (by rw [q_1_4]; decide) (by rw [q_1_4]; rfl) (by decide) ?_
    refine zv_iload_n (j := 1) G dX10_worked_86 rfl rfl ?_
    refine zv_iload_n (j := 2) G dX10_worked_87 rfl rfl ?_
    refine zv_isub G dX10_worked_88 ?_
    exact zv_iret G hr dX10_worked_89 rfl
  rcases Decidable.em (ac = 5) with q_1_5 | q_1_5
  · refine zv_tabIn (off := 89) (tgt := 90) G dX10_worked_1 (by rw [q_1_5]; decide) (by rw [q_1_5]; decide) (by rw [q_1_5]; rfl) (by decide) ?_
    refine zv_iload_n (j := 1) G dX10_worked_90 rfl rfl ?_
    refine zv_iload_n (j := 2) G dX10_worked_91 rfl rfl ?_
    refine zv_imul G dX10_worked_92 ?_
    exact zv_iret G hr dX10_worked_93 rfl
  have n_1_0 := lv_neT q_1_0 (a := 0) rfl
  have n_1_1 := lv_neT q_1_1 (a := 1) rfl
  have n_1_2 := lv_neT q_1_2 (a := 2) rfl
  have n_1_3 := lv_neT q_1_3 (a := 3) rfl
  have n_1_4 := lv_neT q_1_4 (a := 4) rfl
  have n_1_5 := lv_neT q_1_5 (a := 5) rfl
  refine zv_tabOut (tgt := 94) G dX10_worked_1 (by omega) (by decide) ?_
  refine zv_iload_n (j := 2) G dX10_worked_94 rfl rfl ?_
  refine zv_if_ne (tgt := 102) G dX10_worked_95 (by decide) (fun c_95 => ?_) (fun c_95 => ?_)
  · refine zv_iload_n (j := 1) G dX10_worked_102 rfl rfl ?_
    refine zv_iload_n (j := 2) G dX10_worked_103 rfl rfl ?_
    refine zv_idiv G dX10_worked_104 c_95 ?_
    exact zv_iret G hr dX10_worked_105 rfl
  · refine zv_iconst (v := 0) G dX10_worked_98 (by decide) ?_
    refine zv_goto (tgt := 105) G dX10_worked_99 (by decide) ?_
    exact zv_iret G hr dX10_worked_105 rfl
