/-! ===== a fresh object of the reference: what each call answers ===== -/
theorem wzZ_w {σ : za_S} {w j : Nat} (h : wzZ σ) : wzZ (za_si σ w j 0) := fun w' hw i => by
  by_cases c : w' = w ∧ i = j
  · rw [c.1, c.2]; exact za_si_same _ _ _ _
  · rw [za_si_ne _ _ (by omega)]; exact h w' hw i
theorem wzZ_x {σ : za_S} {w j : Nat} {x : Int32} (h : wzZ σ) (e : x = 0) : wzZ (za_si σ w j x) := by rw [e]; exact wzZ_w h
theorem wzZ_sl {σ : za_S} {w j : Nat} {x : Int64} (h : wzZ σ) : wzZ (za_sl σ w j x) := h
theorem wzN9 {σ : za_S} (h : wzZ σ) : ∀ i, σ.1 99 i = 0 := h 99 (by decide)
theorem wzcn_0 {f : Nat → Int32} (h : ∀ i, f i = 0) (t : Nat) : zcn f t = 0 := by
  unfold zcn
  have key : ∀ n, fb_ct (zp f t) n = 0 := by
    intro n
    induction n with
    | zero => rfl
    | succ n ih =>
      rw [fb_ct_succ, ih]
      have e : zp f t n = false := by
        unfold zp
        rw [h]
        decide
      rw [e]
      rfl
  exact key 1000
theorem wzro0 {f : Nat → Int32} {r : Int32} {t : Nat} (h : ∀ i, f i = 0) (k : r.toInt = (zcn f t : Nat)) : r = 0 := by
  rw [wzcn_0 h] at k
  exact Int32.toInt_inj.mp k
theorem wzsk0 {σ σ' : za_S} {f : Nat → Int32} {t i r : Int32} {X : Prop} (h : ∀ j, f j = 0) (hi : 0 ≤ i.toInt) (k : (r = 0 ∨ r = 1) ∧ ((r = 1 ∧ i.toInt < (zcn f t.toInt.toNat : Nat) ∧ X) ∨ (r = 0 ∧ ¬ i.toInt < (zcn f t.toInt.toNat : Nat) ∧ σ' = σ))) : r = 0 ∧ σ' = σ := by
  rcases k.2 with q | q
  · have h1 := q.2.1
    rw [wzcn_0 h] at h1
    omega
  · exact ⟨q.1, q.2.2⟩
theorem wzen1 {σ σ' : za_S} {v : Int64} {n : Int32} (h : (∀ i, σ.1 99 i = 0) ∧ σ.1 93 1 = n) (e : σ' = za_si (za_sl σ 94 (σ.1 93 1).toNatClampNeg v) 93 1 (σ.1 93 1 + 1)) : (∀ i, σ'.1 99 i = 0) ∧ σ'.1 93 1 = n + 1 := by
  subst e
  refine ⟨fun i => ?_, ?_⟩
  · rw [(za_si_off 99 (by decide)).1]; exact h.1 i
  · rw [za_si_same, h.2]
theorem wzt_1 {σ σ' : za_S} {v : Int64} {n : Int32} (h : σ.1 93 1 = n) (e : σ' = za_si (za_sl σ 94 (σ.1 93 1).toNatClampNeg v) 93 1 (σ.1 93 1 + 1)) : σ'.1 93 1 = n + 1 := by
  subst e
  rw [za_si_same, h]
theorem wzt_2 {σ σ' : za_S} {v : Int64} {n : Int32} (h : σ.1 93 25 = 0 ∧ σ.1 93 1 = n) (e : σ' = za_si (za_sl σ 94 (σ.1 93 1).toNatClampNeg v) 93 1 (σ.1 93 1 + 1)) : σ'.1 93 25 = 0 ∧ σ'.1 93 1 = n + 1 := by
  subst e
  refine ⟨?_, by rw [za_si_same, h.2]⟩
  rw [za_si_ne _ _ (Or.inr (by decide))]
  exact h.1
theorem wzZ_cp {σ σ' : za_S} {q w : Nat} (h : wzZ σ) (hq : 93 ≤ q) (e : σ' = zcp σ q w 2001) : wzZ σ' := fun w' hw i => by
  subst e
  by_cases c : w' = w
  · rw [c]
    show (if w = w then _ else σ.1 w) i = 0
    rw [if_pos rfl]
    show (if i < 2001 then σ.1 q i else σ.1 w i) = 0
    split
    · exact h q hq i
    · exact h w (by omega) i
  · rw [zcp_o c]; exact h w' hw i
theorem wz_sI {a b r : Int32} (h1 : -1000 ≤ a.toInt ∧ a.toInt ≤ 1000) (h2 : -1000 ≤ b.toInt ∧ b.toInt ≤ 1000) (e : r.toInt = a.toInt - b.toInt) : r = a - b := Int32.toInt_inj.mp (by rw [e, z_sub (by omega) (by omega)])
theorem wzZ_G {σ : za_S} (h : wzZ σ) {w : Nat} (hw : 93 ≤ w) : zGB (σ.1 w) := fun i _ => by rw [h w hw i]; decide
theorem wzn_b {q : Nat} {σ0 σ : za_S} {t k v fd td : Int32} (h0 : ∀ i, σ0.1 q i = 0) (ht : 0 ≤ t.toInt ∧ t.toInt ≤ 1) (hk : 0 ≤ k.toInt ∧ k.toInt ≤ 9) (hv : 0 ≤ v.toInt ∧ v.toInt ≤ 99) (hp : (0 ≤ fd.toInt ∧ fd.toInt ≤ 99) ∧ fd.toInt < td.toInt ∧ td.toInt ≤ 100) (h : wzFad (σ0.1 q) (σ.1 101) t.toInt k.toInt v.toInt fd.toInt td.toInt) : wzcs (σ.1 101) ∧ ∀ k' d' : Int32, (0 ≤ k'.toInt ∧ k'.toInt ≤ 9) → (k'.toInt < k.toInt ∨ d'.toInt < fd.toInt) → ¬ zbg (σ.1 101) t k' d' := by
  have hz : ∀ (t k d : Int), ((σ0.1 q) (wzjx t k d)).toInt = 0 := fun t k d => by rw [h0]; rfl
  have hr : ∀ t : Int, wzRel [] (σ0.1 q) t := fun t => wzRel_0 (fun i => by rw [h0]; rfl)
  have hx : wzvd (k.toInt, v.toInt, fd.toInt, td.toInt, 10) := ⟨hk, hv, ⟨hp.1.1, hp.2⟩, by show (0 : Int) ≤ 10 ∧ (10 : Int) ≤ 10; decide⟩
  have hX := wzRel_add (n := 0) (hr t.toInt) (Nat.zero_le 24) hx (fun r q => nomatch q) rfl ht h
  have hX2 : wzRel [(k.toInt, v.toInt, fd.toInt, td.toInt, 10)] (σ.1 101) t.toInt := hX
  refine ⟨?_, fun k' d' hk' c q => ?_⟩
  · rcases (show t.toInt = 0 ∨ t.toInt = 1 by omega) with e | e
    · rw [e] at hX2 h
      have n0 : zcn (σ.1 101) 0 = 1 := wzRel_n (t := 0) hX2
      have n1 : zcn (σ.1 101) 1 = 0 := wzRel_n (t := 1) (wzRel_o (hr 1) h.1 (by omega) hk (by omega) (by decide))
      exact ⟨by omega, by omega⟩
    · rw [e] at hX2 h
      have n1 : zcn (σ.1 101) 1 = 1 := wzRel_n (t := 1) hX2
      have n0 : zcn (σ.1 101) 0 = 0 := wzRel_n (t := 0) (wzRel_o (hr 0) h.1 (by omega) hk (by omega) (by decide))
      exact ⟨by omega, by omega⟩
  · have q1 := q.1
    have q2 : 0 < ((σ.1 101) (wzjx t.toInt k'.toInt d'.toInt)).toInt := q.2.1
    have q3 : (((σ.1 101) (wzjx t.toInt k'.toInt d'.toInt)).toInt - 1) % 2 = 1 := q.2.2
    by_cases e : k'.toInt = k.toInt
    · rw [e] at q2
      have h3 := h.2 d'.toInt q1.1 q1.2
      rw [h3.2 (by omega), hz] at q2
      omega
    · rw [wzot_o h.1 ht hk ht hk' q1 (fun z => e z.2), hz] at q2
      omega
theorem wzse0 {r a : Int32} {σ σ' : za_S} {q : Nat} (hc : wzcs (σ.1 101)) (ha : a = 0) (h : (r = -9 ∧ ¬ wzcs (σ.1 101) ∧ σ' = σ) ∨ (r = a ∧ wzcs (σ.1 101) ∧ σ' = zcp σ 101 q 2001)) : r = 0 := by
  rcases h with q | q
  · exact absurd hc q.2.1
  · rw [q.1, ha]
theorem wzpi {y : Int32} {u : Int32} (h : u = 0) (hy : 0 ≤ y.toInt) (hy2 : y.toInt < 2001) : vp_in (2001 * u + y) 22011 := by
  rw [h]
  have e : (2001 * 0 : Int32) = 0 := by decide
  rw [e]
  have e2 : (0 + y : Int32).toInt = y.toInt := by
    have h0 : (0 : Int32).toInt = 0 := by decide
    have hr := z_rng y
    rw [z_add (by rw [h0]; omega) (by rw [h0]; omega), h0]
    omega
  exact z_in (by rw [e2]; exact hy) (by rw [e2]; omega)
theorem wz_mn0 {x y z : Int32} (e : z = if y < x then y else x) (hx : x = 0) (hy : 0 ≤ y.toInt) : z = 0 := by
  have h0 : (0 : Int32).toInt = 0 := by decide
  rw [e, hx]
  refine if_neg (fun q => ?_)
  rw [z_lt] at q
  omega
theorem wzfx_t1 {σ σ' : za_S} {q j : Nat} (h : zfx q σ σ') (hj : j ≠ 19 ∧ j ≠ 20) : σ'.1 93 j = σ.1 93 j := h.2.2 j hj.1 hj.2
theorem wz_01 {n : Int} {t : Int32} (h : ¬ (0 ≤ t.toInt ∧ t.toInt ≤ n)) : ¬ (0 ≤ t.toInt ∧ t.toInt ≤ n) := h
theorem wzlt0 {C : Prop} {r : Int32} (h : wzAn C (-2) (-1) r) : r.toInt < 0 := by
  by_cases c : C
  · rw [h.1 c]; decide
  · rw [h.2 c]; decide
theorem wzfm_1 {a b c x : Int32} (f : (a = 0 ∧ b = -1) ∨ b = 0) (s : c = 0) (e : x = if b < c then c else b) : x = 0 := by
  rw [e, s]
  rcases f with q | q
  · rw [q.2]; decide
  · rw [q]; decide
theorem wzfm_2 {a b c : Int32} (f : (a = 0 ∧ b = -1) ∨ b = 0) (s : c = 0) (k : ¬ c ≤ b) : a = 0 := by
  rcases f with q | q
  · exact q.1
  · rw [q, s] at k
    exact absurd (by decide) k
theorem wzwy_f {σ : za_S} {q : Nat} {v x r : Int32} (n9 : 0 ≤ v.toInt ∧ v.toInt ≤ 2) (h9 : σ.1 q 2000 = 0) (e : x = σ.1 q (2000 : Int32).toNatClampNeg) (c : (x = v ∧ r = -2) ∨ (¬ x = v ∧ r = 10 + x)) : wzWy v.toInt r ∧ ∀ w j, w ≠ q → (za_si σ q (2000 : Int32).toNatClampNeg v).1 w j = σ.1 w j := by
  have e2 : x = 0 := e.trans h9
  have h0 : (0 : Int32).toInt = 0 := by decide
  refine ⟨?_, fun w j hw => by rw [(za_si_off w hw).1]⟩
  rcases c with ⟨c1, c2⟩ | ⟨c1, c2⟩
  · have h1 : v.toInt = 0 := by rw [← c1, e2]; rfl
    exact ⟨fun q => absurd n9 q, fun _ => c2, fun q => by omega⟩
  · have h1 : ¬ v.toInt = 0 := fun q => c1 (e2.trans (Int32.toInt_inj.mp (q.trans h0.symm)).symm)
    exact ⟨fun q => absurd n9 q, fun q => absurd q h1, fun _ => by rw [c2, e2]; decide⟩
theorem wzZ_rw {σ σ' : za_S} {lo n : Nat} (h : wzZ σ) (e : σ' = zrw σ 102 lo n (σ.1 99)) : wzZ σ' := fun w hw i => by
  subst e
  by_cases c : w = 102
  · rw [c, zrw_i]
    split
    · exact h 99 (by decide) _
    · exact h 102 (by decide) i
  · rw [zrw_o c]; exact h w hw i
set_option maxHeartbeats 4000000 in
set_option maxRecDepth 100000 in
theorem zc_X10_flag_at0 (l : Launch) (E : za_E)  (σ : za_S)  : zMi l E yX10_flag cX10_flag 1 (Option.some Jvm.ClassFile.FieldType.int) 1 21 [za_I 0] σ (fun r σ' => (r = 0) ∧ σ' = σ) := by
  refine zMi_of [(0, za_I 0)] (by decide) rfl rfl (Nat.le_of_ble_eq_true rfl) ?_
  intro ho p e s m args below meth c G hr
  refine zv_iload_n (j := 0) G dX10_flag_0 rfl rfl ?_
  refine zv_if_eq (tgt := 8) G dX10_flag_1 (by decide) (fun c_1 => ?_) (fun c_1 => ?_)
  · have k_1 := z_ceq c_1 (a := 0) (b := 0) rfl rfl
    refine zv_iconst (v := 0) G dX10_flag_8 (by decide) ?_
    exact zv_iret G hr dX10_flag_9 ⟨rfl, rfl⟩
  · exact absurd c_1 (by decide)
set_option maxHeartbeats 4000000 in
set_option maxRecDepth 100000 in
theorem zc_X10_flag_at1 (l : Launch) (E : za_E)  (σ : za_S)  : zMi l E yX10_flag cX10_flag 1 (Option.some Jvm.ClassFile.FieldType.int) 1 21 [za_I 1] σ (fun r σ' => (r = 1) ∧ σ' = σ) := by
  refine zMi_of [(0, za_I 1)] (by decide) rfl rfl (Nat.le_of_ble_eq_true rfl) ?_
  intro ho p e s m args below meth c G hr
  refine zv_iload_n (j := 0) G dX10_flag_0 rfl rfl ?_
  refine zv_if_eq (tgt := 8) G dX10_flag_1 (by decide) (fun c_1 => ?_) (fun c_1 => ?_)
  · exact absurd c_1 (by decide)
  · have k_1 := z_cne c_1 (a := 1) (b := 0) rfl rfl
    refine zv_iconst (v := 1) G dX10_flag_4 (by decide) ?_
    refine zv_goto (tgt := 9) G dX10_flag_5 (by decide) ?_
    exact zv_iret G hr dX10_flag_9 ⟨rfl, rfl⟩
set_option maxHeartbeats 4000000 in
set_option maxRecDepth 100000 in
theorem zc_X10_isThere_at0 (l : Launch) (E : za_E) (q : Nat) (t : Int32) (k : Int32) (d : Int32) (σ : za_S) (ht : 0 ≤ t.toInt ∧ t.toInt ≤ 1) (hk : 0 ≤ k.toInt ∧ k.toInt ≤ 9) (h9 : ∀ i, σ.1 q i = 0) : zMi l E yX10_isThere cX10_isThere 4 (Option.some Jvm.ClassFile.FieldType.boolean) 3 66 [za_O 22 q, za_I t, za_I k, za_I d] σ (fun r σ' => (r = 0) ∧ σ' = σ) := by
  refine zMi_of [(0, za_O 22 q), (1, za_I t), (2, za_I k), (3, za_I d)] (by decide) rfl rfl (Nat.le_of_ble_eq_true rfl) ?_
  intro ho p e s m args below meth c G hr
  have h_q : za_kd q = 22 := za_okO (by decide) (List.forall_mem_cons.mp ho).1
  refine zv_iload_n (j := 3) G dX10_isThere_0 rfl rfl ?_
  refine zv_callSi (as := [za_I d]) G (zc_X10_isDay l E d σ ) zk_X10_isDay zm_1327 rfl ⟨(Nat.le_of_ble_eq_true rfl), (Nat.le_of_ble_eq_true rfl)⟩ ⟨Nat.zero_le _, Nat.zero_le _⟩ (Nat.le_of_ble_eq_true rfl) dX10_isThere_1 (fun r_1 σ h_1 => ?_)
  obtain ⟨h_1, rfl⟩ := h_1
  refine zv_if_eq (tgt := 22) G dX10_isThere_4 (by decide) (fun c_4 => ?_) (fun c_4 => ?_)
  · have f_1 := fun q9 => (h_1.2.mpr q9) c_4
    refine zv_iconst (v := 0) G dX10_isThere_22 (by decide) ?_
    exact zv_zret G hr dX10_isThere_23 (by decide) ⟨rfl, rfl⟩
  · have t_1 := h_1.2.mp c_4
    refine zv_aload_n (j := 0) G dX10_isThere_7 rfl rfl ?_
    refine zv_iload_n (j := 1) G dX10_isThere_8 rfl rfl ?_
    refine zv_iload_n (j := 2) G dX10_isThere_9 rfl rfl ?_
    refine zv_iload_n (j := 3) G dX10_isThere_10 rfl rfl ?_
    refine zv_callSi (as := [za_I t, za_I k, za_I d]) G (zc_X10_on l E t k d σ ) zk_X10_on zm_1331 rfl ⟨(Nat.le_of_ble_eq_true rfl), (Nat.le_of_ble_eq_true rfl)⟩ ⟨Nat.zero_le _, Nat.zero_le _⟩ (Nat.le_of_ble_eq_true rfl) dX10_isThere_11 (fun r_11 σ h_11 => ?_)
    obtain ⟨h_11, rfl⟩ := h_11
    refine zv_iald G (by decide) rfl (z_onI ht hk t_1 h_11).1 dX10_isThere_14 ?_
    refine zv_if_le (tgt := 22) G dX10_isThere_15 (by decide) (fun c_15 => ?_) (fun c_15 => ?_)
    · have k_15 := z_cle c_15 (a := (σ.1 q r_11.toNatClampNeg).toInt) (b := 0) rfl rfl
      refine zv_iconst (v := 0) G dX10_isThere_22 (by decide) ?_
      exact zv_zret G hr dX10_isThere_23 (by decide) ⟨rfl, rfl⟩
    · exact absurd (show (σ.1 q r_11.toNatClampNeg) ≤ 0 by rw [h9]; decide) c_15
set_option maxHeartbeats 4000000 in
set_option maxRecDepth 100000 in
theorem zc_X10_begins_at0 (l : Launch) (E : za_E) (q : Nat) (t : Int32) (k : Int32) (d : Int32) (σ : za_S) (ht : 0 ≤ t.toInt ∧ t.toInt ≤ 1) (hk : 0 ≤ k.toInt ∧ k.toInt ≤ 9) (h9 : ∀ i, σ.1 q i = 0) : zMi l E yX10_begins cX10_begins 4 (Option.some Jvm.ClassFile.FieldType.boolean) 4 89 [za_O 22 q, za_I t, za_I k, za_I d] σ (fun r σ' => (r = 0) ∧ σ' = σ) := by
  refine zMi_of [(0, za_O 22 q), (1, za_I t), (2, za_I k), (3, za_I d)] (by decide) rfl rfl (Nat.le_of_ble_eq_true rfl) ?_
  intro ho p e s m args below meth c G hr
  have h_q : za_kd q = 22 := za_okO (by decide) (List.forall_mem_cons.mp ho).1
  refine zv_aload_n (j := 0) G dX10_begins_0 rfl rfl ?_
  refine zv_iload_n (j := 1) G dX10_begins_1 rfl rfl ?_
  refine zv_iload_n (j := 2) G dX10_begins_2 rfl rfl ?_
  refine zv_iload_n (j := 3) G dX10_begins_3 rfl rfl ?_
  refine zv_callSi (as := [za_O 22 q, za_I t, za_I k, za_I d]) G (zc_X10_isThere_at0 l E q t k d σ (by first | assumption | decide | omega) (by first | assumption | decide | omega) (by first | assumption | decide | omega)) zk_X10_isThere zm_1324 rfl ⟨(Nat.le_of_ble_eq_true rfl), (Nat.le_of_ble_eq_true rfl)⟩ ⟨Nat.zero_le _, Nat.zero_le _⟩ (Nat.le_of_ble_eq_true rfl) dX10_begins_4 (fun r_4 σ h_4 => ?_)
  obtain ⟨h_4, rfl⟩ := h_4
  subst h_4
  refine zv_if_eq (tgt := 30) G dX10_begins_7 (by decide) (fun c_7 => ?_) (fun c_7 => ?_)
  · have k_7 := z_ceq c_7 (a := 0) (b := 0) rfl rfl
    refine zv_iconst (v := 0) G dX10_begins_30 (by decide) ?_
    exact zv_zret G hr dX10_begins_31 (by decide) ⟨rfl, rfl⟩
  · exact absurd c_7 (by decide)
set_option maxHeartbeats 4000000 in
set_option maxRecDepth 100000 in
theorem zc_X10_rowsIn_at0 (l : Launch) (E : za_E) (q : Nat) (t : Int32) (k : Int32) (fd : Int32) (td : Int32) (σ : za_S) (ht : 0 ≤ t.toInt ∧ t.toInt ≤ 1) (hk : 0 ≤ k.toInt ∧ k.toInt ≤ 9) (h9 : ∀ i, σ.1 q i = 0) (hp : 0 ≤ fd.toInt ∧ td.toInt ≤ 1000) : zMi l E yX10_rowsIn cX10_rowsIn 7 (Option.some Jvm.ClassFile.FieldType.int) 4 89 [za_O 22 q, za_I t, za_I k, za_I fd, za_I td] σ (fun r σ' => (r = 0) ∧ σ' = σ) := by
  refine zMi_of [(0, za_O 22 q), (1, za_I t), (2, za_I k), (3, za_I fd), (4, za_I td)] (by decide) rfl rfl (Nat.le_of_ble_eq_true rfl) ?_
  intro ho p e s m args below meth c G hr
  have h_q : za_kd q = 22 := za_okO (by decide) (List.forall_mem_cons.mp ho).1
  refine zv_iconst (v := 0) G dX10_rowsIn_0 (by decide) ?_
  refine zv_istore (lv' := [(5, za_I 0), (0, za_O 22 q), (1, za_I t), (2, za_I k), (3, za_I fd), (4, za_I td)]) G dX10_rowsIn_1 (by decide) rfl ?_
  refine zv_iload_n (j := 4) G dX10_rowsIn_3 rfl rfl ?_
  have J_6 : ∀ (n : Nat) (y5_6 : Int32) (y6_6 : Int32) (s_6 : y5_6 = 0) (g_6 : fd.toInt ≤ y6_6.toInt) (hn_6 : (2147483648 - y6_6.toInt).toNat < n), zV p l e (zRm 4 89) s m args below meth c E (za_A E) 7 0 0 (MQ below (va_Qi (fun r σ' => (r = 0) ∧ σ' = σ) (zB E) (za_A E)) args s 0 0 (za_A E)) 6 [(0, za_O 22 q), (1, za_I t), (2, za_I k), (4, za_I td), (5, za_I y5_6), (6, za_I y6_6)] [] σ := by
    intro n
    induction n with
    | zero => intro y5_6 y6_6 s_6 g_6 hn; exact absurd hn (Nat.not_lt_zero _)
    | succ n ih_6 =>
      intro y5_6 y6_6 s_6 g_6 hn_6
      refine zv_iload (j := 5) G dX10_rowsIn_6 rfl ?_
      refine zv_iload (j := 3) G dX10_rowsIn_8 rfl ?_
      refine zv_icmp_ge (tgt := 60) G dX10_rowsIn_10 (by decide) (fun c_10 => ?_) (fun c_10 => ?_)
      · have k_10 := z_cle c_10 (a := td.toInt) (b := y6_6.toInt) rfl rfl
        refine zv_iload (j := 4) G dX10_rowsIn_60 rfl ?_
        exact zv_iret G hr dX10_rowsIn_62 ⟨s_6, rfl⟩
      · have k_10 := z_cnle c_10 (a := td.toInt) (b := y6_6.toInt) rfl rfl
        refine zv_iload (j := 4) G dX10_rowsIn_13 rfl ?_
        refine zv_aload_n (j := 0) G dX10_rowsIn_15 rfl rfl ?_
        refine zv_iload_n (j := 1) G dX10_rowsIn_16 rfl rfl ?_
        refine zv_iload_n (j := 2) G dX10_rowsIn_17 rfl rfl ?_
        refine zv_iload (j := 5) G dX10_rowsIn_18 rfl ?_
        refine zv_callSi (as := [za_O 22 q, za_I t, za_I k, za_I y6_6]) G (zc_X10_isThere_at0 l E q t k y6_6 σ (by first | assumption | decide | omega) (by first | assumption | decide | omega) (by first | assumption | decide | omega)) zk_X10_isThere zm_1324 rfl ⟨(Nat.le_of_ble_eq_true rfl), (Nat.le_of_ble_eq_true rfl)⟩ ⟨Nat.zero_le _, Nat.zero_le _⟩ (Nat.le_of_ble_eq_true rfl) dX10_rowsIn_20 (fun r_20 σ h_20 => ?_)
        obtain ⟨h_20, rfl⟩ := h_20
        subst h_20
        refine zv_if_eq (tgt := 47) G dX10_rowsIn_23 (by decide) (fun c_23 => ?_) (fun c_23 => ?_)
        · have k_23 := z_ceq c_23 (a := 0) (b := 0) rfl rfl
          refine zv_iconst (v := 0) G dX10_rowsIn_47 (by decide) ?_
          refine zv_callSi (as := [za_I 0]) G (zc_X10_flag_at0 l E  σ ) zk_X10_flag zm_1355 rfl ⟨(Nat.le_of_ble_eq_true rfl), (Nat.le_of_ble_eq_true rfl)⟩ ⟨Nat.zero_le _, Nat.zero_le _⟩ (Nat.le_of_ble_eq_true rfl) dX10_rowsIn_48 (fun r_48 σ h_48 => ?_)
          obtain ⟨h_48, rfl⟩ := h_48
          subst h_48
          refine zv_iadd G dX10_rowsIn_51 ?_
          refine zv_top (fun x_52 e_52 => ?_)
          first | have q_52 := z_addf e_52 (a := y5_6.toInt) (b := 0) rfl rfl (by omega) (by omega) | skip
          refine zv_istore (lv' := [(5, za_I x_52), (0, za_O 22 q), (1, za_I t), (2, za_I k), (4, za_I td), (6, za_I y6_6)]) G dX10_rowsIn_52 (by decide) rfl ?_
          obtain ⟨x_54, e_54⟩ : ∃ y : Int32, y = y6_6 + 1 := ⟨_, rfl⟩
          refine zv_iinc (j := 5) (v := x_54) (lv' := [(6, za_I x_54), (5, za_I x_52), (0, za_O 22 q), (1, za_I t), (2, za_I k), (4, za_I td)]) G dX10_rowsIn_54 rfl (by rw [e_54]; rfl) (by decide) rfl ?_
          first | have q_54 := z_inc9 (by omega) e_54 | skip
          refine zv_goto (tgt := 6) G dX10_rowsIn_57 (by decide) ?_
          refine zv_sub [2, 3, 4, 5, 1, 0] (lv' := [(0, za_O 22 q), (1, za_I t), (2, za_I k), (4, za_I td), (5, za_I x_52), (6, za_I x_54)]) rfl ?_
          exact ih_6 x_52 x_54 (by rw [e_52, s_6]; decide) (by omega) (z_meas c_10 e_54 hn_6)
        · exact absurd c_23 (by decide)
  refine zv_istore (lv' := [(6, za_I fd), (5, za_I 0), (0, za_O 22 q), (1, za_I t), (2, za_I k), (3, za_I fd), (4, za_I td)]) G dX10_rowsIn_4 (by decide) rfl ?_
  refine zv_sub [2, 3, 4, 6, 1, 0] (lv' := [(0, za_O 22 q), (1, za_I t), (2, za_I k), (4, za_I td), (5, za_I 0), (6, za_I fd)]) rfl ?_
  exact J_6 _ (0 : Int32) fd rfl (by omega) (Nat.lt_succ_self _)
set_option maxHeartbeats 4000000 in
set_option maxRecDepth 100000 in
theorem zc_X10_daysOf_at0 (l : Launch) (E : za_E) (q : Nat) (t : Int32) (σ : za_S) (ht : 0 ≤ t.toInt ∧ t.toInt ≤ 1) (h9 : ∀ i, σ.1 q i = 0) : zMi l E yX10_daysOf cX10_daysOf 5 (Option.some Jvm.ClassFile.FieldType.int) 4 89 [za_O 22 q, za_I t] σ (fun r σ' => (r = 0) ∧ σ' = σ) := by
  refine zMi_of [(0, za_O 22 q), (1, za_I t)] (by decide) rfl rfl (Nat.le_of_ble_eq_true rfl) ?_
  intro ho p e s m args below meth c G hr
  have h_q : za_kd q = 22 := za_okO (by decide) (List.forall_mem_cons.mp ho).1
  refine zv_iconst (v := 0) G dX10_daysOf_0 (by decide) ?_
  refine zv_istore_n (lv' := [(2, za_I 0), (0, za_O 22 q), (1, za_I t)]) G dX10_daysOf_1 rfl (by decide) rfl ?_
  refine zv_iconst (v := 0) G dX10_daysOf_2 (by decide) ?_
  have J_4 : ∀ (n : Nat) (y2_4 : Int32) (y3_4 : Int32) (s_4 : y2_4 = 0) (i3_4 : 0 ≤ y3_4.toInt) (u3_4 : y3_4.toInt ≤ 10) (hn_4 : (2147483648 - y3_4.toInt).toNat < n), zV p l e (zRm 4 89) s m args below meth c E (za_A E) 5 0 0 (MQ below (va_Qi (fun r σ' => (r = 0) ∧ σ' = σ) (zB E) (za_A E)) args s 0 0 (za_A E)) 4 [(0, za_O 22 q), (1, za_I t), (2, za_I y2_4), (3, za_I y3_4)] [] σ := by
    intro n
    induction n with
    | zero => intro y2_4 y3_4 s_4 i3_4 u3_4 hn; exact absurd hn (Nat.not_lt_zero _)
    | succ n ih_4 =>
      intro y2_4 y3_4 s_4 i3_4 u3_4 hn_4
      refine zv_iload_n (j := 3) G dX10_daysOf_4 rfl rfl ?_
      refine zv_bipush (v := 10) G dX10_daysOf_5 (by decide) ?_
      refine zv_icmp_ge (tgt := 46) G dX10_daysOf_7 (by decide) (fun c_7 => ?_) (fun c_7 => ?_)
      · have k_7 := z_cle c_7 (a := 10) (b := y3_4.toInt) rfl rfl
        refine zv_iload_n (j := 2) G dX10_daysOf_46 rfl rfl ?_
        exact zv_iret G hr dX10_daysOf_47 ⟨s_4, rfl⟩
      · have b_7 : 0 ≤ y3_4.toInt ∧ y3_4.toInt < 10 := ⟨i3_4, z_ltk c_7 rfl⟩
        have k_7 := z_cnle c_7 (a := 10) (b := y3_4.toInt) rfl rfl
        refine zv_iconst (v := 0) G dX10_daysOf_10 (by decide) ?_
        have J_13 : ∀ (n : Nat) (y2_13 : Int32) (y4_13 : Int32) (s_13 : y2_13 = 0) (i4_13 : 0 ≤ y4_13.toInt) (u4_13 : y4_13.toInt ≤ 100) (hn_13 : (2147483648 - y4_13.toInt).toNat < n), zV p l e (zRm 4 89) s m args below meth c E (za_A E) 5 0 0 (MQ below (va_Qi (fun r σ' => (r = 0) ∧ σ' = σ) (zB E) (za_A E)) args s 0 0 (za_A E)) 13 [(0, za_O 22 q), (1, za_I t), (2, za_I y2_13), (3, za_I y3_4), (4, za_I y4_13)] [] σ := by
          intro n
          induction n with
          | zero => intro y2_13 y4_13 s_13 i4_13 u4_13 hn; exact absurd hn (Nat.not_lt_zero _)
          | succ n ih_13 =>
            intro y2_13 y4_13 s_13 i4_13 u4_13 hn_13
            refine zv_iload (j := 4) G dX10_daysOf_13 rfl ?_
            refine zv_bipush (v := 100) G dX10_daysOf_15 (by decide) ?_
            refine zv_icmp_ge (tgt := 40) G dX10_daysOf_17 (by decide) (fun c_17 => ?_) (fun c_17 => ?_)
            · have k_17 := z_cle c_17 (a := 100) (b := y4_13.toInt) rfl rfl
              obtain ⟨x_40, e_40⟩ : ∃ y : Int32, y = y3_4 + 1 := ⟨_, rfl⟩
              refine zv_iinc (j := 3) (v := x_40) (lv' := [(3, za_I x_40), (0, za_O 22 q), (1, za_I t), (2, za_I y2_13), (4, za_I y4_13)]) G dX10_daysOf_40 rfl (by rw [e_40]; rfl) (by decide) rfl ?_
              first | have q_40 := z_inc9 (by omega) e_40 | skip
              refine zv_goto (tgt := 4) G dX10_daysOf_43 (by decide) ?_
              refine zv_sub [1, 2, 3, 0] (lv' := [(0, za_O 22 q), (1, za_I t), (2, za_I y2_13), (3, za_I x_40)]) rfl ?_
              exact ih_4 y2_13 x_40 s_13 (by have := z_inc c_7 e_40; omega) (by have := z_inc9 (by omega) e_40; omega) (z_meas c_7 e_40 hn_4)
            · have b_17 : 0 ≤ y4_13.toInt ∧ y4_13.toInt < 100 := ⟨i4_13, z_ltk c_17 rfl⟩
              have k_17 := z_cnle c_17 (a := 100) (b := y4_13.toInt) rfl rfl
              refine zv_iload_n (j := 2) G dX10_daysOf_20 rfl rfl ?_
              refine zv_aload_n (j := 0) G dX10_daysOf_21 rfl rfl ?_
              refine zv_iload_n (j := 1) G dX10_daysOf_22 rfl rfl ?_
              refine zv_iload_n (j := 3) G dX10_daysOf_23 rfl rfl ?_
              refine zv_iload (j := 4) G dX10_daysOf_24 rfl ?_
              refine zv_callSi (as := [za_O 22 q, za_I t, za_I y3_4, za_I y4_13]) G (zc_X10_isThere_at0 l E q t y3_4 y4_13 σ ht (by omega) h9) zk_X10_isThere zm_1324 rfl ⟨(Nat.le_of_ble_eq_true rfl), (Nat.le_of_ble_eq_true rfl)⟩ ⟨Nat.zero_le _, Nat.zero_le _⟩ (Nat.le_of_ble_eq_true rfl) dX10_daysOf_26 (fun r_26 σ h_26 => ?_)
              obtain ⟨h_26, rfl⟩ := h_26
              subst h_26
              refine zv_callSi (as := [za_I 0]) G (zc_X10_flag_at0 l E  σ ) zk_X10_flag zm_1355 rfl ⟨(Nat.le_of_ble_eq_true rfl), (Nat.le_of_ble_eq_true rfl)⟩ ⟨Nat.zero_le _, Nat.zero_le _⟩ (Nat.le_of_ble_eq_true rfl) dX10_daysOf_29 (fun r_29 σ h_29 => ?_)
              obtain ⟨h_29, rfl⟩ := h_29
              subst h_29
              refine zv_iadd G dX10_daysOf_32 ?_
              refine zv_top (fun x_33 e_33 => ?_)
              first | have q_33 := z_addf e_33 (a := y2_13.toInt) (b := 0) rfl rfl (by omega) (by omega) | skip
              refine zv_istore_n (lv' := [(2, za_I x_33), (0, za_O 22 q), (1, za_I t), (3, za_I y3_4), (4, za_I y4_13)]) G dX10_daysOf_33 rfl (by decide) rfl ?_
              obtain ⟨x_34, e_34⟩ : ∃ y : Int32, y = y4_13 + 1 := ⟨_, rfl⟩
              refine zv_iinc (j := 4) (v := x_34) (lv' := [(4, za_I x_34), (2, za_I x_33), (0, za_O 22 q), (1, za_I t), (3, za_I y3_4)]) G dX10_daysOf_34 rfl (by rw [e_34]; rfl) (by decide) rfl ?_
              first | have q_34 := z_inc9 (by omega) e_34 | skip
              refine zv_goto (tgt := 13) G dX10_daysOf_37 (by decide) ?_
              refine zv_sub [2, 3, 1, 4, 0] (lv' := [(0, za_O 22 q), (1, za_I t), (2, za_I x_33), (3, za_I y3_4), (4, za_I x_34)]) rfl ?_
              exact ih_13 x_33 x_34 (by rw [e_33, s_13]; decide) (by have := z_inc c_17 e_34; omega) (by have := z_inc9 (by omega) e_34; omega) (z_meas c_17 e_34 hn_13)
        refine zv_istore (lv' := [(4, za_I 0), (0, za_O 22 q), (1, za_I t), (2, za_I y2_4), (3, za_I y3_4)]) G dX10_daysOf_11 (by decide) rfl ?_
        refine zv_sub [1, 2, 3, 4, 0] (lv' := [(0, za_O 22 q), (1, za_I t), (2, za_I y2_4), (3, za_I y3_4), (4, za_I 0)]) rfl ?_
        exact J_13 _ y2_4 (0 : Int32) s_4 (by decide) (by decide) (Nat.lt_succ_self _)
  refine zv_istore_n (lv' := [(3, za_I 0), (2, za_I 0), (0, za_O 22 q), (1, za_I t)]) G dX10_daysOf_3 rfl (by decide) rfl ?_
  refine zv_sub [2, 3, 1, 0] (lv' := [(0, za_O 22 q), (1, za_I t), (2, za_I 0), (3, za_I 0)]) rfl ?_
  exact J_4 _ (0 : Int32) (0 : Int32) rfl (by decide) (by decide) (Nat.lt_succ_self _)
set_option maxHeartbeats 4000000 in
set_option maxRecDepth 100000 in
theorem zc_X10_at_at0 (l : Launch) (E : za_E) (t : Int32) (k : Int32) (d : Int32) (σ0 : za_S) (h0 : wzZ σ0) : zMi l E yX10_at cX10_at 4 (Option.some Jvm.ClassFile.FieldType.int) 4 89 [za_O 19 93, za_I t, za_I k, za_I d] σ0 (fun r σ' => wzAn ((0 ≤ t.toInt ∧ t.toInt ≤ 1) ∧ (0 ≤ k.toInt ∧ k.toInt ≤ 9) ∧ (0 ≤ d.toInt ∧ d.toInt ≤ 99)) (-2) (-1) r) := by
  refine zMi_of [(0, za_O 19 93), (1, za_I t), (2, za_I k), (3, za_I d)] (by decide) rfl rfl (Nat.le_of_ble_eq_true rfl) ?_
  intro ho p e s m args below meth c G hr
  refine zv_gen (R9 := wzZ) h0 (fun σ hz => ?_)
  refine zv_aload_n (j := 0) G dX10_at_0 rfl rfl ?_
  refine zv_iconst (v := 0) G dX10_at_1 (by decide) ?_
  refine zp_X10_3 G dX10_at_2 ?_
  refine zv_gen (R9 := wzZ) (wzZ_w hz) (fun σ hz => ?_)
  refine zv_iload_n (j := 1) G dX10_at_5 rfl rfl ?_
  refine zv_callSi (as := [za_I t]) G (zc_X10_isTable l E t σ ) zk_X10_isTable zm_1313 rfl ⟨(Nat.le_of_ble_eq_true rfl), (Nat.le_of_ble_eq_true rfl)⟩ ⟨Nat.zero_le _, Nat.zero_le _⟩ (Nat.le_of_ble_eq_true rfl) dX10_at_6 (fun r_6 σ h_6 => ?_)
  obtain ⟨h_6, rfl⟩ := h_6
  refine zv_if_eq (tgt := 26) G dX10_at_9 (by decide) (fun c_9 => ?_) (fun c_9 => ?_)
  · have f_6 := fun q9 => (h_6.2.mpr q9) c_9
    refine zv_iconst (v := (-1)) G dX10_at_26 (by decide) ?_
    exact zv_iret G hr dX10_at_27 (wzAn_n (fun q => by first | exact f_6 (by omega) | exact f_13 (by omega) | exact f_20 (by omega)))
  · have t_6 := h_6.2.mp c_9
    refine zv_iload_n (j := 2) G dX10_at_12 rfl rfl ?_
    refine zv_callSi (as := [za_I k]) G (zc_X10_isKey l E k σ ) zk_X10_isKey zm_1375 rfl ⟨(Nat.le_of_ble_eq_true rfl), (Nat.le_of_ble_eq_true rfl)⟩ ⟨Nat.zero_le _, Nat.zero_le _⟩ (Nat.le_of_ble_eq_true rfl) dX10_at_13 (fun r_13 σ h_13 => ?_)
    obtain ⟨h_13, rfl⟩ := h_13
    refine zv_if_eq (tgt := 26) G dX10_at_16 (by decide) (fun c_16 => ?_) (fun c_16 => ?_)
    · have f_13 := fun q9 => (h_13.2.mpr q9) c_16
      refine zv_iconst (v := (-1)) G dX10_at_26 (by decide) ?_
      exact zv_iret G hr dX10_at_27 (wzAn_n (fun q => by first | exact f_6 (by omega) | exact f_13 (by omega) | exact f_20 (by omega)))
    · have t_13 := h_13.2.mp c_16
      refine zv_iload_n (j := 3) G dX10_at_19 rfl rfl ?_
      refine zv_callSi (as := [za_I d]) G (zc_X10_isDay l E d σ ) zk_X10_isDay zm_1327 rfl ⟨(Nat.le_of_ble_eq_true rfl), (Nat.le_of_ble_eq_true rfl)⟩ ⟨Nat.zero_le _, Nat.zero_le _⟩ (Nat.le_of_ble_eq_true rfl) dX10_at_20 (fun r_20 σ h_20 => ?_)
      obtain ⟨h_20, rfl⟩ := h_20
      refine zv_if_ne (tgt := 28) G dX10_at_23 (by decide) (fun c_23 => ?_) (fun c_23 => ?_)
      · have t_20 := h_20.2.mp c_23
        refine zv_aload_n (j := 0) G dX10_at_28 rfl rfl ?_
        refine zg_X10_118 G dX10_at_29 ?_
        refine zv_iload_n (j := 1) G dX10_at_32 rfl rfl ?_
        refine zv_iload_n (j := 2) G dX10_at_33 rfl rfl ?_
        refine zv_iload_n (j := 3) G dX10_at_34 rfl rfl ?_
        refine zv_callSi (as := [za_O 22 99, za_I t, za_I k, za_I d]) G (zc_X10_isThere_at0 l E 99 t k d σ t_6 t_13 (wzN9 hz)) zk_X10_isThere zm_1324 rfl ⟨(Nat.le_of_ble_eq_true rfl), (Nat.le_of_ble_eq_true rfl)⟩ ⟨Nat.zero_le _, Nat.zero_le _⟩ (Nat.le_of_ble_eq_true rfl) dX10_at_35 (fun r_35 σ h_35 => ?_)
        obtain ⟨h_35, rfl⟩ := h_35
        subst h_35
        refine zv_if_ne (tgt := 44) G dX10_at_38 (by decide) (fun c_38 => ?_) (fun c_38 => ?_)
        · exact absurd c_38 (by decide)
        · have k_38 := z_ceq c_38 (a := 0) (b := 0) rfl rfl
          refine zv_bipush (v := (-2)) G dX10_at_41 (by decide) ?_
          exact zv_iret G hr dX10_at_43 (wzAn_y (by omega))
      · have f_20 := fun q9 => (h_20.2.mpr q9) c_23
        refine zv_iconst (v := (-1)) G dX10_at_26 (by decide) ?_
        exact zv_iret G hr dX10_at_27 (wzAn_n (fun q => by first | exact f_6 (by omega) | exact f_13 (by omega) | exact f_20 (by omega)))
set_option maxHeartbeats 4000000 in
set_option maxRecDepth 100000 in
theorem zc_X10_slice_at0 (l : Launch) (E : za_E) (t : Int32) (d : Int32) (σ0 : za_S) (h0 : wzZ σ0) : zMi l E yX10_slice cX10_slice 5 (Option.some Jvm.ClassFile.FieldType.int) 4 89 [za_O 19 93, za_I t, za_I d] σ0 (fun r σ' => wzAn ((0 ≤ t.toInt ∧ t.toInt ≤ 1) ∧ (0 ≤ d.toInt ∧ d.toInt ≤ 99)) 0 (-1) r) := by
  refine zMi_of [(0, za_O 19 93), (1, za_I t), (2, za_I d)] (by decide) rfl rfl (Nat.le_of_ble_eq_true rfl) ?_
  intro ho p e s m args below meth c G hr
  refine zv_gen (R9 := wzZ) h0 (fun σ hz => ?_)
  refine zv_aload_n (j := 0) G dX10_slice_0 rfl rfl ?_
  refine zv_iconst (v := 0) G dX10_slice_1 (by decide) ?_
  refine zp_X10_3 G dX10_slice_2 ?_
  refine zv_gen (R9 := wzZ) (wzZ_w hz) (fun σ hz => ?_)
  refine zv_iload_n (j := 1) G dX10_slice_5 rfl rfl ?_
  refine zv_callSi (as := [za_I t]) G (zc_X10_isTable l E t σ ) zk_X10_isTable zm_1313 rfl ⟨(Nat.le_of_ble_eq_true rfl), (Nat.le_of_ble_eq_true rfl)⟩ ⟨Nat.zero_le _, Nat.zero_le _⟩ (Nat.le_of_ble_eq_true rfl) dX10_slice_6 (fun r_6 σ h_6 => ?_)
  obtain ⟨h_6, rfl⟩ := h_6
  refine zv_if_eq (tgt := 19) G dX10_slice_9 (by decide) (fun c_9 => ?_) (fun c_9 => ?_)
  · have f_6 := fun q9 => (h_6.2.mpr q9) c_9
    refine zv_iconst (v := (-1)) G dX10_slice_19 (by decide) ?_
    exact zv_iret G hr dX10_slice_20 (wzAn_n (fun q => by first | exact f_6 (by omega) | exact f_13 (by omega)))
  · have t_6 := h_6.2.mp c_9
    refine zv_iload_n (j := 2) G dX10_slice_12 rfl rfl ?_
    refine zv_callSi (as := [za_I d]) G (zc_X10_isDay l E d σ ) zk_X10_isDay zm_1327 rfl ⟨(Nat.le_of_ble_eq_true rfl), (Nat.le_of_ble_eq_true rfl)⟩ ⟨Nat.zero_le _, Nat.zero_le _⟩ (Nat.le_of_ble_eq_true rfl) dX10_slice_13 (fun r_13 σ h_13 => ?_)
    obtain ⟨h_13, rfl⟩ := h_13
    refine zv_if_ne (tgt := 21) G dX10_slice_16 (by decide) (fun c_16 => ?_) (fun c_16 => ?_)
    · have t_13 := h_13.2.mp c_16
      refine zv_iconst (v := 0) G dX10_slice_21 (by decide) ?_
      refine zv_istore_n (lv' := [(3, za_I 0), (0, za_O 19 93), (1, za_I t), (2, za_I d)]) G dX10_slice_22 rfl (by decide) rfl ?_
      refine zv_aload_n (j := 1) G dX10_slice_23 rfl rfl ?_
      refine zv_iconst (v := 0) G dX10_slice_24 (by decide) ?_
      refine zp_X10_15 G dX10_slice_25 ?_
      refine zv_gen (R9 := wzZ) (wzZ_w hz) (fun σ hz => ?_)
      refine zv_iconst (v := 0) G dX10_slice_28 (by decide) ?_
      have J_31 : ∀ (n : Nat) (y4_31 : Int32) (σ : za_S) (hz : wzZ σ) (i4_31 : 0 ≤ y4_31.toInt) (u4_31 : y4_31.toInt ≤ 10) (hn_31 : (2147483648 - y4_31.toInt).toNat < n), zV p l e (zRm 4 89) s m args below meth c E (za_A E) 5 0 0 (MQ below (va_Qi (fun r σ' => wzAn ((0 ≤ t.toInt ∧ t.toInt ≤ 1) ∧ (0 ≤ d.toInt ∧ d.toInt ≤ 99)) 0 (-1) r) (zB E) (za_A E)) args s 0 0 (za_A E)) 31 [(0, za_O 19 93), (1, za_I t), (2, za_I d), (3, za_I 0), (4, za_I y4_31)] [] σ := by
        intro n
        induction n with
        | zero => intro y4_31 σ hz i4_31 u4_31 hn; exact absurd hn (Nat.not_lt_zero _)
        | succ n ih_31 =>
          intro y4_31 σ hz i4_31 u4_31 hn_31
          refine zv_iload (j := 4) G dX10_slice_31 rfl ?_
          refine zv_bipush (v := 10) G dX10_slice_33 (by decide) ?_
          refine zv_icmp_ge (tgt := 81) G dX10_slice_35 (by decide) (fun c_35 => ?_) (fun c_35 => ?_)
          · have k_35 := z_cle c_35 (a := 10) (b := y4_31.toInt) rfl rfl
            refine zv_iload_n (j := 3) G dX10_slice_81 rfl rfl ?_
            exact zv_iret G hr dX10_slice_82 (wzAn_y (by omega))
          · have b_35 : 0 ≤ y4_31.toInt ∧ y4_31.toInt < 10 := ⟨i4_31, z_ltk c_35 rfl⟩
            have k_35 := z_cnle c_35 (a := 10) (b := y4_31.toInt) rfl rfl
            refine zv_aload_n (j := 0) G dX10_slice_38 rfl rfl ?_
            refine zg_X10_118 G dX10_slice_39 ?_
            refine zv_iload_n (j := 1) G dX10_slice_42 rfl rfl ?_
            refine zv_iload (j := 4) G dX10_slice_43 rfl ?_
            refine zv_iload_n (j := 2) G dX10_slice_45 rfl rfl ?_
            refine zv_callSi (as := [za_O 22 99, za_I t, za_I y4_31, za_I d]) G (zc_X10_isThere_at0 l E 99 t y4_31 d σ t_6 (by omega) (wzN9 hz)) zk_X10_isThere zm_1324 rfl ⟨(Nat.le_of_ble_eq_true rfl), (Nat.le_of_ble_eq_true rfl)⟩ ⟨Nat.zero_le _, Nat.zero_le _⟩ (Nat.le_of_ble_eq_true rfl) dX10_slice_46 (fun r_46 σ h_46 => ?_)
            obtain ⟨h_46, rfl⟩ := h_46
            subst h_46
            refine zv_if_eq (tgt := 75) G dX10_slice_49 (by decide) (fun c_49 => ?_) (fun c_49 => ?_)
            · have k_49 := z_ceq c_49 (a := 0) (b := 0) rfl rfl
              obtain ⟨x_75, e_75⟩ : ∃ y : Int32, y = y4_31 + 1 := ⟨_, rfl⟩
              refine zv_iinc (j := 4) (v := x_75) (lv' := [(4, za_I x_75), (0, za_O 19 93), (1, za_I t), (2, za_I d), (3, za_I 0)]) G dX10_slice_75 rfl (by rw [e_75]; rfl) (by decide) rfl ?_
              first | have q_75 := z_inc9 (by omega) e_75 | skip
              refine zv_goto (tgt := 31) G dX10_slice_78 (by decide) ?_
              refine zv_sub [1, 2, 3, 4, 0] (lv' := [(0, za_O 19 93), (1, za_I t), (2, za_I d), (3, za_I 0), (4, za_I x_75)]) rfl ?_
              exact ih_31 x_75 σ hz (by have := z_inc c_35 e_75; omega) (by have := z_inc9 (by omega) e_75; omega) (z_meas c_35 e_75 hn_31)
            · exact absurd c_49 (by decide)
      refine zv_istore (lv' := [(4, za_I 0), (3, za_I 0), (0, za_O 19 93), (1, za_I t), (2, za_I d)]) G dX10_slice_29 (by decide) rfl ?_
      refine zv_sub [2, 3, 4, 1, 0] (lv' := [(0, za_O 19 93), (1, za_I t), (2, za_I d), (3, za_I 0), (4, za_I 0)]) rfl ?_
      exact J_31 _ (0 : Int32) σ hz (by decide) (by decide) (Nat.lt_succ_self _)
    · have f_13 := fun q9 => (h_13.2.mpr q9) c_16
      refine zv_iconst (v := (-1)) G dX10_slice_19 (by decide) ?_
      exact zv_iret G hr dX10_slice_20 (wzAn_n (fun q => by first | exact f_6 (by omega) | exact f_13 (by omega)))
set_option maxHeartbeats 4000000 in
set_option maxRecDepth 100000 in
theorem zc_X10_gaps_at0 (l : Launch) (E : za_E) (t : Int32) (k : Int32) (fd : Int32) (td : Int32) (σ0 : za_S) (h0 : wzZ σ0) : zMi l E yX10_gaps cX10_gaps 9 (Option.some Jvm.ClassFile.FieldType.int) 4 89 [za_O 19 93, za_I t, za_I k, za_I fd, za_I td] σ0 (fun r σ' => wzAn ((0 ≤ t.toInt ∧ t.toInt ≤ 1) ∧ (0 ≤ k.toInt ∧ k.toInt ≤ 9) ∧ (0 ≤ fd.toInt ∧ fd.toInt ≤ 99) ∧ fd.toInt < td.toInt ∧ td.toInt ≤ 100) (td - fd) (-1) r) := by
  refine zMi_of [(0, za_O 19 93), (1, za_I t), (2, za_I k), (3, za_I fd), (4, za_I td)] (by decide) rfl rfl (Nat.le_of_ble_eq_true rfl) ?_
  intro ho p e s m args below meth c G hr
  refine zv_gen (R9 := wzZ) h0 (fun σ hz => ?_)
  refine zv_aload_n (j := 0) G dX10_gaps_0 rfl rfl ?_
  refine zv_iconst (v := 0) G dX10_gaps_1 (by decide) ?_
  refine zp_X10_3 G dX10_gaps_2 ?_
  refine zv_gen (R9 := wzZ) (wzZ_w hz) (fun σ hz => ?_)
  refine zv_iload_n (j := 1) G dX10_gaps_5 rfl rfl ?_
  refine zv_callSi (as := [za_I t]) G (zc_X10_isTable l E t σ ) zk_X10_isTable zm_1313 rfl ⟨(Nat.le_of_ble_eq_true rfl), (Nat.le_of_ble_eq_true rfl)⟩ ⟨Nat.zero_le _, Nat.zero_le _⟩ (Nat.le_of_ble_eq_true rfl) dX10_gaps_6 (fun r_6 σ h_6 => ?_)
  obtain ⟨h_6, rfl⟩ := h_6
  refine zv_if_eq (tgt := 28) G dX10_gaps_9 (by decide) (fun c_9 => ?_) (fun c_9 => ?_)
  · have f_6 := fun q9 => (h_6.2.mpr q9) c_9
    refine zv_iconst (v := (-1)) G dX10_gaps_28 (by decide) ?_
    exact zv_iret G hr dX10_gaps_29 (wzAn_n (fun q => by first | exact f_6 (by omega) | exact f_13 (by omega) | exact f_22 (by omega)))
  · have t_6 := h_6.2.mp c_9
    refine zv_iload_n (j := 2) G dX10_gaps_12 rfl rfl ?_
    refine zv_callSi (as := [za_I k]) G (zc_X10_isKey l E k σ ) zk_X10_isKey zm_1375 rfl ⟨(Nat.le_of_ble_eq_true rfl), (Nat.le_of_ble_eq_true rfl)⟩ ⟨Nat.zero_le _, Nat.zero_le _⟩ (Nat.le_of_ble_eq_true rfl) dX10_gaps_13 (fun r_13 σ h_13 => ?_)
    obtain ⟨h_13, rfl⟩ := h_13
    refine zv_if_eq (tgt := 28) G dX10_gaps_16 (by decide) (fun c_16 => ?_) (fun c_16 => ?_)
    · have f_13 := fun q9 => (h_13.2.mpr q9) c_16
      refine zv_iconst (v := (-1)) G dX10_gaps_28 (by decide) ?_
      exact zv_iret G hr dX10_gaps_29 (wzAn_n (fun q => by first | exact f_6 (by omega) | exact f_13 (by omega) | exact f_22 (by omega)))
    · have t_13 := h_13.2.mp c_16
      refine zv_iload_n (j := 3) G dX10_gaps_19 rfl rfl ?_
      refine zv_iload (j := 4) G dX10_gaps_20 rfl ?_
      refine zv_callSi (as := [za_I fd, za_I td]) G (zc_X10_isPeriod l E fd td σ ) zk_X10_isPeriod zm_1379 rfl ⟨(Nat.le_of_ble_eq_true rfl), (Nat.le_of_ble_eq_true rfl)⟩ ⟨Nat.zero_le _, Nat.zero_le _⟩ (Nat.le_of_ble_eq_true rfl) dX10_gaps_22 (fun r_22 σ h_22 => ?_)
      obtain ⟨h_22, rfl⟩ := h_22
      refine zv_if_ne (tgt := 30) G dX10_gaps_25 (by decide) (fun c_25 => ?_) (fun c_25 => ?_)
      · have t_22 := h_22.2.mp c_25
        refine zv_iconst (v := 0) G dX10_gaps_30 (by decide) ?_
        refine zv_istore (lv' := [(5, za_I 0), (0, za_O 19 93), (1, za_I t), (2, za_I k), (3, za_I fd), (4, za_I td)]) G dX10_gaps_31 (by decide) rfl ?_
        refine zv_aload_n (j := 1) G dX10_gaps_33 rfl rfl ?_
        refine zv_iconst (v := 0) G dX10_gaps_34 (by decide) ?_
        refine zp_X10_15 G dX10_gaps_35 ?_
        refine zv_gen (R9 := wzZ) (wzZ_w hz) (fun σ hz => ?_)
        refine zv_iload_n (j := 4) G dX10_gaps_38 rfl rfl ?_
        have J_41 : ∀ (n : Nat) (y5_41 : Int32) (y6_41 : Int32) (σ : za_S) (hz : (∀ i, σ.1 99 i = 0) ∧ (y5_41 = 0 → σ.1 93 1 = 0)) (g_41 : fd.toInt ≤ y6_41.toInt ∧ y6_41.toInt ≤ td.toInt ∧ y5_41.toInt = y6_41.toInt - fd.toInt) (i6_41 : 0 ≤ y6_41.toInt) (hn_41 : (2147483648 - y6_41.toInt).toNat < n), zV p l e (zRm 4 89) s m args below meth c E (za_A E) 9 0 0 (MQ below (va_Qi (fun r σ' => wzAn ((0 ≤ t.toInt ∧ t.toInt ≤ 1) ∧ (0 ≤ k.toInt ∧ k.toInt ≤ 9) ∧ (0 ≤ fd.toInt ∧ fd.toInt ≤ 99) ∧ fd.toInt < td.toInt ∧ td.toInt ≤ 100) (td - fd) (-1) r) (zB E) (za_A E)) args s 0 0 (za_A E)) 41 [(0, za_O 19 93), (1, za_I t), (2, za_I k), (4, za_I td), (5, za_I y5_41), (6, za_I y6_41)] [] σ := by
          intro n
          induction n with
          | zero => intro y5_41 y6_41 σ hz g_41 i6_41 hn; exact absurd hn (Nat.not_lt_zero _)
          | succ n ih_41 =>
            intro y5_41 y6_41 σ hz g_41 i6_41 hn_41
            refine zv_iload (j := 5) G dX10_gaps_41 rfl ?_
            refine zv_iload (j := 3) G dX10_gaps_43 rfl ?_
            refine zv_icmp_ge (tgt := 140) G dX10_gaps_45 (by decide) (fun c_45 => ?_) (fun c_45 => ?_)
            · have k_45 := z_cle c_45 (a := td.toInt) (b := y6_41.toInt) rfl rfl
              refine zv_iload (j := 4) G dX10_gaps_140 rfl ?_
              exact zv_iret G hr dX10_gaps_142 (wzAn_e ⟨t_6, t_13, t_22⟩ (wz_sI (by omega) (by omega) (by omega)))
            · have k_45 := z_cnle c_45 (a := td.toInt) (b := y6_41.toInt) rfl rfl
              refine zv_aload_n (j := 0) G dX10_gaps_48 rfl rfl ?_
              refine zg_X10_118 G dX10_gaps_49 ?_
              refine zv_iload_n (j := 1) G dX10_gaps_52 rfl rfl ?_
              refine zv_iload_n (j := 2) G dX10_gaps_53 rfl rfl ?_
              refine zv_iload (j := 5) G dX10_gaps_54 rfl ?_
              refine zv_callSi (as := [za_O 22 99, za_I t, za_I k, za_I y6_41]) G (zc_X10_isThere_at0 l E 99 t k y6_41 σ t_6 t_13 hz.1) zk_X10_isThere zm_1324 rfl ⟨(Nat.le_of_ble_eq_true rfl), (Nat.le_of_ble_eq_true rfl)⟩ ⟨Nat.zero_le _, Nat.zero_le _⟩ (Nat.le_of_ble_eq_true rfl) dX10_gaps_56 (fun r_56 σ h_56 => ?_)
              obtain ⟨h_56, rfl⟩ := h_56
              subst h_56
              refine zv_if_ne (tgt := 66) G dX10_gaps_59 (by decide) (fun c_59 => ?_) (fun c_59 => ?_)
              · exact absurd c_59 (by decide)
              · have k_59 := z_ceq c_59 (a := 0) (b := 0) rfl rfl
                refine zv_iconst (v := 1) G dX10_gaps_62 (by decide) ?_
                refine zv_goto (tgt := 67) G dX10_gaps_63 (by decide) ?_
                refine zv_istore (lv' := [(7, za_I 1), (0, za_O 19 93), (1, za_I t), (2, za_I k), (4, za_I td), (5, za_I y5_41), (6, za_I y6_41)]) G dX10_gaps_67 (by decide) rfl ?_
                refine zv_iload (j := 0) G dX10_gaps_69 rfl ?_
                refine zv_if_eq (tgt := 124) G dX10_gaps_71 (by decide) (fun c_71 => ?_) (fun c_71 => ?_)
                · exact absurd c_71 (by decide)
                · have k_71 := z_cne c_71 (a := 1) (b := 0) rfl rfl
                  refine zv_iload (j := 5) G dX10_gaps_74 rfl ?_
                  refine zv_if_ne (tgt := 124) G dX10_gaps_76 (by decide) (fun c_76 => ?_) (fun c_76 => ?_)
                  · have k_76 := z_cne c_76 (a := y5_41.toInt) (b := 0) rfl rfl
                    refine zv_iload (j := 5) G dX10_gaps_124 rfl ?_
                    refine zv_iload (j := 0) G dX10_gaps_126 rfl ?_
                    refine zv_callSi (as := [za_I 1]) G (zc_X10_flag_at1 l E  σ ) zk_X10_flag zm_1355 rfl ⟨(Nat.le_of_ble_eq_true rfl), (Nat.le_of_ble_eq_true rfl)⟩ ⟨Nat.zero_le _, Nat.zero_le _⟩ (Nat.le_of_ble_eq_true rfl) dX10_gaps_128 (fun r_128 σ h_128 => ?_)
                    obtain ⟨h_128, rfl⟩ := h_128
                    subst h_128
                    refine zv_iadd G dX10_gaps_131 ?_
                    refine zv_top (fun x_132 e_132 => ?_)
                    first | have q_132 := z_addf e_132 (a := y5_41.toInt) (b := 1) rfl rfl (by omega) (by omega) | skip
                    refine zv_istore (lv' := [(5, za_I x_132), (7, za_I 1), (0, za_O 19 93), (1, za_I t), (2, za_I k), (4, za_I td), (6, za_I y6_41)]) G dX10_gaps_132 (by decide) rfl ?_
                    obtain ⟨x_134, e_134⟩ : ∃ y : Int32, y = y6_41 + 1 := ⟨_, rfl⟩
                    refine zv_iinc (j := 6) (v := x_134) (lv' := [(6, za_I x_134), (5, za_I x_132), (7, za_I 1), (0, za_O 19 93), (1, za_I t), (2, za_I k), (4, za_I td)]) G dX10_gaps_134 rfl (by rw [e_134]; rfl) (by decide) rfl ?_
                    first | have q_134 := z_inc9 (by omega) e_134 | skip
                    refine zv_goto (tgt := 41) G dX10_gaps_137 (by decide) ?_
                    refine zv_sub [3, 4, 5, 6, 1, 0] (lv' := [(0, za_O 19 93), (1, za_I t), (2, za_I k), (4, za_I td), (5, za_I x_132), (6, za_I x_134)]) rfl ?_
                    exact ih_41 x_132 x_134 σ ⟨hz.1, fun z => absurd (congrArg Int32.toInt z) (by have h8 : (0 : Int32).toInt = 0 := (by decide); omega)⟩ (by omega) (by have := z_inc c_45 e_134; omega) (z_meas c_45 e_134 hn_41)
                  · have k_76 := z_ceq c_76 (a := y5_41.toInt) (b := 0) rfl rfl
                    have hz := (show (∀ i, σ.1 99 i = 0) ∧ σ.1 93 1 = 0 from ⟨hz.1, hz.2 c_76⟩)
                    refine zv_iload (j := 6) G dX10_gaps_79 rfl ?_
                    have J_83 : ∀ (n : Nat) (y8_83 : Int32) (σ : za_S) (hz : (∀ i, σ.1 99 i = 0) ∧ σ.1 93 1 = 0) (g_83 : fd.toInt ≤ y8_83.toInt) (i8_83 : 0 ≤ y8_83.toInt) (hn_83 : (2147483648 - y8_83.toInt).toNat < n), zV p l e (zRm 4 89) s m args below meth c E (za_A E) 9 0 0 (MQ below (va_Qi (fun r σ' => wzAn ((0 ≤ t.toInt ∧ t.toInt ≤ 1) ∧ (0 ≤ k.toInt ∧ k.toInt ≤ 9) ∧ (0 ≤ fd.toInt ∧ fd.toInt ≤ 99) ∧ fd.toInt < td.toInt ∧ td.toInt ≤ 100) (td - fd) (-1) r) (zB E) (za_A E)) args s 0 0 (za_A E)) 83 [(0, za_O 19 93), (1, za_I t), (2, za_I k), (4, za_I td), (5, za_I y5_41), (6, za_I y6_41), (7, za_I 1), (8, za_I y8_83)] [] σ := by
                      intro n
                      induction n with
                      | zero => intro y8_83 σ hz g_83 i8_83 hn; exact absurd hn (Nat.not_lt_zero _)
                      | succ n ih_83 =>
                        intro y8_83 σ hz g_83 i8_83 hn_83
                        refine zv_iload (j := 7) G dX10_gaps_83 rfl ?_
                        refine zv_iload (j := 3) G dX10_gaps_85 rfl ?_
                        refine zv_icmp_ge (tgt := 110) G dX10_gaps_87 (by decide) (fun c_87 => ?_) (fun c_87 => ?_)
                        · have k_87 := z_cle c_87 (a := td.toInt) (b := y8_83.toInt) rfl rfl
                          refine zv_aload_n (j := 0) G dX10_gaps_110 rfl rfl ?_
                          refine zv_iload (j := 5) G dX10_gaps_111 rfl ?_
                          refine zv_i2l G dX10_gaps_113 ?_
                          refine zv_callVv (as := [za_L y6_41.toInt64]) G (by decide) rfl rfl (zc_X10_enters l E y6_41.toInt64 σ (by rw [hz.2]; decide)) zk_X10_enters zm_1422 rfl ⟨(Nat.le_of_ble_eq_true rfl), (Nat.le_of_ble_eq_true rfl)⟩ ⟨Nat.zero_le _, Nat.zero_le _⟩ (Nat.le_of_ble_eq_true rfl) dX10_gaps_114 (fun σ h_114 => ?_)
                          have hz := wzen1 hz h_114
                          refine zv_aload_n (j := 0) G dX10_gaps_117 rfl rfl ?_
                          refine zv_iload (j := 7) G dX10_gaps_118 rfl ?_
                          refine zv_i2l G dX10_gaps_120 ?_
                          refine zv_callVv (as := [za_L y8_83.toInt64]) G (by decide) rfl rfl (zc_X10_enters l E y8_83.toInt64 σ (by rw [hz.2]; decide)) zk_X10_enters zm_1422 rfl ⟨(Nat.le_of_ble_eq_true rfl), (Nat.le_of_ble_eq_true rfl)⟩ ⟨Nat.zero_le _, Nat.zero_le _⟩ (Nat.le_of_ble_eq_true rfl) dX10_gaps_121 (fun σ h_121 => ?_)
                          have hz := wzen1 hz h_121
                          refine zv_iload (j := 4) G dX10_gaps_124 rfl ?_
                          refine zv_iload (j := 6) G dX10_gaps_126 rfl ?_
                          refine zv_callSi (as := [za_I 1]) G (zc_X10_flag_at1 l E  σ ) zk_X10_flag zm_1355 rfl ⟨(Nat.le_of_ble_eq_true rfl), (Nat.le_of_ble_eq_true rfl)⟩ ⟨Nat.zero_le _, Nat.zero_le _⟩ (Nat.le_of_ble_eq_true rfl) dX10_gaps_128 (fun r_128 σ h_128 => ?_)
                          obtain ⟨h_128, rfl⟩ := h_128
                          subst h_128
                          refine zv_iadd G dX10_gaps_131 ?_
                          refine zv_top (fun x_132 e_132 => ?_)
                          first | have q_132 := z_addf e_132 (a := y5_41.toInt) (b := 1) rfl rfl (by omega) (by omega) | skip
                          refine zv_istore (lv' := [(5, za_I x_132), (0, za_O 19 93), (1, za_I t), (2, za_I k), (4, za_I td), (6, za_I y6_41), (7, za_I 1), (8, za_I y8_83)]) G dX10_gaps_132 (by decide) rfl ?_
                          obtain ⟨x_134, e_134⟩ : ∃ y : Int32, y = y6_41 + 1 := ⟨_, rfl⟩
                          refine zv_iinc (j := 5) (v := x_134) (lv' := [(6, za_I x_134), (5, za_I x_132), (0, za_O 19 93), (1, za_I t), (2, za_I k), (4, za_I td), (7, za_I 1), (8, za_I y8_83)]) G dX10_gaps_134 rfl (by rw [e_134]; rfl) (by decide) rfl ?_
                          first | have q_134 := z_inc9 (by omega) e_134 | skip
                          refine zv_goto (tgt := 41) G dX10_gaps_137 (by decide) ?_
                          refine zv_sub [2, 3, 4, 5, 1, 0] (lv' := [(0, za_O 19 93), (1, za_I t), (2, za_I k), (4, za_I td), (5, za_I x_132), (6, za_I x_134)]) rfl ?_
                          exact ih_41 x_132 x_134 σ ⟨hz.1, fun z => absurd (congrArg Int32.toInt z) (by have h8 : (0 : Int32).toInt = 0 := (by decide); omega)⟩ (by omega) (by have := z_inc c_45 e_134; omega) (z_meas c_45 e_134 hn_41)
                        · have k_87 := z_cnle c_87 (a := td.toInt) (b := y8_83.toInt) rfl rfl
                          refine zv_aload_n (j := 0) G dX10_gaps_90 rfl rfl ?_
                          refine zg_X10_118 G dX10_gaps_91 ?_
                          refine zv_iload_n (j := 1) G dX10_gaps_94 rfl rfl ?_
                          refine zv_iload_n (j := 2) G dX10_gaps_95 rfl rfl ?_
                          refine zv_iload (j := 7) G dX10_gaps_96 rfl ?_
                          refine zv_callSi (as := [za_O 22 99, za_I t, za_I k, za_I y8_83]) G (zc_X10_isThere_at0 l E 99 t k y8_83 σ t_6 t_13 hz.1) zk_X10_isThere zm_1324 rfl ⟨(Nat.le_of_ble_eq_true rfl), (Nat.le_of_ble_eq_true rfl)⟩ ⟨Nat.zero_le _, Nat.zero_le _⟩ (Nat.le_of_ble_eq_true rfl) dX10_gaps_98 (fun r_98 σ h_98 => ?_)
                          obtain ⟨h_98, rfl⟩ := h_98
                          subst h_98
                          refine zv_if_ne (tgt := 110) G dX10_gaps_101 (by decide) (fun c_101 => ?_) (fun c_101 => ?_)
                          · exact absurd c_101 (by decide)
                          · have k_101 := z_ceq c_101 (a := 0) (b := 0) rfl rfl
                            obtain ⟨x_104, e_104⟩ : ∃ y : Int32, y = y8_83 + 1 := ⟨_, rfl⟩
                            refine zv_iinc (j := 7) (v := x_104) (lv' := [(8, za_I x_104), (0, za_O 19 93), (1, za_I t), (2, za_I k), (4, za_I td), (5, za_I y5_41), (6, za_I y6_41), (7, za_I 1)]) G dX10_gaps_104 rfl (by rw [e_104]; rfl) (by decide) rfl ?_
                            first | have q_104 := z_inc9 (by omega) e_104 | skip
                            refine zv_goto (tgt := 83) G dX10_gaps_107 (by decide) ?_
                            refine zv_sub [1, 2, 3, 4, 5, 6, 7, 0] (lv' := [(0, za_O 19 93), (1, za_I t), (2, za_I k), (4, za_I td), (5, za_I y5_41), (6, za_I y6_41), (7, za_I 1), (8, za_I x_104)]) rfl ?_
                            exact ih_83 x_104 σ hz (by omega) (by have := z_inc c_87 e_104; omega) (z_meas c_87 e_104 hn_83)
                    refine zv_istore (lv' := [(8, za_I y6_41), (7, za_I 1), (0, za_O 19 93), (1, za_I t), (2, za_I k), (4, za_I td), (5, za_I y5_41), (6, za_I y6_41)]) G dX10_gaps_81 (by decide) rfl ?_
                    refine zv_sub [2, 3, 4, 5, 6, 7, 1, 0] (lv' := [(0, za_O 19 93), (1, za_I t), (2, za_I k), (4, za_I td), (5, za_I y5_41), (6, za_I y6_41), (7, za_I 1), (8, za_I y6_41)]) rfl ?_
                    exact J_83 _ y6_41 σ hz (by omega) i6_41 (Nat.lt_succ_self _)
        refine zv_istore (lv' := [(6, za_I fd), (5, za_I 0), (0, za_O 19 93), (1, za_I t), (2, za_I k), (3, za_I fd), (4, za_I td)]) G dX10_gaps_39 (by decide) rfl ?_
        refine zv_sub [2, 3, 4, 6, 1, 0] (lv' := [(0, za_O 19 93), (1, za_I t), (2, za_I k), (4, za_I td), (5, za_I 0), (6, za_I fd)]) rfl ?_
        exact J_41 _ (0 : Int32) fd σ ⟨wzN9 hz, fun _ => hz 93 (by decide) 1⟩ (by have h8 : (0 : Int32).toInt = 0 := (by decide); omega) (by first | assumption | omega) (Nat.lt_succ_self _)
      · have f_22 := fun q9 => (h_22.2.mpr q9) c_25
        refine zv_iconst (v := (-1)) G dX10_gaps_28 (by decide) ?_
        exact zv_iret G hr dX10_gaps_29 (wzAn_n (fun q => by first | exact f_6 (by omega) | exact f_13 (by omega) | exact f_22 (by omega)))
set_option maxHeartbeats 4000000 in
set_option maxRecDepth 100000 in
theorem zc_X10_covers_at0 (l : Launch) (E : za_E) (k : Int32) (fd : Int32) (td : Int32) (σ0 : za_S) (h0 : wzZ σ0) : zMi l E yX10_covers cX10_covers 6 (Option.some Jvm.ClassFile.FieldType.int) 6 138 [za_O 19 93, za_I k, za_I fd, za_I td] σ0 (fun r σ' => wzAn ((0 ≤ k.toInt ∧ k.toInt ≤ 9) ∧ (0 ≤ fd.toInt ∧ fd.toInt ≤ 99) ∧ fd.toInt < td.toInt ∧ td.toInt ≤ 100) 0 (-1) r) := by
  refine zMi_of [(0, za_O 19 93), (1, za_I k), (2, za_I fd), (3, za_I td)] (by decide) rfl rfl (Nat.le_of_ble_eq_true rfl) ?_
  intro ho p e s m args below meth c G hr
  refine zv_gen (R9 := wzZ) h0 (fun σ hz => ?_)
  refine zv_aload_n (j := 0) G dX10_covers_0 rfl rfl ?_
  refine zv_iconst (v := 0) G dX10_covers_1 (by decide) ?_
  refine zp_X10_3 G dX10_covers_2 ?_
  refine zv_gen (R9 := wzZ) (wzZ_w hz) (fun σ hz => ?_)
  refine zv_iload_n (j := 1) G dX10_covers_5 rfl rfl ?_
  refine zv_callSi (as := [za_I k]) G (zc_X10_isKey l E k σ ) zk_X10_isKey zm_1375 rfl ⟨(Nat.le_of_ble_eq_true rfl), (Nat.le_of_ble_eq_true rfl)⟩ ⟨Nat.zero_le _, Nat.zero_le _⟩ (Nat.le_of_ble_eq_true rfl) dX10_covers_6 (fun r_6 σ h_6 => ?_)
  obtain ⟨h_6, rfl⟩ := h_6
  refine zv_if_eq (tgt := 20) G dX10_covers_9 (by decide) (fun c_9 => ?_) (fun c_9 => ?_)
  · have f_6 := fun q9 => (h_6.2.mpr q9) c_9
    refine zv_iconst (v := (-1)) G dX10_covers_20 (by decide) ?_
    exact zv_iret G hr dX10_covers_21 (wzAn_n (fun q => by first | exact f_6 (by omega) | exact f_14 (by omega)))
  · have t_6 := h_6.2.mp c_9
    refine zv_iload_n (j := 2) G dX10_covers_12 rfl rfl ?_
    refine zv_iload_n (j := 3) G dX10_covers_13 rfl rfl ?_
    refine zv_callSi (as := [za_I fd, za_I td]) G (zc_X10_isPeriod l E fd td σ ) zk_X10_isPeriod zm_1379 rfl ⟨(Nat.le_of_ble_eq_true rfl), (Nat.le_of_ble_eq_true rfl)⟩ ⟨Nat.zero_le _, Nat.zero_le _⟩ (Nat.le_of_ble_eq_true rfl) dX10_covers_14 (fun r_14 σ h_14 => ?_)
    obtain ⟨h_14, rfl⟩ := h_14
    refine zv_if_ne (tgt := 22) G dX10_covers_17 (by decide) (fun c_17 => ?_) (fun c_17 => ?_)
    · have t_14 := h_14.2.mp c_17
      refine zv_iconst (v := 1) G dX10_covers_22 (by decide) ?_
      refine zv_istore (lv' := [(4, za_I 1), (0, za_O 19 93), (1, za_I k), (2, za_I fd), (3, za_I td)]) G dX10_covers_23 (by decide) rfl ?_
      refine zv_iload_n (j := 3) G dX10_covers_25 rfl rfl ?_
      have J_28 : ∀ (n : Nat) (y4_28 : Int32) (y5_28 : Int32) (σ : za_S) (hz : wzZ σ) (g_28 : (y5_28 = fd ∧ y4_28 = 1) ∨ (fd.toInt < y5_28.toInt ∧ y4_28 = 0)) (l_28 : fd.toInt ≤ y5_28.toInt) (i5_28 : 0 ≤ y5_28.toInt) (hn_28 : (2147483648 - y5_28.toInt).toNat < n), zV p l e (zRm 6 138) s m args below meth c E (za_A E) 6 0 0 (MQ below (va_Qi (fun r σ' => wzAn ((0 ≤ k.toInt ∧ k.toInt ≤ 9) ∧ (0 ≤ fd.toInt ∧ fd.toInt ≤ 99) ∧ fd.toInt < td.toInt ∧ td.toInt ≤ 100) 0 (-1) r) (zB E) (za_A E)) args s 0 0 (za_A E)) 28 [(0, za_O 19 93), (1, za_I k), (2, za_I fd), (3, za_I td), (4, za_I y4_28), (5, za_I y5_28)] [] σ := by
        intro n
        induction n with
        | zero => intro y4_28 y5_28 σ hz g_28 l_28 i5_28 hn; exact absurd hn (Nat.not_lt_zero _)
        | succ n ih_28 =>
          intro y4_28 y5_28 σ hz g_28 l_28 i5_28 hn_28
          refine zv_iload (j := 5) G dX10_covers_28 rfl ?_
          refine zv_iload_n (j := 3) G dX10_covers_30 rfl rfl ?_
          refine zv_icmp_ge (tgt := 66) G dX10_covers_31 (by decide) (fun c_31 => ?_) (fun c_31 => ?_)
          · have k_31 := z_cle c_31 (a := td.toInt) (b := y5_28.toInt) rfl rfl
            refine zv_aload_n (j := 0) G dX10_covers_66 rfl rfl ?_
            refine zv_iconst (v := 0) G dX10_covers_67 (by decide) ?_
            refine zp_X10_15 G dX10_covers_68 ?_
            refine zv_gen (R9 := wzZ) (wzZ_w hz) (fun σ hz => ?_)
            refine zv_aload_n (j := 0) G dX10_covers_71 rfl rfl ?_
            refine zv_aload_n (j := 0) G dX10_covers_72 rfl rfl ?_
            refine zg_X10_118 G dX10_covers_73 ?_
            refine zv_iconst (v := 1) G dX10_covers_76 (by decide) ?_
            refine zv_iload_n (j := 1) G dX10_covers_77 rfl rfl ?_
            refine zv_iload_n (j := 2) G dX10_covers_78 rfl rfl ?_
            refine zv_iload_n (j := 3) G dX10_covers_79 rfl rfl ?_
            refine zv_callSi (as := [za_O 22 99, za_I 1, za_I k, za_I fd, za_I td]) G (zc_X10_rowsIn l E 99 (1 : Int32) k fd td σ (by decide) t_6) zk_X10_rowsIn zm_1382 rfl ⟨(Nat.le_of_ble_eq_true rfl), (Nat.le_of_ble_eq_true rfl)⟩ ⟨Nat.zero_le _, Nat.zero_le _⟩ (Nat.le_of_ble_eq_true rfl) dX10_covers_80 (fun r_80 σ h_80 => ?_)
            subst h_80
            refine zv_i2l G dX10_covers_83 ?_
            refine zv_callVv (as := [za_L r_80.toInt64]) G (by decide) rfl rfl (zc_X10_enters l E r_80.toInt64 σ (by rw [hz 93 (by decide) 1]; decide)) zk_X10_enters zm_1422 rfl ⟨(Nat.le_of_ble_eq_true rfl), (Nat.le_of_ble_eq_true rfl)⟩ ⟨Nat.zero_le _, Nat.zero_le _⟩ (Nat.le_of_ble_eq_true rfl) dX10_covers_84 (fun σ h_84 => ?_)
            have hz : True := trivial
            refine zv_iload (j := 4) G dX10_covers_87 rfl ?_
            refine zv_callSi (as := [za_I y4_28]) G (zc_X10_flag l E y4_28 σ ) zk_X10_flag zm_1355 rfl ⟨(Nat.le_of_ble_eq_true rfl), (Nat.le_of_ble_eq_true rfl)⟩ ⟨Nat.zero_le _, Nat.zero_le _⟩ (Nat.le_of_ble_eq_true rfl) dX10_covers_89 (fun r_89 σ h_89 => ?_)
            obtain ⟨h_89, rfl⟩ := h_89
            have g_89 := z_flagT h_89.2 (a := y4_28.toInt) rfl
            exact zv_iret G hr dX10_covers_92 (wzAn_e ⟨t_6, t_14⟩ (h_89.2.trans (by rcases g_28 with z | z; (exfalso; have h8 := congrArg Int32.toInt z.1; omega); rw [z.2]; rfl)))
          · have k_31 := z_cnle c_31 (a := td.toInt) (b := y5_28.toInt) rfl rfl
            refine zv_iload (j := 4) G dX10_covers_34 rfl ?_
            refine zv_if_eq (tgt := 57) G dX10_covers_36 (by decide) (fun c_36 => ?_) (fun c_36 => ?_)
            · have k_36 := z_ceq c_36 (a := y4_28.toInt) (b := 0) rfl rfl
              refine zv_iconst (v := 0) G dX10_covers_57 (by decide) ?_
              refine zv_istore (lv' := [(4, za_I 0), (0, za_O 19 93), (1, za_I k), (2, za_I fd), (3, za_I td), (5, za_I y5_28)]) G dX10_covers_58 (by decide) rfl ?_
              obtain ⟨x_60, e_60⟩ : ∃ y : Int32, y = y5_28 + 1 := ⟨_, rfl⟩
              refine zv_iinc (j := 5) (v := x_60) (lv' := [(5, za_I x_60), (4, za_I 0), (0, za_O 19 93), (1, za_I k), (2, za_I fd), (3, za_I td)]) G dX10_covers_60 rfl (by rw [e_60]; rfl) (by decide) rfl ?_
              first | have q_60 := z_inc9 (by omega) e_60 | skip
              refine zv_goto (tgt := 28) G dX10_covers_63 (by decide) ?_
              refine zv_sub [2, 3, 4, 5, 1, 0] (lv' := [(0, za_O 19 93), (1, za_I k), (2, za_I fd), (3, za_I td), (4, za_I 0), (5, za_I x_60)]) rfl ?_
              exact ih_28 (0 : Int32) x_60 σ hz (Or.inr ⟨by omega, rfl⟩) (by omega) (by have := z_inc c_31 e_60; omega) (z_meas c_31 e_60 hn_28)
            · have k_36 := z_cne c_36 (a := y4_28.toInt) (b := 0) rfl rfl
              refine zv_aload_n (j := 0) G dX10_covers_39 rfl rfl ?_
              refine zg_X10_118 G dX10_covers_40 ?_
              refine zv_iconst (v := 1) G dX10_covers_43 (by decide) ?_
              refine zv_iload_n (j := 1) G dX10_covers_44 rfl rfl ?_
              refine zv_iload (j := 5) G dX10_covers_45 rfl ?_
              refine zv_callSi (as := [za_O 22 99, za_I 1, za_I k, za_I y5_28]) G (zc_X10_isThere_at0 l E 99 (1 : Int32) k y5_28 σ (by decide) t_6 (wzN9 hz)) zk_X10_isThere zm_1324 rfl ⟨(Nat.le_of_ble_eq_true rfl), (Nat.le_of_ble_eq_true rfl)⟩ ⟨Nat.zero_le _, Nat.zero_le _⟩ (Nat.le_of_ble_eq_true rfl) dX10_covers_47 (fun r_47 σ h_47 => ?_)
              obtain ⟨h_47, rfl⟩ := h_47
              subst h_47
              refine zv_if_eq (tgt := 57) G dX10_covers_50 (by decide) (fun c_50 => ?_) (fun c_50 => ?_)
              · have k_50 := z_ceq c_50 (a := 0) (b := 0) rfl rfl
                refine zv_iconst (v := 0) G dX10_covers_57 (by decide) ?_
                refine zv_istore (lv' := [(4, za_I 0), (0, za_O 19 93), (1, za_I k), (2, za_I fd), (3, za_I td), (5, za_I y5_28)]) G dX10_covers_58 (by decide) rfl ?_
                obtain ⟨x_60, e_60⟩ : ∃ y : Int32, y = y5_28 + 1 := ⟨_, rfl⟩
                refine zv_iinc (j := 5) (v := x_60) (lv' := [(5, za_I x_60), (4, za_I 0), (0, za_O 19 93), (1, za_I k), (2, za_I fd), (3, za_I td)]) G dX10_covers_60 rfl (by rw [e_60]; rfl) (by decide) rfl ?_
                first | have q_60 := z_inc9 (by omega) e_60 | skip
                refine zv_goto (tgt := 28) G dX10_covers_63 (by decide) ?_
                refine zv_sub [2, 3, 4, 5, 1, 0] (lv' := [(0, za_O 19 93), (1, za_I k), (2, za_I fd), (3, za_I td), (4, za_I 0), (5, za_I x_60)]) rfl ?_
                exact ih_28 (0 : Int32) x_60 σ hz (Or.inr ⟨by omega, rfl⟩) (by omega) (by have := z_inc c_31 e_60; omega) (z_meas c_31 e_60 hn_28)
              · exact absurd c_50 (by decide)
      refine zv_istore (lv' := [(5, za_I fd), (4, za_I 1), (0, za_O 19 93), (1, za_I k), (2, za_I fd), (3, za_I td)]) G dX10_covers_26 (by decide) rfl ?_
      refine zv_sub [2, 3, 4, 5, 1, 0] (lv' := [(0, za_O 19 93), (1, za_I k), (2, za_I fd), (3, za_I td), (4, za_I 1), (5, za_I fd)]) rfl ?_
      exact J_28 _ (1 : Int32) fd σ hz (Or.inl ⟨rfl, rfl⟩) (by omega) (by first | assumption | omega) (Nat.lt_succ_self _)
    · have f_14 := fun q9 => (h_14.2.mpr q9) c_17
      refine zv_iconst (v := (-1)) G dX10_covers_20 (by decide) ?_
      exact zv_iret G hr dX10_covers_21 (wzAn_n (fun q => by first | exact f_6 (by omega) | exact f_14 (by omega)))
set_option maxHeartbeats 4000000 in
set_option maxRecDepth 100000 in
theorem zc_X10_lies_at0 (l : Launch) (E : za_E) (t : Int32) (i : Int32) (o : Int32) (j : Int32) (σ0 : za_S) (h0 : wzZ σ0) : zMi l E yX10_lies cX10_lies 9 (Option.some Jvm.ClassFile.FieldType.int) 6 138 [za_O 19 93, za_I t, za_I i, za_I o, za_I j] σ0 (fun r σ' => r = -1) := by
  refine zMi_of [(0, za_O 19 93), (1, za_I t), (2, za_I i), (3, za_I o), (4, za_I j)] (by decide) rfl rfl (Nat.le_of_ble_eq_true rfl) ?_
  intro ho p e s m args below meth c G hr
  refine zv_gen (R9 := wzZ) h0 (fun σ hz => ?_)
  refine zv_aload_n (j := 0) G dX10_lies_0 rfl rfl ?_
  refine zv_iconst (v := 0) G dX10_lies_1 (by decide) ?_
  refine zp_X10_3 G dX10_lies_2 ?_
  refine zv_gen (R9 := wzZ) (wzZ_w hz) (fun σ hz => ?_)
  refine zv_iload_n (j := 1) G dX10_lies_5 rfl rfl ?_
  refine zv_callSi (as := [za_I t]) G (zc_X10_isTable l E t σ ) zk_X10_isTable zm_1313 rfl ⟨(Nat.le_of_ble_eq_true rfl), (Nat.le_of_ble_eq_true rfl)⟩ ⟨Nat.zero_le _, Nat.zero_le _⟩ (Nat.le_of_ble_eq_true rfl) dX10_lies_6 (fun r_6 σ h_6 => ?_)
  obtain ⟨h_6, rfl⟩ := h_6
  refine zv_if_eq (tgt := 41) G dX10_lies_9 (by decide) (fun c_9 => ?_) (fun c_9 => ?_)
  · have f_6 := fun q9 => (h_6.2.mpr q9) c_9
    refine zv_iconst (v := (-1)) G dX10_lies_41 (by decide) ?_
    exact zv_iret G hr dX10_lies_42 rfl
  · have t_6 := h_6.2.mp c_9
    refine zv_iload_n (j := 3) G dX10_lies_12 rfl rfl ?_
    refine zv_callSi (as := [za_I o]) G (zc_X10_isTable l E o σ ) zk_X10_isTable zm_1313 rfl ⟨(Nat.le_of_ble_eq_true rfl), (Nat.le_of_ble_eq_true rfl)⟩ ⟨Nat.zero_le _, Nat.zero_le _⟩ (Nat.le_of_ble_eq_true rfl) dX10_lies_13 (fun r_13 σ h_13 => ?_)
    obtain ⟨h_13, rfl⟩ := h_13
    refine zv_if_eq (tgt := 41) G dX10_lies_16 (by decide) (fun c_16 => ?_) (fun c_16 => ?_)
    · have f_13 := fun q9 => (h_13.2.mpr q9) c_16
      refine zv_iconst (v := (-1)) G dX10_lies_41 (by decide) ?_
      exact zv_iret G hr dX10_lies_42 rfl
    · have t_13 := h_13.2.mp c_16
      refine zv_iload_n (j := 2) G dX10_lies_19 rfl rfl ?_
      refine zv_if_lt (tgt := 41) G dX10_lies_20 (by decide) (fun c_20 => ?_) (fun c_20 => ?_)
      · have k_20 := z_clt c_20 (a := i.toInt) (b := 0) rfl rfl
        refine zv_iconst (v := (-1)) G dX10_lies_41 (by decide) ?_
        exact zv_iret G hr dX10_lies_42 rfl
      · have k_20 := z_cnlt c_20 (a := i.toInt) (b := 0) rfl rfl
        refine zv_iload (j := 4) G dX10_lies_23 rfl ?_
        refine zv_if_lt (tgt := 41) G dX10_lies_25 (by decide) (fun c_25 => ?_) (fun c_25 => ?_)
        · have k_25 := z_clt c_25 (a := j.toInt) (b := 0) rfl rfl
          refine zv_iconst (v := (-1)) G dX10_lies_41 (by decide) ?_
          exact zv_iret G hr dX10_lies_42 rfl
        · have k_25 := z_cnlt c_25 (a := j.toInt) (b := 0) rfl rfl
          refine zv_aload_n (j := 0) G dX10_lies_28 rfl rfl ?_
          refine zv_aload_n (j := 0) G dX10_lies_29 rfl rfl ?_
          refine zg_X10_118 G dX10_lies_30 ?_
          refine zv_iload_n (j := 1) G dX10_lies_33 rfl rfl ?_
          refine zv_iload_n (j := 2) G dX10_lies_34 rfl rfl ?_
          refine zv_callVi (as := [za_O 22 99, za_I t, za_I i]) G (by decide) rfl rfl (zc_X10_seeks l E 99 t i σ t_6 (by omega)) zk_X10_seeks zm_1317 rfl ⟨(Nat.le_of_ble_eq_true rfl), (Nat.le_of_ble_eq_true rfl)⟩ ⟨Nat.zero_le _, Nat.zero_le _⟩ (Nat.le_of_ble_eq_true rfl) dX10_lies_35 (fun r_35 σ h_35 => ?_)
          obtain ⟨a_35, s_35⟩ := wzsk0 (wzN9 hz) (by omega) h_35
          subst s_35
          refine zv_if_ne (tgt := 43) G dX10_lies_38 (by decide) (fun c_38 => ?_) (fun c_38 => ?_)
          · exact absurd a_35 c_38
          · refine zv_iconst (v := (-1)) G dX10_lies_41 (by decide) ?_
            exact zv_iret G hr dX10_lies_42 rfl
set_option maxHeartbeats 4000000 in
set_option maxRecDepth 100000 in
theorem zc_X10_changes_at0 (l : Launch) (E : za_E) (t : Int32) (k : Int32) (σ0 : za_S) (h0 : wzZ σ0) : zMi l E yX10_changes cX10_changes 6 (Option.some Jvm.ClassFile.FieldType.int) 4 89 [za_O 19 93, za_I t, za_I k] σ0 (fun r σ' => wzAn ((0 ≤ t.toInt ∧ t.toInt ≤ 1) ∧ (0 ≤ k.toInt ∧ k.toInt ≤ 9)) 0 (-1) r) := by
  refine zMi_of [(0, za_O 19 93), (1, za_I t), (2, za_I k)] (by decide) rfl rfl (Nat.le_of_ble_eq_true rfl) ?_
  intro ho p e s m args below meth c G hr
  refine zv_gen (R9 := wzZ) h0 (fun σ hz => ?_)
  refine zv_aload_n (j := 0) G dX10_changes_0 rfl rfl ?_
  refine zv_iconst (v := 0) G dX10_changes_1 (by decide) ?_
  refine zp_X10_3 G dX10_changes_2 ?_
  refine zv_gen (R9 := wzZ) (wzZ_w hz) (fun σ hz => ?_)
  refine zv_iload_n (j := 1) G dX10_changes_5 rfl rfl ?_
  refine zv_callSi (as := [za_I t]) G (zc_X10_isTable l E t σ ) zk_X10_isTable zm_1313 rfl ⟨(Nat.le_of_ble_eq_true rfl), (Nat.le_of_ble_eq_true rfl)⟩ ⟨Nat.zero_le _, Nat.zero_le _⟩ (Nat.le_of_ble_eq_true rfl) dX10_changes_6 (fun r_6 σ h_6 => ?_)
  obtain ⟨h_6, rfl⟩ := h_6
  refine zv_if_eq (tgt := 19) G dX10_changes_9 (by decide) (fun c_9 => ?_) (fun c_9 => ?_)
  · have f_6 := fun q9 => (h_6.2.mpr q9) c_9
    refine zv_iconst (v := (-1)) G dX10_changes_19 (by decide) ?_
    exact zv_iret G hr dX10_changes_20 (wzAn_n (fun q => by first | exact f_6 (by omega) | exact f_13 (by omega)))
  · have t_6 := h_6.2.mp c_9
    refine zv_iload_n (j := 2) G dX10_changes_12 rfl rfl ?_
    refine zv_callSi (as := [za_I k]) G (zc_X10_isKey l E k σ ) zk_X10_isKey zm_1375 rfl ⟨(Nat.le_of_ble_eq_true rfl), (Nat.le_of_ble_eq_true rfl)⟩ ⟨Nat.zero_le _, Nat.zero_le _⟩ (Nat.le_of_ble_eq_true rfl) dX10_changes_13 (fun r_13 σ h_13 => ?_)
    obtain ⟨h_13, rfl⟩ := h_13
    refine zv_if_ne (tgt := 21) G dX10_changes_16 (by decide) (fun c_16 => ?_) (fun c_16 => ?_)
    · have t_13 := h_13.2.mp c_16
      refine zv_iconst (v := 0) G dX10_changes_21 (by decide) ?_
      refine zv_istore_n (lv' := [(3, za_I 0), (0, za_O 19 93), (1, za_I t), (2, za_I k)]) G dX10_changes_22 rfl (by decide) rfl ?_
      refine zv_aload_n (j := 1) G dX10_changes_23 rfl rfl ?_
      refine zv_iconst (v := 0) G dX10_changes_24 (by decide) ?_
      refine zp_X10_15 G dX10_changes_25 ?_
      refine zv_gen (R9 := wzZ) (wzZ_w hz) (fun σ hz => ?_)
      refine zv_iconst (v := 1) G dX10_changes_28 (by decide) ?_
      have J_31 : ∀ (n : Nat) (y3_31 : Int32) (y4_31 : Int32) (σ : za_S) (hz : wzZ σ) (s_31 : y3_31 = 0) (i4_31 : 0 ≤ y4_31.toInt) (u4_31 : y4_31.toInt ≤ 100) (hn_31 : (2147483648 - y4_31.toInt).toNat < n), zV p l e (zRm 4 89) s m args below meth c E (za_A E) 6 0 0 (MQ below (va_Qi (fun r σ' => wzAn ((0 ≤ t.toInt ∧ t.toInt ≤ 1) ∧ (0 ≤ k.toInt ∧ k.toInt ≤ 9)) 0 (-1) r) (zB E) (za_A E)) args s 0 0 (za_A E)) 31 [(0, za_O 19 93), (1, za_I t), (2, za_I k), (3, za_I y3_31), (4, za_I y4_31)] [] σ := by
        intro n
        induction n with
        | zero => intro y3_31 y4_31 σ hz s_31 i4_31 u4_31 hn; exact absurd hn (Nat.not_lt_zero _)
        | succ n ih_31 =>
          intro y3_31 y4_31 σ hz s_31 i4_31 u4_31 hn_31
          refine zv_iload (j := 4) G dX10_changes_31 rfl ?_
          refine zv_bipush (v := 100) G dX10_changes_33 (by decide) ?_
          refine zv_icmp_ge (tgt := 134) G dX10_changes_35 (by decide) (fun c_35 => ?_) (fun c_35 => ?_)
          · have k_35 := z_cle c_35 (a := 100) (b := y4_31.toInt) rfl rfl
            refine zv_iload_n (j := 3) G dX10_changes_134 rfl rfl ?_
            exact zv_iret G hr dX10_changes_135 (wzAn_e (by omega) s_31)
          · have b_35 : 0 ≤ y4_31.toInt ∧ y4_31.toInt < 100 := ⟨i4_31, z_ltk c_35 rfl⟩
            have k_35 := z_cnle c_35 (a := 100) (b := y4_31.toInt) rfl rfl
            refine zv_aload_n (j := 0) G dX10_changes_38 rfl rfl ?_
            refine zg_X10_118 G dX10_changes_39 ?_
            refine zv_iload_n (j := 1) G dX10_changes_42 rfl rfl ?_
            refine zv_iload_n (j := 2) G dX10_changes_43 rfl rfl ?_
            refine zv_iload (j := 4) G dX10_changes_44 rfl ?_
            refine zv_callSi (as := [za_O 22 99, za_I t, za_I k, za_I y4_31]) G (zc_X10_isThere_at0 l E 99 t k y4_31 σ t_6 t_13 (wzN9 hz)) zk_X10_isThere zm_1324 rfl ⟨(Nat.le_of_ble_eq_true rfl), (Nat.le_of_ble_eq_true rfl)⟩ ⟨Nat.zero_le _, Nat.zero_le _⟩ (Nat.le_of_ble_eq_true rfl) dX10_changes_46 (fun r_46 σ h_46 => ?_)
            obtain ⟨h_46, rfl⟩ := h_46
            subst h_46
            refine zv_if_eq (tgt := 99) G dX10_changes_49 (by decide) (fun c_49 => ?_) (fun c_49 => ?_)
            · have k_49 := z_ceq c_49 (a := 0) (b := 0) rfl rfl
              refine zv_iconst (v := 0) G dX10_changes_99 (by decide) ?_
              refine zv_istore (lv' := [(5, za_I 0), (0, za_O 19 93), (1, za_I t), (2, za_I k), (3, za_I y3_31), (4, za_I y4_31)]) G dX10_changes_100 (by decide) rfl ?_
              refine zv_iload (j := 0) G dX10_changes_102 rfl ?_
              refine zv_if_eq (tgt := 120) G dX10_changes_104 (by decide) (fun c_104 => ?_) (fun c_104 => ?_)
              · have k_104 := z_ceq c_104 (a := 0) (b := 0) rfl rfl
                refine zv_iload_n (j := 4) G dX10_changes_120 rfl rfl ?_
                refine zv_iload (j := 0) G dX10_changes_121 rfl ?_
                refine zv_callSi (as := [za_I 0]) G (zc_X10_flag_at0 l E  σ ) zk_X10_flag zm_1355 rfl ⟨(Nat.le_of_ble_eq_true rfl), (Nat.le_of_ble_eq_true rfl)⟩ ⟨Nat.zero_le _, Nat.zero_le _⟩ (Nat.le_of_ble_eq_true rfl) dX10_changes_123 (fun r_123 σ h_123 => ?_)
                obtain ⟨h_123, rfl⟩ := h_123
                subst h_123
                refine zv_iadd G dX10_changes_126 ?_
                refine zv_top (fun x_127 e_127 => ?_)
                first | have q_127 := z_addf e_127 (a := y3_31.toInt) (b := 0) rfl rfl (by omega) (by omega) | skip
                refine zv_istore_n (lv' := [(3, za_I x_127), (5, za_I 0), (0, za_O 19 93), (1, za_I t), (2, za_I k), (4, za_I y4_31)]) G dX10_changes_127 rfl (by decide) rfl ?_
                obtain ⟨x_128, e_128⟩ : ∃ y : Int32, y = y4_31 + 1 := ⟨_, rfl⟩
                refine zv_iinc (j := 5) (v := x_128) (lv' := [(4, za_I x_128), (3, za_I x_127), (5, za_I 0), (0, za_O 19 93), (1, za_I t), (2, za_I k)]) G dX10_changes_128 rfl (by rw [e_128]; rfl) (by decide) rfl ?_
                first | have q_128 := z_inc9 (by omega) e_128 | skip
                refine zv_goto (tgt := 31) G dX10_changes_131 (by decide) ?_
                refine zv_sub [3, 4, 5, 1, 0] (lv' := [(0, za_O 19 93), (1, za_I t), (2, za_I k), (3, za_I x_127), (4, za_I x_128)]) rfl ?_
                exact ih_31 x_127 x_128 σ hz (by rw [e_127, s_31]; decide) (by have := z_inc c_35 e_128; omega) (by have := z_inc9 (by omega) e_128; omega) (z_meas c_35 e_128 hn_31)
              · exact absurd c_104 (by decide)
            · exact absurd c_49 (by decide)
      refine zv_istore (lv' := [(4, za_I 1), (3, za_I 0), (0, za_O 19 93), (1, za_I t), (2, za_I k)]) G dX10_changes_29 (by decide) rfl ?_
      refine zv_sub [2, 3, 4, 1, 0] (lv' := [(0, za_O 19 93), (1, za_I t), (2, za_I k), (3, za_I 0), (4, za_I 1)]) rfl ?_
      exact J_31 _ (0 : Int32) (1 : Int32) σ hz rfl (by decide) (by decide) (Nat.lt_succ_self _)
    · have f_13 := fun q9 => (h_13.2.mpr q9) c_16
      refine zv_iconst (v := (-1)) G dX10_changes_19 (by decide) ?_
      exact zv_iret G hr dX10_changes_20 (wzAn_n (fun q => by first | exact f_6 (by omega) | exact f_13 (by omega)))
set_option maxHeartbeats 4000000 in
set_option maxRecDepth 100000 in
theorem zc_X10_rows_at0 (l : Launch) (E : za_E) (t : Int32) (σ0 : za_S) (h0 : wzZ σ0) : zMi l E yX10_rows cX10_rows 3 (Option.some Jvm.ClassFile.FieldType.int) 6 137 [za_O 19 93, za_I t] σ0 (fun r σ' => wzAn ((0 ≤ t.toInt ∧ t.toInt ≤ 1)) 0 (-1) r) := by
  refine zMi_of [(0, za_O 19 93), (1, za_I t)] (by decide) rfl rfl (Nat.le_of_ble_eq_true rfl) ?_
  intro ho p e s m args below meth c G hr
  refine zv_gen (R9 := wzZ) h0 (fun σ hz => ?_)
  refine zv_aload_n (j := 0) G dX10_rows_0 rfl rfl ?_
  refine zv_iconst (v := 0) G dX10_rows_1 (by decide) ?_
  refine zp_X10_3 G dX10_rows_2 ?_
  refine zv_gen (R9 := wzZ) (wzZ_w hz) (fun σ hz => ?_)
  refine zv_iload_n (j := 1) G dX10_rows_5 rfl rfl ?_
  refine zv_callSi (as := [za_I t]) G (zc_X10_isTable l E t σ ) zk_X10_isTable zm_1313 rfl ⟨(Nat.le_of_ble_eq_true rfl), (Nat.le_of_ble_eq_true rfl)⟩ ⟨Nat.zero_le _, Nat.zero_le _⟩ (Nat.le_of_ble_eq_true rfl) dX10_rows_6 (fun r_6 σ h_6 => ?_)
  obtain ⟨h_6, rfl⟩ := h_6
  refine zv_if_ne (tgt := 14) G dX10_rows_9 (by decide) (fun c_9 => ?_) (fun c_9 => ?_)
  · have t_6 := h_6.2.mp c_9
    refine zv_aload_n (j := 0) G dX10_rows_14 rfl rfl ?_
    refine zv_callVv (as := []) G (by decide) rfl rfl (zc_X10_copies l E  σ ) zk_X10_copies zm_1560 rfl ⟨(Nat.le_of_ble_eq_true rfl), (Nat.le_of_ble_eq_true rfl)⟩ ⟨Nat.zero_le _, Nat.zero_le _⟩ (Nat.le_of_ble_eq_true rfl) dX10_rows_15 (fun σ h_15 => ?_)
    have hz := wzZ_cp hz (by decide) h_15
    refine zv_aload_n (j := 0) G dX10_rows_18 rfl rfl ?_
    refine zg_X10_118 G dX10_rows_19 ?_
    refine zv_iload_n (j := 1) G dX10_rows_22 rfl rfl ?_
    refine zv_callSi (as := [za_O 22 99, za_I t]) G (zc_X10_rowsOf l E 99 t σ t_6) zk_X10_rowsOf zm_1352 rfl ⟨(Nat.le_of_ble_eq_true rfl), (Nat.le_of_ble_eq_true rfl)⟩ ⟨Nat.zero_le _, Nat.zero_le _⟩ (Nat.le_of_ble_eq_true rfl) dX10_rows_23 (fun r_23 σ h_23 => ?_)
    obtain ⟨h_23, rfl⟩ := h_23
    have a_23 := wzro0 (wzN9 hz) h_23
    refine zv_istore_n (lv' := [(2, za_I r_23), (0, za_O 19 93), (1, za_I t)]) G dX10_rows_26 rfl (by decide) rfl ?_
    refine zv_aload_n (j := 1) G dX10_rows_27 rfl rfl ?_
    refine zv_iconst (v := 0) G dX10_rows_28 (by decide) ?_
    refine zp_X10_15 G dX10_rows_29 ?_
    refine zv_gen (R9 := wzZ) (wzZ_w hz) (fun σ hz => ?_)
    refine zv_aload_n (j := 1) G dX10_rows_32 rfl rfl ?_
    refine zv_iload_n (j := 0) G dX10_rows_33 rfl rfl ?_
    refine zv_aload_n (j := 1) G dX10_rows_34 rfl rfl ?_
    refine zg_X10_121 G dX10_rows_35 ?_
    refine zv_iload_n (j := 2) G dX10_rows_38 rfl rfl ?_
    refine zv_callSi (as := [za_O 22 100, za_I t]) G (zc_X10_joinsAll l E 100 t σ t_6 (wzZ_G hz (by decide))) zk_X10_joinsAll zm_1467 rfl ⟨(Nat.le_of_ble_eq_true rfl), (Nat.le_of_ble_eq_true rfl)⟩ ⟨Nat.zero_le _, Nat.zero_le _⟩ (Nat.le_of_ble_eq_true rfl) dX10_rows_39 (fun r_39 σ h_39 => ?_)
    have hz : σ.1 93 1 = 0 := (wzfx_t1 h_39.1 (by decide)).trans (hz 93 (by decide) 1)
    refine zv_isub G dX10_rows_42 ?_
    refine zv_i2l G dX10_rows_43 ?_
    refine zv_callVv (as := [za_L ((r_23 - r_39).toInt64)]) G (by decide) rfl rfl (zc_X10_enters l E ((r_23 - r_39).toInt64) σ (by rw [hz]; decide)) zk_X10_enters zm_1422 rfl ⟨(Nat.le_of_ble_eq_true rfl), (Nat.le_of_ble_eq_true rfl)⟩ ⟨Nat.zero_le _, Nat.zero_le _⟩ (Nat.le_of_ble_eq_true rfl) dX10_rows_44 (fun σ h_44 => ?_)
    have hz := wzt_1 hz h_44
    refine zv_aload_n (j := 1) G dX10_rows_47 rfl rfl ?_
    refine zv_aload_n (j := 1) G dX10_rows_48 rfl rfl ?_
    refine zg_X10_118 G dX10_rows_49 ?_
    refine zv_iload_n (j := 2) G dX10_rows_52 rfl rfl ?_
    refine zv_callSi (as := [za_O 22 99, za_I t]) G (zc_X10_daysOf l E 99 t σ t_6) zk_X10_daysOf zm_1564 rfl ⟨(Nat.le_of_ble_eq_true rfl), (Nat.le_of_ble_eq_true rfl)⟩ ⟨Nat.zero_le _, Nat.zero_le _⟩ (Nat.le_of_ble_eq_true rfl) dX10_rows_53 (fun r_53 σ h_53 => ?_)
    subst h_53
    refine zv_i2l G dX10_rows_56 ?_
    refine zv_callVv (as := [za_L r_53.toInt64]) G (by decide) rfl rfl (zc_X10_enters l E r_53.toInt64 σ (by rw [hz]; decide)) zk_X10_enters zm_1422 rfl ⟨(Nat.le_of_ble_eq_true rfl), (Nat.le_of_ble_eq_true rfl)⟩ ⟨Nat.zero_le _, Nat.zero_le _⟩ (Nat.le_of_ble_eq_true rfl) dX10_rows_57 (fun σ h_57 => ?_)
    have hz : True := trivial
    refine zv_iload_n (j := 0) G dX10_rows_60 rfl rfl ?_
    exact zv_iret G hr dX10_rows_61 (wzAn_e t_6 a_23)
  · have f_6 := fun q9 => (h_6.2.mpr q9) c_9
    refine zv_iconst (v := (-1)) G dX10_rows_12 (by decide) ?_
    exact zv_iret G hr dX10_rows_13 (wzAn_n (fun q => by first | exact f_6 (by omega)))
set_option maxHeartbeats 4000000 in
set_option maxRecDepth 100000 in
theorem zc_X10_longest_at0 (l : Launch) (E : za_E) (t : Int32) (σ0 : za_S) (h0 : wzZ σ0) : zMi l E yX10_longest cX10_longest 6 (Option.some Jvm.ClassFile.FieldType.int) 6 138 [za_O 19 93, za_I t] σ0 (fun r σ' => wzAn ((0 ≤ t.toInt ∧ t.toInt ≤ 1)) (-2) (-1) r) := by
  refine zMi_of [(0, za_O 19 93), (1, za_I t)] (by decide) rfl rfl (Nat.le_of_ble_eq_true rfl) ?_
  intro ho p e s m args below meth c G hr
  refine zv_gen (R9 := wzZ) h0 (fun σ hz => ?_)
  refine zv_aload_n (j := 0) G dX10_longest_0 rfl rfl ?_
  refine zv_iconst (v := 0) G dX10_longest_1 (by decide) ?_
  refine zp_X10_3 G dX10_longest_2 ?_
  refine zv_gen (R9 := wzZ) (wzZ_w hz) (fun σ hz => ?_)
  refine zv_iload_n (j := 1) G dX10_longest_5 rfl rfl ?_
  refine zv_callSi (as := [za_I t]) G (zc_X10_isTable l E t σ ) zk_X10_isTable zm_1313 rfl ⟨(Nat.le_of_ble_eq_true rfl), (Nat.le_of_ble_eq_true rfl)⟩ ⟨Nat.zero_le _, Nat.zero_le _⟩ (Nat.le_of_ble_eq_true rfl) dX10_longest_6 (fun r_6 σ h_6 => ?_)
  obtain ⟨h_6, rfl⟩ := h_6
  refine zv_if_ne (tgt := 14) G dX10_longest_9 (by decide) (fun c_9 => ?_) (fun c_9 => ?_)
  · have t_6 := h_6.2.mp c_9
    refine zv_bipush (v := (-2)) G dX10_longest_14 (by decide) ?_
    refine zv_istore_n (lv' := [(2, za_I (-2)), (0, za_O 19 93), (1, za_I t)]) G dX10_longest_16 rfl (by decide) rfl ?_
    refine zv_iconst (v := 0) G dX10_longest_17 (by decide) ?_
    refine zv_istore_n (lv' := [(3, za_I 0), (2, za_I (-2)), (0, za_O 19 93), (1, za_I t)]) G dX10_longest_18 rfl (by decide) rfl ?_
    refine zv_iconst (v := 0) G dX10_longest_19 (by decide) ?_
    refine zv_istore (lv' := [(4, za_I 0), (3, za_I 0), (2, za_I (-2)), (0, za_O 19 93), (1, za_I t)]) G dX10_longest_20 (by decide) rfl ?_
    refine zv_aload_n (j := 3) G dX10_longest_22 rfl rfl ?_
    refine zv_aload_n (j := 3) G dX10_longest_23 rfl rfl ?_
    refine zg_X10_118 G dX10_longest_24 ?_
    refine zv_iload_n (j := 4) G dX10_longest_27 rfl rfl ?_
    refine zv_iload (j := 0) G dX10_longest_28 rfl ?_
    refine zv_callVi (as := [za_O 22 99, za_I t, za_I 0]) G (by decide) rfl rfl (zc_X10_seeks l E 99 t (0 : Int32) σ t_6 (by decide)) zk_X10_seeks zm_1317 rfl ⟨(Nat.le_of_ble_eq_true rfl), (Nat.le_of_ble_eq_true rfl)⟩ ⟨Nat.zero_le _, Nat.zero_le _⟩ (Nat.le_of_ble_eq_true rfl) dX10_longest_30 (fun r_30 σ h_30 => ?_)
    obtain ⟨a_30, s_30⟩ := wzsk0 (wzN9 hz) (by decide) h_30
    subst s_30
    refine zv_if_eq (tgt := 85) G dX10_longest_33 (by decide) (fun c_33 => ?_) (fun c_33 => ?_)
    · refine zv_iload_n (j := 2) G dX10_longest_85 rfl rfl ?_
      refine zv_if_lt (tgt := 100) G dX10_longest_86 (by decide) (fun c_86 => ?_) (fun c_86 => ?_)
      · have k_86 := z_clt c_86 (a := -2) (b := 0) rfl rfl
        refine zv_iload_n (j := 2) G dX10_longest_100 rfl rfl ?_
        exact zv_iret G hr dX10_longest_101 (wzAn_y (by omega))
      · exact absurd c_86 (by decide)
    · exact absurd a_30 c_33
  · have f_6 := fun q9 => (h_6.2.mpr q9) c_9
    refine zv_iconst (v := (-1)) G dX10_longest_12 (by decide) ?_
    exact zv_iret G hr dX10_longest_13 (wzAn_n (fun q => by first | exact f_6 (by omega)))
set_option maxHeartbeats 4000000 in
set_option maxRecDepth 100000 in
theorem zc_X10_free_at0 (l : Launch) (E : za_E) (t : Int32) (k : Int32) (d : Int32) (n : Int32) (σ0 : za_S) (h0 : wzZ σ0) : zMi l E yX10_free cX10_free 6 (Option.some Jvm.ClassFile.FieldType.int) 5 115 [za_O 19 93, za_I t, za_I k, za_I d, za_I n] σ0 (fun r σ' => wzFr ((0 ≤ t.toInt ∧ t.toInt ≤ 1) ∧ (0 ≤ k.toInt ∧ k.toInt ≤ 9) ∧ (0 ≤ d.toInt ∧ d.toInt ≤ 99) ∧ 1 ≤ n.toInt ∧ n.toInt ≤ 100) d.toInt n.toInt d r) := by
  refine zMi_of [(0, za_O 19 93), (1, za_I t), (2, za_I k), (3, za_I d), (4, za_I n)] (by decide) rfl rfl (Nat.le_of_ble_eq_true rfl) ?_
  intro ho p e s m args below meth c G hr
  refine zv_gen (R9 := wzZ) h0 (fun σ hz => ?_)
  refine zv_aload_n (j := 0) G dX10_free_0 rfl rfl ?_
  refine zv_iconst (v := 0) G dX10_free_1 (by decide) ?_
  refine zp_X10_3 G dX10_free_2 ?_
  refine zv_gen (R9 := wzZ) (wzZ_w hz) (fun σ hz => ?_)
  refine zv_iload_n (j := 1) G dX10_free_5 rfl rfl ?_
  refine zv_callSi (as := [za_I t]) G (zc_X10_isTable l E t σ ) zk_X10_isTable zm_1313 rfl ⟨(Nat.le_of_ble_eq_true rfl), (Nat.le_of_ble_eq_true rfl)⟩ ⟨Nat.zero_le _, Nat.zero_le _⟩ (Nat.le_of_ble_eq_true rfl) dX10_free_6 (fun r_6 σ h_6 => ?_)
  obtain ⟨h_6, rfl⟩ := h_6
  refine zv_if_eq (tgt := 39) G dX10_free_9 (by decide) (fun c_9 => ?_) (fun c_9 => ?_)
  · have f_6 := fun q9 => (h_6.2.mpr q9) c_9
    refine zv_iconst (v := (-1)) G dX10_free_39 (by decide) ?_
    exact zv_iret G hr dX10_free_40 ⟨fun _ => rfl, fun q => False.elim (by first | exact f_6 q.1 | exact f_13 q.2.1 | exact f_20 q.2.2.1 | exact f_33 (by rw [z_w]; have hL := z_lL; omega))⟩
  · have t_6 := h_6.2.mp c_9
    refine zv_iload_n (j := 2) G dX10_free_12 rfl rfl ?_
    refine zv_callSi (as := [za_I k]) G (zc_X10_isKey l E k σ ) zk_X10_isKey zm_1375 rfl ⟨(Nat.le_of_ble_eq_true rfl), (Nat.le_of_ble_eq_true rfl)⟩ ⟨Nat.zero_le _, Nat.zero_le _⟩ (Nat.le_of_ble_eq_true rfl) dX10_free_13 (fun r_13 σ h_13 => ?_)
    obtain ⟨h_13, rfl⟩ := h_13
    refine zv_if_eq (tgt := 39) G dX10_free_16 (by decide) (fun c_16 => ?_) (fun c_16 => ?_)
    · have f_13 := fun q9 => (h_13.2.mpr q9) c_16
      refine zv_iconst (v := (-1)) G dX10_free_39 (by decide) ?_
      exact zv_iret G hr dX10_free_40 ⟨fun _ => rfl, fun q => False.elim (by first | exact f_6 q.1 | exact f_13 q.2.1 | exact f_20 q.2.2.1 | exact f_33 (by rw [z_w]; have hL := z_lL; omega))⟩
    · have t_13 := h_13.2.mp c_16
      refine zv_iload_n (j := 3) G dX10_free_19 rfl rfl ?_
      refine zv_callSi (as := [za_I d]) G (zc_X10_isDay l E d σ ) zk_X10_isDay zm_1327 rfl ⟨(Nat.le_of_ble_eq_true rfl), (Nat.le_of_ble_eq_true rfl)⟩ ⟨Nat.zero_le _, Nat.zero_le _⟩ (Nat.le_of_ble_eq_true rfl) dX10_free_20 (fun r_20 σ h_20 => ?_)
      obtain ⟨h_20, rfl⟩ := h_20
      refine zv_if_eq (tgt := 39) G dX10_free_23 (by decide) (fun c_23 => ?_) (fun c_23 => ?_)
      · have f_20 := fun q9 => (h_20.2.mpr q9) c_23
        refine zv_iconst (v := (-1)) G dX10_free_39 (by decide) ?_
        exact zv_iret G hr dX10_free_40 ⟨fun _ => rfl, fun q => False.elim (by first | exact f_6 q.1 | exact f_13 q.2.1 | exact f_20 q.2.2.1 | exact f_33 (by rw [z_w]; have hL := z_lL; omega))⟩
      · have t_20 := h_20.2.mp c_23
        refine zv_iload (j := 4) G dX10_free_26 rfl ?_
        refine zv_i2l G dX10_free_28 ?_
        refine zv_lconst (v := 1) G dX10_free_29 (by decide) ?_
        refine zv_ldc2 (v := 100) G dX10_free_30 zm_1575 ?_
        refine zv_callSi (as := [za_L n.toInt64, za_L 1, za_L 100]) G (zc_X10_in l E n.toInt64 1 100 σ ) zk_X10_in zm_1184 rfl ⟨(Nat.le_of_ble_eq_true rfl), (Nat.le_of_ble_eq_true rfl)⟩ ⟨Nat.zero_le _, Nat.zero_le _⟩ (Nat.le_of_ble_eq_true rfl) dX10_free_33 (fun r_33 σ h_33 => ?_)
        obtain ⟨h_33, rfl⟩ := h_33
        refine zv_if_ne (tgt := 41) G dX10_free_36 (by decide) (fun c_36 => ?_) (fun c_36 => ?_)
        · have t_33 := h_33.2.mp c_36
          have n9 : 1 ≤ n.toInt ∧ n.toInt ≤ 100 := by have h8 := t_33; rw [z_w] at h8; have hL := z_lL; omega
          have e8 : (d + n).toInt = d.toInt + n.toInt := z_add (by omega) (by omega)
          refine zv_iload_n (j := 3) G dX10_free_41 rfl rfl ?_
          refine zv_istore (lv' := [(5, za_I d), (0, za_O 19 93), (1, za_I t), (2, za_I k), (3, za_I d), (4, za_I n)]) G dX10_free_42 (by decide) rfl ?_
          refine zv_iload (j := 0) G dX10_free_44 rfl ?_
          refine zv_iload (j := 5) G dX10_free_46 rfl ?_
          refine zv_iadd G dX10_free_48 ?_
          refine zv_bipush (v := 100) G dX10_free_49 (by decide) ?_
          refine zv_icmp_gt (tgt := 82) G dX10_free_51 (by decide) (fun c_51 => ?_) (fun c_51 => ?_)
          · have k_51 := z_clt c_51 (a := 100) (b := (d + n).toInt) rfl rfl
            refine zv_bipush (v := (-2)) G dX10_free_82 (by decide) ?_
            exact zv_iret G hr dX10_free_84 ⟨fun q => False.elim (q ⟨t_6, t_13, t_20, n9⟩), fun _ => ⟨fun q => False.elim (by omega), fun _ => rfl⟩⟩
          · have k_51 := z_cnlt c_51 (a := 100) (b := (d + n).toInt) rfl rfl
            have e9 : (d + n).toInt = d.toInt + n.toInt := z_add (by omega) (by omega)
            refine zv_aload_n (j := 1) G dX10_free_54 rfl rfl ?_
            refine zg_X10_118 G dX10_free_55 ?_
            refine zv_iload_n (j := 2) G dX10_free_58 rfl rfl ?_
            refine zv_iload_n (j := 3) G dX10_free_59 rfl rfl ?_
            refine zv_iload (j := 0) G dX10_free_60 rfl ?_
            refine zv_iload (j := 0) G dX10_free_62 rfl ?_
            refine zv_iload (j := 5) G dX10_free_64 rfl ?_
            refine zv_iadd G dX10_free_66 ?_
            refine zv_callSi (as := [za_O 22 99, za_I t, za_I k, za_I d, za_I (d + n)]) G (zc_X10_rowsIn_at0 l E 99 t k d (d + n) σ t_6 t_13 (wzN9 hz) (by omega)) zk_X10_rowsIn zm_1382 rfl ⟨(Nat.le_of_ble_eq_true rfl), (Nat.le_of_ble_eq_true rfl)⟩ ⟨Nat.zero_le _, Nat.zero_le _⟩ (Nat.le_of_ble_eq_true rfl) dX10_free_67 (fun r_67 σ h_67 => ?_)
            obtain ⟨h_67, rfl⟩ := h_67
            subst h_67
            refine zv_if_ne (tgt := 76) G dX10_free_70 (by decide) (fun c_70 => ?_) (fun c_70 => ?_)
            · exact absurd c_70 (by decide)
            · have k_70 := z_ceq c_70 (a := 0) (b := 0) rfl rfl
              refine zv_iload (j := 0) G dX10_free_73 rfl ?_
              exact zv_iret G hr dX10_free_75 ⟨fun q => False.elim (q ⟨t_6, t_13, t_20, n9⟩), fun _ => ⟨fun _ => rfl, fun q => False.elim (by omega)⟩⟩
        · have f_33 := fun q9 => (h_33.2.mpr q9) c_36
          refine zv_iconst (v := (-1)) G dX10_free_39 (by decide) ?_
          exact zv_iret G hr dX10_free_40 ⟨fun _ => rfl, fun q => False.elim (by first | exact f_6 q.1 | exact f_13 q.2.1 | exact f_20 q.2.2.1 | exact f_33 (by rw [z_w]; have hL := z_lL; omega))⟩
set_option maxHeartbeats 4000000 in
set_option maxRecDepth 100000 in
theorem zc_X10_countsMarks_at0 (l : Launch) (E : za_E) (k : Int32) (σ0 : za_S) (h0 : wzZ σ0) : zMv l E yX10_countsMarks cX10_countsMarks 4 (Option.none : Option Jvm.ClassFile.FieldType) 1 21 [za_O 19 93, za_I k] σ0 (fun σ' => σ' = σ0) := by
  refine zMv_of [(0, za_O 19 93), (1, za_I k)] (by decide) rfl rfl (Nat.le_of_ble_eq_true rfl) ?_
  intro ho p e s m args below meth c G hr
  refine zv_iconst (v := 0) G dX10_countsMarks_0 (by decide) ?_
  have J_2 : ∀ (n : Nat) (y2_2 : Int32) (i2_2 : 0 ≤ y2_2.toInt) (u2_2 : y2_2.toInt ≤ 100) (hn_2 : (2147483648 - y2_2.toInt).toNat < n), zV p l e (zRm 1 21) s m args below meth c E (za_A E) 4 0 0 (MQ below (va_Qv (fun σ' => σ' = σ0) (zB E) (za_A E)) args s 0 0 (za_A E)) 2 [(0, za_O 19 93), (2, za_I y2_2)] [] σ0 := by
    intro n
    induction n with
    | zero => intro y2_2 i2_2 u2_2 hn; exact absurd hn (Nat.not_lt_zero _)
    | succ n ih_2 =>
      intro y2_2 i2_2 u2_2 hn_2
      refine zv_iload_n (j := 1) G dX10_countsMarks_2 rfl rfl ?_
      refine zv_bipush (v := 100) G dX10_countsMarks_3 (by decide) ?_
      refine zv_icmp_ge (tgt := 124) G dX10_countsMarks_5 (by decide) (fun c_5 => ?_) (fun c_5 => ?_)
      · have k_5 := z_cle c_5 (a := 100) (b := y2_2.toInt) rfl rfl
        exact zv_vret G hr dX10_countsMarks_124 rfl
      · have b_5 : 0 ≤ y2_2.toInt ∧ y2_2.toInt < 100 := ⟨i2_2, z_ltk c_5 rfl⟩
        have k_5 := z_cnle c_5 (a := 100) (b := y2_2.toInt) rfl rfl
        refine zv_aload_n (j := 0) G dX10_countsMarks_8 rfl rfl ?_
        refine zg_X10_138 G dX10_countsMarks_9 ?_
        refine zv_iload_n (j := 1) G dX10_countsMarks_12 rfl rfl ?_
        refine zv_iald G (by decide) rfl (z_in (by omega) (by omega)) dX10_countsMarks_13 ?_
        refine zv_if_le (tgt := 118) G dX10_countsMarks_14 (by decide) (fun c_14 => ?_) (fun c_14 => ?_)
        · have k_14 := z_cle c_14 (a := (σ0.1 185 y2_2.toNatClampNeg).toInt) (b := 0) rfl rfl
          obtain ⟨x_118, e_118⟩ : ∃ y : Int32, y = y2_2 + 1 := ⟨_, rfl⟩
          refine zv_iinc (j := 1) (v := x_118) (lv' := [(2, za_I x_118), (0, za_O 19 93)]) G dX10_countsMarks_118 rfl (by rw [e_118]; rfl) (by decide) rfl ?_
          first | have q_118 := z_inc9 (by omega) e_118 | skip
          refine zv_goto (tgt := 2) G dX10_countsMarks_121 (by decide) ?_
          refine zv_sub [1, 0] (lv' := [(0, za_O 19 93), (2, za_I x_118)]) rfl ?_
          exact ih_2 x_118 (by have := z_inc c_5 e_118; omega) (by have := z_inc9 (by omega) e_118; omega) (z_meas c_5 e_118 hn_2)
        · exact absurd (show (σ0.1 185 y2_2.toNatClampNeg) ≤ 0 by rw [h0 185 (by decide)]; decide) c_14
  refine zv_istore_n (lv' := [(2, za_I 0), (0, za_O 19 93), (1, za_I k)]) G dX10_countsMarks_1 rfl (by decide) rfl ?_
  refine zv_sub [1, 0] (lv' := [(0, za_O 19 93), (2, za_I 0)]) rfl ?_
  exact J_2 _ (0 : Int32) (by decide) (by decide) (Nat.lt_succ_self _)
set_option maxHeartbeats 4000000 in
set_option maxRecDepth 100000 in
theorem zc_X10_tellsStretches_at0 (l : Launch) (E : za_E)  (σ0 : za_S) (h0 : wzZ σ0) : zMi l E yX10_tellsStretches cX10_tellsStretches 1 (Option.some Jvm.ClassFile.FieldType.int) 1 21 [za_O 19 93] σ0 (fun r σ' => r = 0) := by
  refine zMi_of [(0, za_O 19 93)] (by decide) rfl rfl (Nat.le_of_ble_eq_true rfl) ?_
  intro ho p e s m args below meth c G hr
  refine zv_gen (R9 := wzZ) h0 (fun σ hz => ?_)
  refine zv_aload_n (j := 0) G dX10_tellsStretches_0 rfl rfl ?_
  refine zg_X10_11 G dX10_tellsStretches_1 ?_
  refine zv_iconst (v := 0) G dX10_tellsStretches_4 (by decide) ?_
  refine zv_aload_n (j := 0) G dX10_tellsStretches_5 rfl rfl ?_
  refine zg_X10_365 G dX10_tellsStretches_6 ?_
  refine zv_i2l G dX10_tellsStretches_9 ?_
  refine zv_last G (by decide) rfl (fun _ => rfl) (z_in (by decide) (by decide)) dX10_tellsStretches_10 ?_
  refine zv_gen (R9 := wzZ) (wzZ_sl hz) (fun σ hz => ?_)
  refine zv_aload_n (j := 0) G dX10_tellsStretches_11 rfl rfl ?_
  refine zv_aload_n (j := 0) G dX10_tellsStretches_12 rfl rfl ?_
  refine zg_X10_368 G dX10_tellsStretches_13 ?_
  refine zv_if_le (tgt := 23) G dX10_tellsStretches_16 (by decide) (fun c_16 => ?_) (fun c_16 => ?_)
  · have k_16 := z_cle c_16 (a := (σ.1 93 25).toInt) (b := 0) rfl rfl
    refine zv_iconst (v := 1) G dX10_tellsStretches_23 (by decide) ?_
    refine zp_X10_15 G dX10_tellsStretches_24 ?_
    refine zv_gen (R9 := (fun σ => σ.1 93 25 = 0)) (by rw [za_si_ne _ _ (Or.inr (by decide))]; exact hz 93 (by decide) 25) (fun σ hz => ?_)
    refine zv_aload_n (j := 0) G dX10_tellsStretches_27 rfl rfl ?_
    refine zg_X10_368 G dX10_tellsStretches_28 ?_
    exact zv_iret G hr dX10_tellsStretches_31 hz
  · have k_16 := z_cnle c_16 (a := (σ.1 93 25).toInt) (b := 0) rfl rfl
    refine zv_iconst (v := 4) G dX10_tellsStretches_19 (by decide) ?_
    refine zv_goto (tgt := 24) G dX10_tellsStretches_20 (by decide) ?_
    refine zp_X10_15 G dX10_tellsStretches_24 ?_
    refine zv_gen (R9 := (fun σ => σ.1 93 25 = 0)) (by rw [za_si_ne _ _ (Or.inr (by decide))]; exact hz 93 (by decide) 25) (fun σ hz => ?_)
    refine zv_aload_n (j := 0) G dX10_tellsStretches_27 rfl rfl ?_
    refine zg_X10_368 G dX10_tellsStretches_28 ?_
    exact zv_iret G hr dX10_tellsStretches_31 hz
set_option maxHeartbeats 4000000 in
set_option maxRecDepth 100000 in
theorem zc_X10_meets_at0 (l : Launch) (E : za_E) (fd : Int32) (td : Int32) (σ0 : za_S) (h0 : wzZ σ0) : zMi l E yX10_meets cX10_meets 7 (Option.some Jvm.ClassFile.FieldType.int) 4 89 [za_O 19 93, za_I fd, za_I td] σ0 (fun r σ' => wzAn ((0 ≤ fd.toInt ∧ fd.toInt ≤ 99) ∧ fd.toInt < td.toInt ∧ td.toInt ≤ 100) 0 (-1) r) := by
  refine zMi_of [(0, za_O 19 93), (1, za_I fd), (2, za_I td)] (by decide) rfl rfl (Nat.le_of_ble_eq_true rfl) ?_
  intro ho p e s m args below meth c G hr
  refine zv_gen (R9 := wzZ) h0 (fun σ hz => ?_)
  refine zv_aload_n (j := 0) G dX10_meets_0 rfl rfl ?_
  refine zv_iconst (v := 0) G dX10_meets_1 (by decide) ?_
  refine zp_X10_3 G dX10_meets_2 ?_
  refine zv_gen (R9 := wzZ) (wzZ_w hz) (fun σ hz => ?_)
  refine zv_iload_n (j := 1) G dX10_meets_5 rfl rfl ?_
  refine zv_iload_n (j := 2) G dX10_meets_6 rfl rfl ?_
  refine zv_callSi (as := [za_I fd, za_I td]) G (zc_X10_isPeriod l E fd td σ ) zk_X10_isPeriod zm_1379 rfl ⟨(Nat.le_of_ble_eq_true rfl), (Nat.le_of_ble_eq_true rfl)⟩ ⟨Nat.zero_le _, Nat.zero_le _⟩ (Nat.le_of_ble_eq_true rfl) dX10_meets_7 (fun r_7 σ h_7 => ?_)
  obtain ⟨h_7, rfl⟩ := h_7
  refine zv_if_ne (tgt := 15) G dX10_meets_10 (by decide) (fun c_10 => ?_) (fun c_10 => ?_)
  · have t_7 := h_7.2.mp c_10
    refine zv_aload_n (j := 0) G dX10_meets_15 rfl rfl ?_
    refine zv_iconst (v := 0) G dX10_meets_16 (by decide) ?_
    refine zp_X10_368 G dX10_meets_17 ?_
    refine zv_gen (R9 := wzZ) (wzZ_w hz) (fun σ hz => ?_)
    refine zv_aload_n (j := 0) G dX10_meets_20 rfl rfl ?_
    refine zv_iconst (v := 0) G dX10_meets_21 (by decide) ?_
    refine zp_X10_365 G dX10_meets_22 ?_
    refine zv_gen (R9 := wzZ) (wzZ_w hz) (fun σ hz => ?_)
    refine zv_iconst (v := 0) G dX10_meets_25 (by decide) ?_
    have J_27 : ∀ (n : Nat) (y3_27 : Int32) (σ : za_S) (hz : wzZ σ) (i3_27 : 0 ≤ y3_27.toInt) (u3_27 : y3_27.toInt ≤ 10) (hn_27 : (2147483648 - y3_27.toInt).toNat < n), zV p l e (zRm 4 89) s m args below meth c E (za_A E) 7 0 0 (MQ below (va_Qi (fun r σ' => wzAn ((0 ≤ fd.toInt ∧ fd.toInt ≤ 99) ∧ fd.toInt < td.toInt ∧ td.toInt ≤ 100) 0 (-1) r) (zB E) (za_A E)) args s 0 0 (za_A E)) 27 [(0, za_O 19 93), (1, za_I fd), (2, za_I td), (3, za_I y3_27)] [] σ := by
      intro n
      induction n with
      | zero => intro y3_27 σ hz i3_27 u3_27 hn; exact absurd hn (Nat.not_lt_zero _)
      | succ n ih_27 =>
        intro y3_27 σ hz i3_27 u3_27 hn_27
        refine zv_iload_n (j := 3) G dX10_meets_27 rfl rfl ?_
        refine zv_bipush (v := 10) G dX10_meets_28 (by decide) ?_
        refine zv_icmp_ge (tgt := 187) G dX10_meets_30 (by decide) (fun c_30 => ?_) (fun c_30 => ?_)
        · have k_30 := z_cle c_30 (a := 10) (b := y3_27.toInt) rfl rfl
          refine zv_aload_n (j := 0) G dX10_meets_187 rfl rfl ?_
          refine zv_callVi (as := []) G (by decide) rfl rfl (zc_X10_tellsStretches_at0 l E  σ hz) zk_X10_tellsStretches zm_1584 rfl ⟨(Nat.le_of_ble_eq_true rfl), (Nat.le_of_ble_eq_true rfl)⟩ ⟨Nat.zero_le _, Nat.zero_le _⟩ (Nat.le_of_ble_eq_true rfl) dX10_meets_188 (fun r_188 σ h_188 => ?_)
          have z188 := h_188
          exact zv_iret G hr dX10_meets_191 (wzAn_e t_7 z188)
        · have b_30 : 0 ≤ y3_27.toInt ∧ y3_27.toInt < 10 := ⟨i3_27, z_ltk c_30 rfl⟩
          have k_30 := z_cnle c_30 (a := 10) (b := y3_27.toInt) rfl rfl
          refine zv_iconst (v := 0) G dX10_meets_33 (by decide) ?_
          have J_36 : ∀ (n : Nat) (y4_36 : Int32) (σ : za_S) (hz : wzZ σ) (i4_36 : 0 ≤ y4_36.toInt) (u4_36 : y4_36.toInt ≤ 100) (hn_36 : (2147483648 - y4_36.toInt).toNat < n), zV p l e (zRm 4 89) s m args below meth c E (za_A E) 7 0 0 (MQ below (va_Qi (fun r σ' => wzAn ((0 ≤ fd.toInt ∧ fd.toInt ≤ 99) ∧ fd.toInt < td.toInt ∧ td.toInt ≤ 100) 0 (-1) r) (zB E) (za_A E)) args s 0 0 (za_A E)) 36 [(0, za_O 19 93), (1, za_I fd), (2, za_I td), (3, za_I y3_27), (4, za_I y4_36)] [] σ := by
            intro n
            induction n with
            | zero => intro y4_36 σ hz i4_36 u4_36 hn; exact absurd hn (Nat.not_lt_zero _)
            | succ n ih_36 =>
              intro y4_36 σ hz i4_36 u4_36 hn_36
              refine zv_iload (j := 4) G dX10_meets_36 rfl ?_
              refine zv_bipush (v := 100) G dX10_meets_38 (by decide) ?_
              refine zv_icmp_ge (tgt := 176) G dX10_meets_40 (by decide) (fun c_40 => ?_) (fun c_40 => ?_)
              · have k_40 := z_cle c_40 (a := 100) (b := y4_36.toInt) rfl rfl
                refine zv_aload_n (j := 0) G dX10_meets_176 rfl rfl ?_
                refine zv_iload_n (j := 3) G dX10_meets_177 rfl rfl ?_
                refine zv_callVv (as := [za_I y3_27]) G (by decide) rfl rfl (zc_X10_countsMarks_at0 l E y3_27 σ hz) zk_X10_countsMarks zm_1580 rfl ⟨(Nat.le_of_ble_eq_true rfl), (Nat.le_of_ble_eq_true rfl)⟩ ⟨Nat.zero_le _, Nat.zero_le _⟩ (Nat.le_of_ble_eq_true rfl) dX10_meets_178 (fun σ h_178 => ?_)
                subst h_178
                obtain ⟨x_181, e_181⟩ : ∃ y : Int32, y = y3_27 + 1 := ⟨_, rfl⟩
                refine zv_iinc (j := 3) (v := x_181) (lv' := [(3, za_I x_181), (0, za_O 19 93), (1, za_I fd), (2, za_I td), (4, za_I y4_36)]) G dX10_meets_181 rfl (by rw [e_181]; rfl) (by decide) rfl ?_
                first | have q_181 := z_inc9 (by omega) e_181 | skip
                refine zv_goto (tgt := 27) G dX10_meets_184 (by decide) ?_
                refine zv_sub [1, 2, 3, 0] (lv' := [(0, za_O 19 93), (1, za_I fd), (2, za_I td), (3, za_I x_181)]) rfl ?_
                exact ih_27 x_181 σ hz (by have := z_inc c_30 e_181; omega) (by have := z_inc9 (by omega) e_181; omega) (z_meas c_30 e_181 hn_27)
              · have b_40 : 0 ≤ y4_36.toInt ∧ y4_36.toInt < 100 := ⟨i4_36, z_ltk c_40 rfl⟩
                have k_40 := z_cnle c_40 (a := 100) (b := y4_36.toInt) rfl rfl
                refine zv_aload_n (j := 0) G dX10_meets_43 rfl rfl ?_
                refine zg_X10_118 G dX10_meets_44 ?_
                refine zv_iconst (v := 0) G dX10_meets_47 (by decide) ?_
                refine zv_iload_n (j := 3) G dX10_meets_48 rfl rfl ?_
                refine zv_iload (j := 4) G dX10_meets_49 rfl ?_
                refine zv_callSi (as := [za_O 22 99, za_I 0, za_I y3_27, za_I y4_36]) G (zc_X10_isThere_at0 l E 99 (0 : Int32) y3_27 y4_36 σ (by decide) (by omega) (wzN9 hz)) zk_X10_isThere zm_1324 rfl ⟨(Nat.le_of_ble_eq_true rfl), (Nat.le_of_ble_eq_true rfl)⟩ ⟨Nat.zero_le _, Nat.zero_le _⟩ (Nat.le_of_ble_eq_true rfl) dX10_meets_51 (fun r_51 σ h_51 => ?_)
                obtain ⟨h_51, rfl⟩ := h_51
                subst h_51
                refine zv_if_eq (tgt := 71) G dX10_meets_54 (by decide) (fun c_54 => ?_) (fun c_54 => ?_)
                · have k_54 := z_ceq c_54 (a := 0) (b := 0) rfl rfl
                  refine zv_bipush (v := 10) G dX10_meets_71 (by decide) ?_
                  refine zv_istore (lv' := [(5, za_I 10), (0, za_O 19 93), (1, za_I fd), (2, za_I td), (3, za_I y3_27), (4, za_I y4_36)]) G dX10_meets_73 (by decide) rfl ?_
                  refine zv_iload (j := 5) G dX10_meets_75 rfl ?_
                  refine zv_i2l G dX10_meets_77 ?_
                  refine zv_iload_n (j := 2) G dX10_meets_78 rfl rfl ?_
                  refine zv_i2l G dX10_meets_79 ?_
                  refine zv_iload_n (j := 3) G dX10_meets_80 rfl rfl ?_
                  refine zv_iconst (v := 1) G dX10_meets_81 (by decide) ?_
                  refine zv_isub G dX10_meets_82 ?_
                  refine zv_i2l G dX10_meets_83 ?_
                  refine zv_callSi (as := [za_L y4_36.toInt64, za_L fd.toInt64, za_L ((td - 1).toInt64)]) G (zc_X10_in l E y4_36.toInt64 fd.toInt64 ((td - 1).toInt64) σ ) zk_X10_in zm_1184 rfl ⟨(Nat.le_of_ble_eq_true rfl), (Nat.le_of_ble_eq_true rfl)⟩ ⟨Nat.zero_le _, Nat.zero_le _⟩ (Nat.le_of_ble_eq_true rfl) dX10_meets_84 (fun r_84 σ h_84 => ?_)
                  obtain ⟨h_84, rfl⟩ := h_84
                  refine zv_if_eq (tgt := 116) G dX10_meets_87 (by decide) (fun c_87 => ?_) (fun c_87 => ?_)
                  · have f_84 := fun q9 => (h_84.2.mpr q9) c_87
                    refine zv_iconst (v := 0) G dX10_meets_116 (by decide) ?_
                    refine zv_istore (lv' := [(6, za_I 0), (5, za_I 10), (0, za_O 19 93), (1, za_I fd), (2, za_I td), (3, za_I y3_27), (4, za_I y4_36)]) G dX10_meets_117 (by decide) rfl ?_
                    refine zv_aload_n (j := 2) G dX10_meets_119 rfl rfl ?_
                    refine zg_X10_138 G dX10_meets_120 ?_
                    refine zv_iload (j := 6) G dX10_meets_123 rfl ?_
                    refine zv_iload (j := 0) G dX10_meets_125 rfl ?_
                    refine zv_if_eq (tgt := 168) G dX10_meets_127 (by decide) (fun c_127 => ?_) (fun c_127 => ?_)
                    · have k_127 := z_ceq c_127 (a := 0) (b := 0) rfl rfl
                      refine zv_iconst (v := 0) G dX10_meets_168 (by decide) ?_
                      refine zv_iast G (by decide) rfl (fun _ => rfl) (z_in (by omega) (by omega)) dX10_meets_169 ?_
                      refine zv_gen (R9 := wzZ) (wzZ_w hz) (fun σ hz => ?_)
                      obtain ⟨x_170, e_170⟩ : ∃ y : Int32, y = y4_36 + 1 := ⟨_, rfl⟩
                      refine zv_iinc (j := 6) (v := x_170) (lv' := [(4, za_I x_170), (6, za_I 0), (5, za_I 10), (0, za_O 19 93), (1, za_I fd), (2, za_I td), (3, za_I y3_27)]) G dX10_meets_170 rfl (by rw [e_170]; rfl) (by decide) rfl ?_
                      first | have q_170 := z_inc9 (by omega) e_170 | skip
                      refine zv_goto (tgt := 36) G dX10_meets_173 (by decide) ?_
                      refine zv_sub [3, 4, 5, 6, 0] (lv' := [(0, za_O 19 93), (1, za_I fd), (2, za_I td), (3, za_I y3_27), (4, za_I x_170)]) rfl ?_
                      exact ih_36 x_170 σ hz (by have := z_inc c_40 e_170; omega) (by have := z_inc9 (by omega) e_170; omega) (z_meas c_40 e_170 hn_36)
                    · exact absurd c_127 (by decide)
                  · have t_84 := h_84.2.mp c_87
                    refine zv_iload (j := 0) G dX10_meets_90 rfl ?_
                    refine zv_bipush (v := 10) G dX10_meets_92 (by decide) ?_
                    refine zv_icmp_ge (tgt := 116) G dX10_meets_94 (by decide) (fun c_94 => ?_) (fun c_94 => ?_)
                    · have k_94 := z_cle c_94 (a := 10) (b := 10) rfl rfl
                      refine zv_iconst (v := 0) G dX10_meets_116 (by decide) ?_
                      refine zv_istore (lv' := [(6, za_I 0), (5, za_I 10), (0, za_O 19 93), (1, za_I fd), (2, za_I td), (3, za_I y3_27), (4, za_I y4_36)]) G dX10_meets_117 (by decide) rfl ?_
                      refine zv_aload_n (j := 2) G dX10_meets_119 rfl rfl ?_
                      refine zg_X10_138 G dX10_meets_120 ?_
                      refine zv_iload (j := 6) G dX10_meets_123 rfl ?_
                      refine zv_iload (j := 0) G dX10_meets_125 rfl ?_
                      refine zv_if_eq (tgt := 168) G dX10_meets_127 (by decide) (fun c_127 => ?_) (fun c_127 => ?_)
                      · have k_127 := z_ceq c_127 (a := 0) (b := 0) rfl rfl
                        refine zv_iconst (v := 0) G dX10_meets_168 (by decide) ?_
                        refine zv_iast G (by decide) rfl (fun _ => rfl) (z_in (by omega) (by omega)) dX10_meets_169 ?_
                        refine zv_gen (R9 := wzZ) (wzZ_w hz) (fun σ hz => ?_)
                        obtain ⟨x_170, e_170⟩ : ∃ y : Int32, y = y4_36 + 1 := ⟨_, rfl⟩
                        refine zv_iinc (j := 6) (v := x_170) (lv' := [(4, za_I x_170), (6, za_I 0), (5, za_I 10), (0, za_O 19 93), (1, za_I fd), (2, za_I td), (3, za_I y3_27)]) G dX10_meets_170 rfl (by rw [e_170]; rfl) (by decide) rfl ?_
                        first | have q_170 := z_inc9 (by omega) e_170 | skip
                        refine zv_goto (tgt := 36) G dX10_meets_173 (by decide) ?_
                        refine zv_sub [3, 4, 5, 6, 0] (lv' := [(0, za_O 19 93), (1, za_I fd), (2, za_I td), (3, za_I y3_27), (4, za_I x_170)]) rfl ?_
                        exact ih_36 x_170 σ hz (by have := z_inc c_40 e_170; omega) (by have := z_inc9 (by omega) e_170; omega) (z_meas c_40 e_170 hn_36)
                      · exact absurd c_127 (by decide)
                    · exact absurd c_94 (by decide)
                · exact absurd c_54 (by decide)
          refine zv_istore (lv' := [(4, za_I 0), (0, za_O 19 93), (1, za_I fd), (2, za_I td), (3, za_I y3_27)]) G dX10_meets_34 (by decide) rfl ?_
          refine zv_sub [1, 2, 3, 4, 0] (lv' := [(0, za_O 19 93), (1, za_I fd), (2, za_I td), (3, za_I y3_27), (4, za_I 0)]) rfl ?_
          exact J_36 _ (0 : Int32) σ hz (by decide) (by decide) (Nat.lt_succ_self _)
    refine zv_istore_n (lv' := [(3, za_I 0), (0, za_O 19 93), (1, za_I fd), (2, za_I td)]) G dX10_meets_26 rfl (by decide) rfl ?_
    refine zv_sub [1, 2, 3, 0] (lv' := [(0, za_O 19 93), (1, za_I fd), (2, za_I td), (3, za_I 0)]) rfl ?_
    exact J_27 _ (0 : Int32) σ hz (by decide) (by decide) (Nat.lt_succ_self _)
  · have f_7 := fun q9 => (h_7.2.mpr q9) c_10
    refine zv_iconst (v := (-1)) G dX10_meets_13 (by decide) ?_
    exact zv_iret G hr dX10_meets_14 (wzAn_n (fun q => by first | exact f_7 (by omega)))
set_option maxHeartbeats 4000000 in
set_option maxRecDepth 100000 in
theorem zc_X10_lacks_at0 (l : Launch) (E : za_E) (t : Int32) (σ0 : za_S) (h0 : wzZ σ0) : zMi l E yX10_lacks cX10_lacks 4 (Option.some Jvm.ClassFile.FieldType.int) 4 89 [za_O 19 93, za_I t] σ0 (fun r σ' => wzAn ((0 ≤ t.toInt ∧ t.toInt ≤ 1)) 0 (-1) r) := by
  refine zMi_of [(0, za_O 19 93), (1, za_I t)] (by decide) rfl rfl (Nat.le_of_ble_eq_true rfl) ?_
  intro ho p e s m args below meth c G hr
  refine zv_gen (R9 := wzZ) h0 (fun σ hz => ?_)
  refine zv_aload_n (j := 0) G dX10_lacks_0 rfl rfl ?_
  refine zv_iconst (v := 0) G dX10_lacks_1 (by decide) ?_
  refine zp_X10_3 G dX10_lacks_2 ?_
  refine zv_gen (R9 := wzZ) (wzZ_w hz) (fun σ hz => ?_)
  refine zv_iload_n (j := 1) G dX10_lacks_5 rfl rfl ?_
  refine zv_callSi (as := [za_I t]) G (zc_X10_isTable l E t σ ) zk_X10_isTable zm_1313 rfl ⟨(Nat.le_of_ble_eq_true rfl), (Nat.le_of_ble_eq_true rfl)⟩ ⟨Nat.zero_le _, Nat.zero_le _⟩ (Nat.le_of_ble_eq_true rfl) dX10_lacks_6 (fun r_6 σ h_6 => ?_)
  obtain ⟨h_6, rfl⟩ := h_6
  refine zv_if_ne (tgt := 14) G dX10_lacks_9 (by decide) (fun c_9 => ?_) (fun c_9 => ?_)
  · have t_6 := h_6.2.mp c_9
    refine zv_aload_n (j := 0) G dX10_lacks_14 rfl rfl ?_
    refine zv_iconst (v := 0) G dX10_lacks_15 (by decide) ?_
    refine zp_X10_368 G dX10_lacks_16 ?_
    refine zv_gen (R9 := wzZ) (wzZ_w hz) (fun σ hz => ?_)
    refine zv_aload_n (j := 0) G dX10_lacks_19 rfl rfl ?_
    refine zv_iconst (v := 0) G dX10_lacks_20 (by decide) ?_
    refine zp_X10_365 G dX10_lacks_21 ?_
    refine zv_gen (R9 := wzZ) (wzZ_w hz) (fun σ hz => ?_)
    refine zv_iconst (v := 0) G dX10_lacks_24 (by decide) ?_
    have J_26 : ∀ (n : Nat) (y2_26 : Int32) (σ : za_S) (hz : wzZ σ) (i2_26 : 0 ≤ y2_26.toInt) (u2_26 : y2_26.toInt ≤ 10) (hn_26 : (2147483648 - y2_26.toInt).toNat < n), zV p l e (zRm 4 89) s m args below meth c E (za_A E) 4 0 0 (MQ below (va_Qi (fun r σ' => wzAn ((0 ≤ t.toInt ∧ t.toInt ≤ 1)) 0 (-1) r) (zB E) (za_A E)) args s 0 0 (za_A E)) 26 [(0, za_O 19 93), (1, za_I t), (2, za_I y2_26)] [] σ := by
      intro n
      induction n with
      | zero => intro y2_26 σ hz i2_26 u2_26 hn; exact absurd hn (Nat.not_lt_zero _)
      | succ n ih_26 =>
        intro y2_26 σ hz i2_26 u2_26 hn_26
        refine zv_iload_n (j := 2) G dX10_lacks_26 rfl rfl ?_
        refine zv_bipush (v := 10) G dX10_lacks_27 (by decide) ?_
        refine zv_icmp_ge (tgt := 99) G dX10_lacks_29 (by decide) (fun c_29 => ?_) (fun c_29 => ?_)
        · have k_29 := z_cle c_29 (a := 10) (b := y2_26.toInt) rfl rfl
          refine zv_aload_n (j := 0) G dX10_lacks_99 rfl rfl ?_
          refine zv_callVi (as := []) G (by decide) rfl rfl (zc_X10_tellsStretches_at0 l E  σ hz) zk_X10_tellsStretches zm_1584 rfl ⟨(Nat.le_of_ble_eq_true rfl), (Nat.le_of_ble_eq_true rfl)⟩ ⟨Nat.zero_le _, Nat.zero_le _⟩ (Nat.le_of_ble_eq_true rfl) dX10_lacks_100 (fun r_100 σ h_100 => ?_)
          have z100 := h_100
          exact zv_iret G hr dX10_lacks_103 (wzAn_e t_6 z100)
        · have b_29 : 0 ≤ y2_26.toInt ∧ y2_26.toInt < 10 := ⟨i2_26, z_ltk c_29 rfl⟩
          have k_29 := z_cnle c_29 (a := 10) (b := y2_26.toInt) rfl rfl
          refine zv_iconst (v := 0) G dX10_lacks_32 (by decide) ?_
          have J_34 : ∀ (n : Nat) (y3_34 : Int32) (σ : za_S) (hz : wzZ σ) (i3_34 : 0 ≤ y3_34.toInt) (u3_34 : y3_34.toInt ≤ 100) (hn_34 : (2147483648 - y3_34.toInt).toNat < n), zV p l e (zRm 4 89) s m args below meth c E (za_A E) 4 0 0 (MQ below (va_Qi (fun r σ' => wzAn ((0 ≤ t.toInt ∧ t.toInt ≤ 1)) 0 (-1) r) (zB E) (za_A E)) args s 0 0 (za_A E)) 34 [(0, za_O 19 93), (1, za_I t), (2, za_I y2_26), (3, za_I y3_34)] [] σ := by
            intro n
            induction n with
            | zero => intro y3_34 σ hz i3_34 u3_34 hn; exact absurd hn (Nat.not_lt_zero _)
            | succ n ih_34 =>
              intro y3_34 σ hz i3_34 u3_34 hn_34
              refine zv_iload_n (j := 3) G dX10_lacks_34 rfl rfl ?_
              refine zv_bipush (v := 100) G dX10_lacks_35 (by decide) ?_
              refine zv_icmp_ge (tgt := 88) G dX10_lacks_37 (by decide) (fun c_37 => ?_) (fun c_37 => ?_)
              · have k_37 := z_cle c_37 (a := 100) (b := y3_34.toInt) rfl rfl
                refine zv_aload_n (j := 0) G dX10_lacks_88 rfl rfl ?_
                refine zv_iload_n (j := 2) G dX10_lacks_89 rfl rfl ?_
                refine zv_callVv (as := [za_I y2_26]) G (by decide) rfl rfl (zc_X10_countsMarks_at0 l E y2_26 σ hz) zk_X10_countsMarks zm_1580 rfl ⟨(Nat.le_of_ble_eq_true rfl), (Nat.le_of_ble_eq_true rfl)⟩ ⟨Nat.zero_le _, Nat.zero_le _⟩ (Nat.le_of_ble_eq_true rfl) dX10_lacks_90 (fun σ h_90 => ?_)
                subst h_90
                obtain ⟨x_93, e_93⟩ : ∃ y : Int32, y = y2_26 + 1 := ⟨_, rfl⟩
                refine zv_iinc (j := 2) (v := x_93) (lv' := [(2, za_I x_93), (0, za_O 19 93), (1, za_I t), (3, za_I y3_34)]) G dX10_lacks_93 rfl (by rw [e_93]; rfl) (by decide) rfl ?_
                first | have q_93 := z_inc9 (by omega) e_93 | skip
                refine zv_goto (tgt := 26) G dX10_lacks_96 (by decide) ?_
                refine zv_sub [1, 2, 0] (lv' := [(0, za_O 19 93), (1, za_I t), (2, za_I x_93)]) rfl ?_
                exact ih_26 x_93 σ hz (by have := z_inc c_29 e_93; omega) (by have := z_inc9 (by omega) e_93; omega) (z_meas c_29 e_93 hn_26)
              · have b_37 : 0 ≤ y3_34.toInt ∧ y3_34.toInt < 100 := ⟨i3_34, z_ltk c_37 rfl⟩
                have k_37 := z_cnle c_37 (a := 100) (b := y3_34.toInt) rfl rfl
                refine zv_aload_n (j := 0) G dX10_lacks_40 rfl rfl ?_
                refine zg_X10_138 G dX10_lacks_41 ?_
                refine zv_iload_n (j := 3) G dX10_lacks_44 rfl rfl ?_
                refine zv_aload_n (j := 0) G dX10_lacks_45 rfl rfl ?_
                refine zg_X10_118 G dX10_lacks_46 ?_
                refine zv_iload_n (j := 1) G dX10_lacks_49 rfl rfl ?_
                refine zv_iload_n (j := 2) G dX10_lacks_50 rfl rfl ?_
                refine zv_iload_n (j := 3) G dX10_lacks_51 rfl rfl ?_
                refine zv_callSi (as := [za_O 22 99, za_I t, za_I y2_26, za_I y3_34]) G (zc_X10_isThere_at0 l E 99 t y2_26 y3_34 σ t_6 (by omega) (wzN9 hz)) zk_X10_isThere zm_1324 rfl ⟨(Nat.le_of_ble_eq_true rfl), (Nat.le_of_ble_eq_true rfl)⟩ ⟨Nat.zero_le _, Nat.zero_le _⟩ (Nat.le_of_ble_eq_true rfl) dX10_lacks_52 (fun r_52 σ h_52 => ?_)
                obtain ⟨h_52, rfl⟩ := h_52
                subst h_52
                refine zv_if_eq (tgt := 77) G dX10_lacks_55 (by decide) (fun c_55 => ?_) (fun c_55 => ?_)
                · have k_55 := z_ceq c_55 (a := 0) (b := 0) rfl rfl
                  refine zv_iconst (v := 0) G dX10_lacks_77 (by decide) ?_
                  refine zv_callSi (as := [za_I 0]) G (zc_X10_flag_at0 l E  σ ) zk_X10_flag zm_1355 rfl ⟨(Nat.le_of_ble_eq_true rfl), (Nat.le_of_ble_eq_true rfl)⟩ ⟨Nat.zero_le _, Nat.zero_le _⟩ (Nat.le_of_ble_eq_true rfl) dX10_lacks_78 (fun r_78 σ h_78 => ?_)
                  obtain ⟨h_78, rfl⟩ := h_78
                  subst h_78
                  refine zv_iast G (by decide) rfl (fun _ => rfl) (z_in (by omega) (by omega)) dX10_lacks_81 ?_
                  refine zv_gen (R9 := wzZ) (wzZ_w hz) (fun σ hz => ?_)
                  obtain ⟨x_82, e_82⟩ : ∃ y : Int32, y = y3_34 + 1 := ⟨_, rfl⟩
                  refine zv_iinc (j := 3) (v := x_82) (lv' := [(3, za_I x_82), (0, za_O 19 93), (1, za_I t), (2, za_I y2_26)]) G dX10_lacks_82 rfl (by rw [e_82]; rfl) (by decide) rfl ?_
                  first | have q_82 := z_inc9 (by omega) e_82 | skip
                  refine zv_goto (tgt := 34) G dX10_lacks_85 (by decide) ?_
                  refine zv_sub [1, 2, 3, 0] (lv' := [(0, za_O 19 93), (1, za_I t), (2, za_I y2_26), (3, za_I x_82)]) rfl ?_
                  exact ih_34 x_82 σ hz (by have := z_inc c_37 e_82; omega) (by have := z_inc9 (by omega) e_82; omega) (z_meas c_37 e_82 hn_34)
                · exact absurd c_55 (by decide)
          refine zv_istore_n (lv' := [(3, za_I 0), (0, za_O 19 93), (1, za_I t), (2, za_I y2_26)]) G dX10_lacks_33 rfl (by decide) rfl ?_
          refine zv_sub [1, 2, 3, 0] (lv' := [(0, za_O 19 93), (1, za_I t), (2, za_I y2_26), (3, za_I 0)]) rfl ?_
          exact J_34 _ (0 : Int32) σ hz (by decide) (by decide) (Nat.lt_succ_self _)
    refine zv_istore_n (lv' := [(2, za_I 0), (0, za_O 19 93), (1, za_I t)]) G dX10_lacks_25 rfl (by decide) rfl ?_
    refine zv_sub [1, 2, 0] (lv' := [(0, za_O 19 93), (1, za_I t), (2, za_I 0)]) rfl ?_
    exact J_26 _ (0 : Int32) σ hz (by decide) (by decide) (Nat.lt_succ_self _)
  · have f_6 := fun q9 => (h_6.2.mpr q9) c_9
    refine zv_iconst (v := (-1)) G dX10_lacks_12 (by decide) ?_
    exact zv_iret G hr dX10_lacks_13 (wzAn_n (fun q => by first | exact f_6 (by omega)))
set_option maxHeartbeats 4000000 in
set_option maxRecDepth 100000 in
theorem zc_X10_either_at0 (l : Launch) (E : za_E)  (σ0 : za_S) (h0 : wzZ σ0) : zMi l E yX10_either cX10_either 4 (Option.some Jvm.ClassFile.FieldType.int) 4 89 [za_O 19 93] σ0 (fun r σ' => r = 0) := by
  refine zMi_of [(0, za_O 19 93)] (by decide) rfl rfl (Nat.le_of_ble_eq_true rfl) ?_
  intro ho p e s m args below meth c G hr
  refine zv_gen (R9 := wzZ) h0 (fun σ hz => ?_)
  refine zv_aload_n (j := 0) G dX10_either_0 rfl rfl ?_
  refine zv_iconst (v := 0) G dX10_either_1 (by decide) ?_
  refine zp_X10_3 G dX10_either_2 ?_
  refine zv_gen (R9 := wzZ) (wzZ_w hz) (fun σ hz => ?_)
  refine zv_aload_n (j := 0) G dX10_either_5 rfl rfl ?_
  refine zv_iconst (v := 0) G dX10_either_6 (by decide) ?_
  refine zp_X10_368 G dX10_either_7 ?_
  refine zv_gen (R9 := wzZ) (wzZ_w hz) (fun σ hz => ?_)
  refine zv_aload_n (j := 0) G dX10_either_10 rfl rfl ?_
  refine zv_iconst (v := 0) G dX10_either_11 (by decide) ?_
  refine zp_X10_365 G dX10_either_12 ?_
  refine zv_gen (R9 := wzZ) (wzZ_w hz) (fun σ hz => ?_)
  refine zv_iconst (v := 0) G dX10_either_15 (by decide) ?_
  refine zv_istore_n (lv' := [(1, za_I 0), (0, za_O 19 93)]) G dX10_either_16 rfl (by decide) rfl ?_
  refine zv_iconst (v := 0) G dX10_either_17 (by decide) ?_
  have J_19 : ∀ (n : Nat) (y1_19 : Int32) (y2_19 : Int32) (σ : za_S) (hz : wzZ σ) (i2_19 : 0 ≤ y2_19.toInt) (u2_19 : y2_19.toInt ≤ 10) (hn_19 : (2147483648 - y2_19.toInt).toNat < n), zV p l e (zRm 4 89) s m args below meth c E (za_A E) 4 0 0 (MQ below (va_Qi (fun r σ' => r = 0) (zB E) (za_A E)) args s 0 0 (za_A E)) 19 [(0, za_O 19 93), (1, za_I y1_19), (2, za_I y2_19)] [] σ := by
    intro n
    induction n with
    | zero => intro y1_19 y2_19 σ hz i2_19 u2_19 hn; exact absurd hn (Nat.not_lt_zero _)
    | succ n ih_19 =>
      intro y1_19 y2_19 σ hz i2_19 u2_19 hn_19
      refine zv_iload_n (j := 2) G dX10_either_19 rfl rfl ?_
      refine zv_bipush (v := 10) G dX10_either_20 (by decide) ?_
      refine zv_icmp_ge (tgt := 127) G dX10_either_22 (by decide) (fun c_22 => ?_) (fun c_22 => ?_)
      · have k_22 := z_cle c_22 (a := 10) (b := y2_19.toInt) rfl rfl
        refine zv_aload_n (j := 0) G dX10_either_127 rfl rfl ?_
        refine zv_iconst (v := 0) G dX10_either_128 (by decide) ?_
        refine zp_X10_15 G dX10_either_129 ?_
        refine zv_gen (R9 := (fun σ => σ.1 93 25 = 0 ∧ σ.1 93 1 = 0)) ⟨by rw [za_si_ne _ _ (Or.inr (by decide))]; exact hz 93 (by decide) 25, za_si_same _ _ _ _⟩ (fun σ hz => ?_)
        refine zv_aload_n (j := 0) G dX10_either_132 rfl rfl ?_
        refine zv_aload_n (j := 0) G dX10_either_133 rfl rfl ?_
        refine zg_X10_365 G dX10_either_134 ?_
        refine zv_i2l G dX10_either_137 ?_
        refine zv_callVv (as := [za_L ((σ.1 93 26).toInt64)]) G (by decide) rfl rfl (zc_X10_enters l E ((σ.1 93 26).toInt64) σ (by rw [hz.2]; decide)) zk_X10_enters zm_1422 rfl ⟨(Nat.le_of_ble_eq_true rfl), (Nat.le_of_ble_eq_true rfl)⟩ ⟨Nat.zero_le _, Nat.zero_le _⟩ (Nat.le_of_ble_eq_true rfl) dX10_either_138 (fun σ h_138 => ?_)
        have hz := wzt_2 hz h_138
        refine zv_aload_n (j := 0) G dX10_either_141 rfl rfl ?_
        refine zv_iload_n (j := 1) G dX10_either_142 rfl rfl ?_
        refine zv_i2l G dX10_either_143 ?_
        refine zv_callVv (as := [za_L y1_19.toInt64]) G (by decide) rfl rfl (zc_X10_enters l E y1_19.toInt64 σ (by rw [hz.2]; decide)) zk_X10_enters zm_1422 rfl ⟨(Nat.le_of_ble_eq_true rfl), (Nat.le_of_ble_eq_true rfl)⟩ ⟨Nat.zero_le _, Nat.zero_le _⟩ (Nat.le_of_ble_eq_true rfl) dX10_either_144 (fun σ h_144 => ?_)
        have hz := wzt_2 hz h_144
        refine zv_aload_n (j := 0) G dX10_either_147 rfl rfl ?_
        refine zg_X10_368 G dX10_either_148 ?_
        exact zv_iret G hr dX10_either_151 hz.1
      · have b_22 : 0 ≤ y2_19.toInt ∧ y2_19.toInt < 10 := ⟨i2_19, z_ltk c_22 rfl⟩
        have k_22 := z_cnle c_22 (a := 10) (b := y2_19.toInt) rfl rfl
        refine zv_iconst (v := 0) G dX10_either_25 (by decide) ?_
        have J_27 : ∀ (n : Nat) (y1_27 : Int32) (y3_27 : Int32) (σ : za_S) (hz : wzZ σ) (i3_27 : 0 ≤ y3_27.toInt) (u3_27 : y3_27.toInt ≤ 100) (hn_27 : (2147483648 - y3_27.toInt).toNat < n), zV p l e (zRm 4 89) s m args below meth c E (za_A E) 4 0 0 (MQ below (va_Qi (fun r σ' => r = 0) (zB E) (za_A E)) args s 0 0 (za_A E)) 27 [(0, za_O 19 93), (1, za_I y1_27), (2, za_I y2_19), (3, za_I y3_27)] [] σ := by
          intro n
          induction n with
          | zero => intro y1_27 y3_27 σ hz i3_27 u3_27 hn; exact absurd hn (Nat.not_lt_zero _)
          | succ n ih_27 =>
            intro y1_27 y3_27 σ hz i3_27 u3_27 hn_27
            refine zv_iload_n (j := 3) G dX10_either_27 rfl rfl ?_
            refine zv_bipush (v := 100) G dX10_either_28 (by decide) ?_
            refine zv_icmp_ge (tgt := 116) G dX10_either_30 (by decide) (fun c_30 => ?_) (fun c_30 => ?_)
            · have k_30 := z_cle c_30 (a := 100) (b := y3_27.toInt) rfl rfl
              refine zv_aload_n (j := 0) G dX10_either_116 rfl rfl ?_
              refine zv_iload_n (j := 2) G dX10_either_117 rfl rfl ?_
              refine zv_callVv (as := [za_I y2_19]) G (by decide) rfl rfl (zc_X10_countsMarks_at0 l E y2_19 σ hz) zk_X10_countsMarks zm_1580 rfl ⟨(Nat.le_of_ble_eq_true rfl), (Nat.le_of_ble_eq_true rfl)⟩ ⟨Nat.zero_le _, Nat.zero_le _⟩ (Nat.le_of_ble_eq_true rfl) dX10_either_118 (fun σ h_118 => ?_)
              subst h_118
              obtain ⟨x_121, e_121⟩ : ∃ y : Int32, y = y2_19 + 1 := ⟨_, rfl⟩
              refine zv_iinc (j := 2) (v := x_121) (lv' := [(2, za_I x_121), (0, za_O 19 93), (1, za_I y1_27), (3, za_I y3_27)]) G dX10_either_121 rfl (by rw [e_121]; rfl) (by decide) rfl ?_
              first | have q_121 := z_inc9 (by omega) e_121 | skip
              refine zv_goto (tgt := 19) G dX10_either_124 (by decide) ?_
              refine zv_sub [1, 2, 0] (lv' := [(0, za_O 19 93), (1, za_I y1_27), (2, za_I x_121)]) rfl ?_
              exact ih_19 y1_27 x_121 σ hz (by have := z_inc c_22 e_121; omega) (by have := z_inc9 (by omega) e_121; omega) (z_meas c_22 e_121 hn_19)
            · have b_30 : 0 ≤ y3_27.toInt ∧ y3_27.toInt < 100 := ⟨i3_27, z_ltk c_30 rfl⟩
              have k_30 := z_cnle c_30 (a := 100) (b := y3_27.toInt) rfl rfl
              refine zv_aload_n (j := 0) G dX10_either_33 rfl rfl ?_
              refine zg_X10_138 G dX10_either_34 ?_
              refine zv_iload_n (j := 3) G dX10_either_37 rfl rfl ?_
              refine zv_aload_n (j := 0) G dX10_either_38 rfl rfl ?_
              refine zg_X10_118 G dX10_either_39 ?_
              refine zv_iconst (v := 0) G dX10_either_42 (by decide) ?_
              refine zv_iload_n (j := 2) G dX10_either_43 rfl rfl ?_
              refine zv_iload_n (j := 3) G dX10_either_44 rfl rfl ?_
              refine zv_callSi (as := [za_O 22 99, za_I 0, za_I y2_19, za_I y3_27]) G (zc_X10_isThere_at0 l E 99 (0 : Int32) y2_19 y3_27 σ (by decide) (by omega) (wzN9 hz)) zk_X10_isThere zm_1324 rfl ⟨(Nat.le_of_ble_eq_true rfl), (Nat.le_of_ble_eq_true rfl)⟩ ⟨Nat.zero_le _, Nat.zero_le _⟩ (Nat.le_of_ble_eq_true rfl) dX10_either_45 (fun r_45 σ h_45 => ?_)
              obtain ⟨h_45, rfl⟩ := h_45
              subst h_45
              refine zv_if_ne (tgt := 64) G dX10_either_48 (by decide) (fun c_48 => ?_) (fun c_48 => ?_)
              · exact absurd c_48 (by decide)
              · have k_48 := z_ceq c_48 (a := 0) (b := 0) rfl rfl
                refine zv_aload_n (j := 0) G dX10_either_51 rfl rfl ?_
                refine zg_X10_118 G dX10_either_52 ?_
                refine zv_iconst (v := 1) G dX10_either_55 (by decide) ?_
                refine zv_iload_n (j := 2) G dX10_either_56 rfl rfl ?_
                refine zv_iload_n (j := 3) G dX10_either_57 rfl rfl ?_
                refine zv_callSi (as := [za_O 22 99, za_I 1, za_I y2_19, za_I y3_27]) G (zc_X10_isThere_at0 l E 99 (1 : Int32) y2_19 y3_27 σ (by decide) (by omega) (wzN9 hz)) zk_X10_isThere zm_1324 rfl ⟨(Nat.le_of_ble_eq_true rfl), (Nat.le_of_ble_eq_true rfl)⟩ ⟨Nat.zero_le _, Nat.zero_le _⟩ (Nat.le_of_ble_eq_true rfl) dX10_either_58 (fun r_58 σ h_58 => ?_)
                obtain ⟨h_58, rfl⟩ := h_58
                subst h_58
                refine zv_if_eq (tgt := 68) G dX10_either_61 (by decide) (fun c_61 => ?_) (fun c_61 => ?_)
                · have k_61 := z_ceq c_61 (a := 0) (b := 0) rfl rfl
                  refine zv_iconst (v := 0) G dX10_either_68 (by decide) ?_
                  refine zv_callSi (as := [za_I 0]) G (zc_X10_flag_at0 l E  σ ) zk_X10_flag zm_1355 rfl ⟨(Nat.le_of_ble_eq_true rfl), (Nat.le_of_ble_eq_true rfl)⟩ ⟨Nat.zero_le _, Nat.zero_le _⟩ (Nat.le_of_ble_eq_true rfl) dX10_either_69 (fun r_69 σ h_69 => ?_)
                  obtain ⟨h_69, rfl⟩ := h_69
                  subst h_69
                  refine zv_iast G (by decide) rfl (fun _ => rfl) (z_in (by omega) (by omega)) dX10_either_72 ?_
                  refine zv_gen (R9 := wzZ) (wzZ_w hz) (fun σ hz => ?_)
                  refine zv_iload_n (j := 1) G dX10_either_73 rfl rfl ?_
                  refine zv_aload_n (j := 0) G dX10_either_74 rfl rfl ?_
                  refine zg_X10_118 G dX10_either_75 ?_
                  refine zv_iconst (v := 0) G dX10_either_78 (by decide) ?_
                  refine zv_iload_n (j := 2) G dX10_either_79 rfl rfl ?_
                  refine zv_iload_n (j := 3) G dX10_either_80 rfl rfl ?_
                  refine zv_callSi (as := [za_O 22 99, za_I 0, za_I y2_19, za_I y3_27]) G (zc_X10_isThere_at0 l E 99 (0 : Int32) y2_19 y3_27 σ (by decide) (by omega) (wzN9 hz)) zk_X10_isThere zm_1324 rfl ⟨(Nat.le_of_ble_eq_true rfl), (Nat.le_of_ble_eq_true rfl)⟩ ⟨Nat.zero_le _, Nat.zero_le _⟩ (Nat.le_of_ble_eq_true rfl) dX10_either_81 (fun r_81 σ h_81 => ?_)
                  obtain ⟨h_81, rfl⟩ := h_81
                  subst h_81
                  refine zv_if_eq (tgt := 104) G dX10_either_84 (by decide) (fun c_84 => ?_) (fun c_84 => ?_)
                  · have k_84 := z_ceq c_84 (a := 0) (b := 0) rfl rfl
                    refine zv_iconst (v := 0) G dX10_either_104 (by decide) ?_
                    refine zv_callSi (as := [za_I 0]) G (zc_X10_flag_at0 l E  σ ) zk_X10_flag zm_1355 rfl ⟨(Nat.le_of_ble_eq_true rfl), (Nat.le_of_ble_eq_true rfl)⟩ ⟨Nat.zero_le _, Nat.zero_le _⟩ (Nat.le_of_ble_eq_true rfl) dX10_either_105 (fun r_105 σ h_105 => ?_)
                    obtain ⟨h_105, rfl⟩ := h_105
                    subst h_105
                    refine zv_iadd G dX10_either_108 ?_
                    refine zv_top (fun x_109 e_109 => ?_)
                    first | have q_109 := z_addf e_109 (a := y1_27.toInt) (b := 0) rfl rfl (by omega) (by omega) | skip
                    refine zv_istore_n (lv' := [(1, za_I x_109), (0, za_O 19 93), (2, za_I y2_19), (3, za_I y3_27)]) G dX10_either_109 rfl (by decide) rfl ?_
                    obtain ⟨x_110, e_110⟩ : ∃ y : Int32, y = y3_27 + 1 := ⟨_, rfl⟩
                    refine zv_iinc (j := 3) (v := x_110) (lv' := [(3, za_I x_110), (1, za_I x_109), (0, za_O 19 93), (2, za_I y2_19)]) G dX10_either_110 rfl (by rw [e_110]; rfl) (by decide) rfl ?_
                    first | have q_110 := z_inc9 (by omega) e_110 | skip
                    refine zv_goto (tgt := 27) G dX10_either_113 (by decide) ?_
                    refine zv_sub [2, 1, 3, 0] (lv' := [(0, za_O 19 93), (1, za_I x_109), (2, za_I y2_19), (3, za_I x_110)]) rfl ?_
                    exact ih_27 x_109 x_110 σ hz (by have := z_inc c_30 e_110; omega) (by have := z_inc9 (by omega) e_110; omega) (z_meas c_30 e_110 hn_27)
                  · exact absurd c_84 (by decide)
                · exact absurd c_61 (by decide)
        refine zv_istore_n (lv' := [(3, za_I 0), (0, za_O 19 93), (1, za_I y1_19), (2, za_I y2_19)]) G dX10_either_26 rfl (by decide) rfl ?_
        refine zv_sub [1, 2, 3, 0] (lv' := [(0, za_O 19 93), (1, za_I y1_19), (2, za_I y2_19), (3, za_I 0)]) rfl ?_
        exact J_27 _ y1_19 (0 : Int32) σ hz (by decide) (by decide) (Nat.lt_succ_self _)
  refine zv_istore_n (lv' := [(2, za_I 0), (1, za_I 0), (0, za_O 19 93)]) G dX10_either_18 rfl (by decide) rfl ?_
  refine zv_sub [2, 1, 0] (lv' := [(0, za_O 19 93), (1, za_I 0), (2, za_I 0)]) rfl ?_
  exact J_19 _ (0 : Int32) (0 : Int32) σ hz (by decide) (by decide) (Nat.lt_succ_self _)
set_option maxHeartbeats 4000000 in
set_option maxRecDepth 100000 in
theorem zc_X10_sums_at0 (l : Launch) (E : za_E) (t : Int32) (fd : Int32) (td : Int32) (σ0 : za_S) (h0 : wzZ σ0) : zMi l E yX10_sums cX10_sums 10 (Option.some Jvm.ClassFile.FieldType.int) 4 89 [za_O 19 93, za_I t, za_I fd, za_I td] σ0 (fun r σ' => wzAn ((0 ≤ t.toInt ∧ t.toInt ≤ 1) ∧ (0 ≤ fd.toInt ∧ fd.toInt ≤ 99) ∧ fd.toInt < td.toInt ∧ td.toInt ≤ 100) 0 (-1) r) := by
  refine zMi_of [(0, za_O 19 93), (1, za_I t), (2, za_I fd), (3, za_I td)] (by decide) rfl rfl (Nat.le_of_ble_eq_true rfl) ?_
  intro ho p e s m args below meth c G hr
  refine zv_gen (R9 := wzZ) h0 (fun σ hz => ?_)
  refine zv_aload_n (j := 0) G dX10_sums_0 rfl rfl ?_
  refine zv_iconst (v := 0) G dX10_sums_1 (by decide) ?_
  refine zp_X10_3 G dX10_sums_2 ?_
  refine zv_gen (R9 := wzZ) (wzZ_w hz) (fun σ hz => ?_)
  refine zv_iload_n (j := 1) G dX10_sums_5 rfl rfl ?_
  refine zv_callSi (as := [za_I t]) G (zc_X10_isTable l E t σ ) zk_X10_isTable zm_1313 rfl ⟨(Nat.le_of_ble_eq_true rfl), (Nat.le_of_ble_eq_true rfl)⟩ ⟨Nat.zero_le _, Nat.zero_le _⟩ (Nat.le_of_ble_eq_true rfl) dX10_sums_6 (fun r_6 σ h_6 => ?_)
  obtain ⟨h_6, rfl⟩ := h_6
  refine zv_if_eq (tgt := 20) G dX10_sums_9 (by decide) (fun c_9 => ?_) (fun c_9 => ?_)
  · have f_6 := fun q9 => (h_6.2.mpr q9) c_9
    refine zv_iconst (v := (-1)) G dX10_sums_20 (by decide) ?_
    exact zv_iret G hr dX10_sums_21 (wzAn_n (fun q => by first | exact f_6 (by omega) | exact f_14 (by omega)))
  · have t_6 := h_6.2.mp c_9
    refine zv_iload_n (j := 2) G dX10_sums_12 rfl rfl ?_
    refine zv_iload_n (j := 3) G dX10_sums_13 rfl rfl ?_
    refine zv_callSi (as := [za_I fd, za_I td]) G (zc_X10_isPeriod l E fd td σ ) zk_X10_isPeriod zm_1379 rfl ⟨(Nat.le_of_ble_eq_true rfl), (Nat.le_of_ble_eq_true rfl)⟩ ⟨Nat.zero_le _, Nat.zero_le _⟩ (Nat.le_of_ble_eq_true rfl) dX10_sums_14 (fun r_14 σ h_14 => ?_)
    obtain ⟨h_14, rfl⟩ := h_14
    refine zv_if_ne (tgt := 22) G dX10_sums_17 (by decide) (fun c_17 => ?_) (fun c_17 => ?_)
    · have t_14 := h_14.2.mp c_17
      refine zv_iconst (v := 0) G dX10_sums_22 (by decide) ?_
      refine zv_istore (lv' := [(4, za_I 0), (0, za_O 19 93), (1, za_I t), (2, za_I fd), (3, za_I td)]) G dX10_sums_23 (by decide) rfl ?_
      refine zv_iconst (v := (-1)) G dX10_sums_25 (by decide) ?_
      refine zv_istore (lv' := [(5, za_I (-1)), (4, za_I 0), (0, za_O 19 93), (1, za_I t), (2, za_I fd), (3, za_I td)]) G dX10_sums_26 (by decide) rfl ?_
      refine zv_iload_n (j := 4) G dX10_sums_28 rfl rfl ?_
      refine zv_istore (lv' := [(6, za_I fd), (5, za_I (-1)), (4, za_I 0), (0, za_O 19 93), (1, za_I t), (2, za_I fd), (3, za_I td)]) G dX10_sums_29 (by decide) rfl ?_
      refine zv_iload_n (j := 5) G dX10_sums_31 rfl rfl ?_
      have J_34 : ∀ (n : Nat) (y4_34 : Int32) (y5_34 : Int32) (y6_34 : Int32) (y7_34 : Int32) (σ : za_S) (hz : wzZ σ) (s_34 : y4_34 = 0) (g_34 : fd.toInt ≤ y7_34.toInt) (i7_34 : 0 ≤ y7_34.toInt) (hn_34 : (2147483648 - y7_34.toInt).toNat < n), zV p l e (zRm 4 89) s m args below meth c E (za_A E) 10 0 0 (MQ below (va_Qi (fun r σ' => wzAn ((0 ≤ t.toInt ∧ t.toInt ≤ 1) ∧ (0 ≤ fd.toInt ∧ fd.toInt ≤ 99) ∧ fd.toInt < td.toInt ∧ td.toInt ≤ 100) 0 (-1) r) (zB E) (za_A E)) args s 0 0 (za_A E)) 34 [(0, za_O 19 93), (1, za_I t), (3, za_I td), (4, za_I y4_34), (5, za_I y5_34), (6, za_I y6_34), (7, za_I y7_34)] [] σ := by
        intro n
        induction n with
        | zero => intro y4_34 y5_34 y6_34 y7_34 σ hz s_34 g_34 i7_34 hn; exact absurd hn (Nat.not_lt_zero _)
        | succ n ih_34 =>
          intro y4_34 y5_34 y6_34 y7_34 σ hz s_34 g_34 i7_34 hn_34
          refine zv_iload (j := 6) G dX10_sums_34 rfl ?_
          refine zv_iload_n (j := 2) G dX10_sums_36 rfl rfl ?_
          refine zv_icmp_ge (tgt := 133) G dX10_sums_37 (by decide) (fun c_37 => ?_) (fun c_37 => ?_)
          · have k_37 := z_cle c_37 (a := td.toInt) (b := y7_34.toInt) rfl rfl
            refine zv_aload_n (j := 0) G dX10_sums_133 rfl rfl ?_
            refine zv_iconst (v := 0) G dX10_sums_134 (by decide) ?_
            refine zp_X10_15 G dX10_sums_135 ?_
            refine zv_gen (R9 := wzZ) (wzZ_w hz) (fun σ hz => ?_)
            refine zv_aload_n (j := 0) G dX10_sums_138 rfl rfl ?_
            refine zv_iload (j := 4) G dX10_sums_139 rfl ?_
            refine zv_i2l G dX10_sums_141 ?_
            refine zv_callVv (as := [za_L y5_34.toInt64]) G (by decide) rfl rfl (zc_X10_enters l E y5_34.toInt64 σ (by rw [hz 93 (by decide) 1]; decide)) zk_X10_enters zm_1422 rfl ⟨(Nat.le_of_ble_eq_true rfl), (Nat.le_of_ble_eq_true rfl)⟩ ⟨Nat.zero_le _, Nat.zero_le _⟩ (Nat.le_of_ble_eq_true rfl) dX10_sums_142 (fun σ h_142 => ?_)
            have hz := wzt_1 (hz 93 (by decide) 1) h_142
            refine zv_aload_n (j := 0) G dX10_sums_145 rfl rfl ?_
            refine zv_iload (j := 5) G dX10_sums_146 rfl ?_
            refine zv_i2l G dX10_sums_148 ?_
            refine zv_callVv (as := [za_L y6_34.toInt64]) G (by decide) rfl rfl (zc_X10_enters l E y6_34.toInt64 σ (by rw [hz]; decide)) zk_X10_enters zm_1422 rfl ⟨(Nat.le_of_ble_eq_true rfl), (Nat.le_of_ble_eq_true rfl)⟩ ⟨Nat.zero_le _, Nat.zero_le _⟩ (Nat.le_of_ble_eq_true rfl) dX10_sums_149 (fun σ h_149 => ?_)
            have hz : True := trivial
            refine zv_iload (j := 3) G dX10_sums_152 rfl ?_
            exact zv_iret G hr dX10_sums_154 (wzAn_e ⟨t_6, t_14⟩ s_34)
          · have k_37 := z_cnle c_37 (a := td.toInt) (b := y7_34.toInt) rfl rfl
            refine zv_iconst (v := 0) G dX10_sums_40 (by decide) ?_
            refine zv_istore (lv' := [(8, za_I 0), (0, za_O 19 93), (1, za_I t), (3, za_I td), (4, za_I y4_34), (5, za_I y5_34), (6, za_I y6_34), (7, za_I y7_34)]) G dX10_sums_41 (by decide) rfl ?_
            refine zv_iconst (v := 0) G dX10_sums_43 (by decide) ?_
            have J_46 : ∀ (n : Nat) (y8_46 : Int32) (y9_46 : Int32) (σ : za_S) (hz : wzZ σ) (s_46 : y8_46 = 0) (i9_46 : 0 ≤ y9_46.toInt) (u9_46 : y9_46.toInt ≤ 10) (hn_46 : (2147483648 - y9_46.toInt).toNat < n), zV p l e (zRm 4 89) s m args below meth c E (za_A E) 10 0 0 (MQ below (va_Qi (fun r σ' => wzAn ((0 ≤ t.toInt ∧ t.toInt ≤ 1) ∧ (0 ≤ fd.toInt ∧ fd.toInt ≤ 99) ∧ fd.toInt < td.toInt ∧ td.toInt ≤ 100) 0 (-1) r) (zB E) (za_A E)) args s 0 0 (za_A E)) 46 [(0, za_O 19 93), (1, za_I t), (3, za_I td), (4, za_I y4_34), (5, za_I y5_34), (6, za_I y6_34), (7, za_I y7_34), (8, za_I y8_46), (9, za_I y9_46)] [] σ := by
              intro n
              induction n with
              | zero => intro y8_46 y9_46 σ hz s_46 i9_46 u9_46 hn; exact absurd hn (Nat.not_lt_zero _)
              | succ n ih_46 =>
                intro y8_46 y9_46 σ hz s_46 i9_46 u9_46 hn_46
                refine zv_iload (j := 8) G dX10_sums_46 rfl ?_
                refine zv_bipush (v := 10) G dX10_sums_48 (by decide) ?_
                refine zv_icmp_ge (tgt := 95) G dX10_sums_50 (by decide) (fun c_50 => ?_) (fun c_50 => ?_)
                · have k_50 := z_cle c_50 (a := 10) (b := y9_46.toInt) rfl rfl
                  refine zv_iload (j := 3) G dX10_sums_95 rfl ?_
                  refine zv_iload (j := 7) G dX10_sums_97 rfl ?_
                  refine zv_iadd G dX10_sums_99 ?_
                  refine zv_top (fun x_100 e_100 => ?_)
                  first | have q_100 := z_addf e_100 (a := y4_34.toInt) (b := y8_46.toInt) rfl rfl (by omega) (by omega) | skip
                  refine zv_istore (lv' := [(4, za_I x_100), (0, za_O 19 93), (1, za_I t), (3, za_I td), (5, za_I y5_34), (6, za_I y6_34), (7, za_I y7_34), (8, za_I y8_46), (9, za_I y9_46)]) G dX10_sums_100 (by decide) rfl ?_
                  refine zv_iload (j := 7) G dX10_sums_102 rfl ?_
                  refine zv_iload (j := 4) G dX10_sums_104 rfl ?_
                  refine zv_icmp_le (tgt := 114) G dX10_sums_106 (by decide) (fun c_106 => ?_) (fun c_106 => ?_)
                  · have k_106 := z_cle c_106 (a := y8_46.toInt) (b := y5_34.toInt) rfl rfl
                    refine zv_iload (j := 5) G dX10_sums_114 rfl ?_
                    refine zv_istore (lv' := [(6, za_I y6_34), (4, za_I x_100), (0, za_O 19 93), (1, za_I t), (3, za_I td), (5, za_I y5_34), (7, za_I y7_34), (8, za_I y8_46), (9, za_I y9_46)]) G dX10_sums_116 (by decide) rfl ?_
                    refine zv_iload (j := 5) G dX10_sums_118 rfl ?_
                    refine zv_iload (j := 7) G dX10_sums_120 rfl ?_
                    refine zv_mmax G zm_1359 zm_395 zm_147 zm_396 (Nat.le_of_ble_eq_true rfl) (Nat.le_of_ble_eq_true rfl) (Nat.zero_le _) (Nat.zero_le _) dX10_sums_122 ?_
                    refine zv_top (fun x_122 e_122 => ?_)
                    refine zv_istore (lv' := [(5, za_I x_122), (6, za_I y6_34), (4, za_I x_100), (0, za_O 19 93), (1, za_I t), (3, za_I td), (7, za_I y7_34), (8, za_I y8_46), (9, za_I y9_46)]) G dX10_sums_125 (by decide) rfl ?_
                    obtain ⟨x_127, e_127⟩ : ∃ y : Int32, y = y7_34 + 1 := ⟨_, rfl⟩
                    refine zv_iinc (j := 6) (v := x_127) (lv' := [(7, za_I x_127), (5, za_I x_122), (6, za_I y6_34), (4, za_I x_100), (0, za_O 19 93), (1, za_I t), (3, za_I td), (8, za_I y8_46), (9, za_I y9_46)]) G dX10_sums_127 rfl (by rw [e_127]; rfl) (by decide) rfl ?_
                    first | have q_127 := z_inc9 (by omega) e_127 | skip
                    refine zv_goto (tgt := 34) G dX10_sums_130 (by decide) ?_
                    refine zv_sub [4, 5, 6, 3, 1, 2, 0] (lv' := [(0, za_O 19 93), (1, za_I t), (3, za_I td), (4, za_I x_100), (5, za_I x_122), (6, za_I y6_34), (7, za_I x_127)]) rfl ?_
                    exact ih_34 x_100 x_122 y6_34 x_127 σ hz (by rw [e_100, s_34, s_46]; decide) (by omega) (by have := z_inc c_37 e_127; omega) (z_meas c_37 e_127 hn_34)
                  · have k_106 := z_cnle c_106 (a := y8_46.toInt) (b := y5_34.toInt) rfl rfl
                    refine zv_iload (j := 6) G dX10_sums_109 rfl ?_
                    refine zv_goto (tgt := 116) G dX10_sums_111 (by decide) ?_
                    refine zv_istore (lv' := [(6, za_I y7_34), (4, za_I x_100), (0, za_O 19 93), (1, za_I t), (3, za_I td), (5, za_I y5_34), (7, za_I y7_34), (8, za_I y8_46), (9, za_I y9_46)]) G dX10_sums_116 (by decide) rfl ?_
                    refine zv_iload (j := 5) G dX10_sums_118 rfl ?_
                    refine zv_iload (j := 7) G dX10_sums_120 rfl ?_
                    refine zv_mmax G zm_1359 zm_395 zm_147 zm_396 (Nat.le_of_ble_eq_true rfl) (Nat.le_of_ble_eq_true rfl) (Nat.zero_le _) (Nat.zero_le _) dX10_sums_122 ?_
                    refine zv_top (fun x_122 e_122 => ?_)
                    refine zv_istore (lv' := [(5, za_I x_122), (6, za_I y7_34), (4, za_I x_100), (0, za_O 19 93), (1, za_I t), (3, za_I td), (7, za_I y7_34), (8, za_I y8_46), (9, za_I y9_46)]) G dX10_sums_125 (by decide) rfl ?_
                    obtain ⟨x_127, e_127⟩ : ∃ y : Int32, y = y7_34 + 1 := ⟨_, rfl⟩
                    refine zv_iinc (j := 6) (v := x_127) (lv' := [(7, za_I x_127), (5, za_I x_122), (6, za_I y7_34), (4, za_I x_100), (0, za_O 19 93), (1, za_I t), (3, za_I td), (8, za_I y8_46), (9, za_I y9_46)]) G dX10_sums_127 rfl (by rw [e_127]; rfl) (by decide) rfl ?_
                    first | have q_127 := z_inc9 (by omega) e_127 | skip
                    refine zv_goto (tgt := 34) G dX10_sums_130 (by decide) ?_
                    refine zv_sub [4, 5, 6, 3, 1, 2, 0] (lv' := [(0, za_O 19 93), (1, za_I t), (3, za_I td), (4, za_I x_100), (5, za_I x_122), (6, za_I y7_34), (7, za_I x_127)]) rfl ?_
                    exact ih_34 x_100 x_122 y7_34 x_127 σ hz (by rw [e_100, s_34, s_46]; decide) (by omega) (by have := z_inc c_37 e_127; omega) (z_meas c_37 e_127 hn_34)
                · have b_50 : 0 ≤ y9_46.toInt ∧ y9_46.toInt < 10 := ⟨i9_46, z_ltk c_50 rfl⟩
                  have k_50 := z_cnle c_50 (a := 10) (b := y9_46.toInt) rfl rfl
                  refine zv_iload (j := 7) G dX10_sums_53 rfl ?_
                  refine zv_aload_n (j := 0) G dX10_sums_55 rfl rfl ?_
                  refine zg_X10_118 G dX10_sums_56 ?_
                  refine zv_iload_n (j := 1) G dX10_sums_59 rfl rfl ?_
                  refine zv_iload (j := 8) G dX10_sums_60 rfl ?_
                  refine zv_iload (j := 6) G dX10_sums_62 rfl ?_
                  refine zv_callSi (as := [za_O 22 99, za_I t, za_I y9_46, za_I y7_34]) G (zc_X10_isThere_at0 l E 99 t y9_46 y7_34 σ t_6 (by omega) (wzN9 hz)) zk_X10_isThere zm_1324 rfl ⟨(Nat.le_of_ble_eq_true rfl), (Nat.le_of_ble_eq_true rfl)⟩ ⟨Nat.zero_le _, Nat.zero_le _⟩ (Nat.le_of_ble_eq_true rfl) dX10_sums_64 (fun r_64 σ h_64 => ?_)
                  obtain ⟨h_64, rfl⟩ := h_64
                  subst h_64
                  refine zv_if_eq (tgt := 85) G dX10_sums_67 (by decide) (fun c_67 => ?_) (fun c_67 => ?_)
                  · have k_67 := z_ceq c_67 (a := 0) (b := 0) rfl rfl
                    refine zv_iconst (v := 0) G dX10_sums_85 (by decide) ?_
                    refine zv_iadd G dX10_sums_86 ?_
                    refine zv_top (fun x_87 e_87 => ?_)
                    first | have q_87 := z_addf e_87 (a := y8_46.toInt) (b := 0) rfl rfl (by omega) (by omega) | skip
                    refine zv_istore (lv' := [(8, za_I x_87), (0, za_O 19 93), (1, za_I t), (3, za_I td), (4, za_I y4_34), (5, za_I y5_34), (6, za_I y6_34), (7, za_I y7_34), (9, za_I y9_46)]) G dX10_sums_87 (by decide) rfl ?_
                    obtain ⟨x_89, e_89⟩ : ∃ y : Int32, y = y9_46 + 1 := ⟨_, rfl⟩
                    refine zv_iinc (j := 8) (v := x_89) (lv' := [(9, za_I x_89), (8, za_I x_87), (0, za_O 19 93), (1, za_I t), (3, za_I td), (4, za_I y4_34), (5, za_I y5_34), (6, za_I y6_34), (7, za_I y7_34)]) G dX10_sums_89 rfl (by rw [e_89]; rfl) (by decide) rfl ?_
                    first | have q_89 := z_inc9 (by omega) e_89 | skip
                    refine zv_goto (tgt := 46) G dX10_sums_92 (by decide) ?_
                    refine zv_sub [2, 3, 4, 5, 6, 7, 8, 1, 0] (lv' := [(0, za_O 19 93), (1, za_I t), (3, za_I td), (4, za_I y4_34), (5, za_I y5_34), (6, za_I y6_34), (7, za_I y7_34), (8, za_I x_87), (9, za_I x_89)]) rfl ?_
                    exact ih_46 x_87 x_89 σ hz (by rw [e_87, s_46]; decide) (by have := z_inc c_50 e_89; omega) (by have := z_inc9 (by omega) e_89; omega) (z_meas c_50 e_89 hn_46)
                  · exact absurd c_67 (by decide)
            refine zv_istore (lv' := [(9, za_I 0), (8, za_I 0), (0, za_O 19 93), (1, za_I t), (3, za_I td), (4, za_I y4_34), (5, za_I y5_34), (6, za_I y6_34), (7, za_I y7_34)]) G dX10_sums_44 (by decide) rfl ?_
            refine zv_sub [2, 3, 4, 5, 6, 7, 8, 1, 0] (lv' := [(0, za_O 19 93), (1, za_I t), (3, za_I td), (4, za_I y4_34), (5, za_I y5_34), (6, za_I y6_34), (7, za_I y7_34), (8, za_I 0), (9, za_I 0)]) rfl ?_
            exact J_46 _ (0 : Int32) (0 : Int32) σ hz rfl (by decide) (by decide) (Nat.lt_succ_self _)
      refine zv_istore (lv' := [(7, za_I fd), (6, za_I fd), (5, za_I (-1)), (4, za_I 0), (0, za_O 19 93), (1, za_I t), (2, za_I fd), (3, za_I td)]) G dX10_sums_32 (by decide) rfl ?_
      refine zv_sub [4, 5, 7, 3, 2, 1, 0] (lv' := [(0, za_O 19 93), (1, za_I t), (3, za_I td), (4, za_I 0), (5, za_I (-1)), (6, za_I fd), (7, za_I fd)]) rfl ?_
      exact J_34 _ (0 : Int32) (-1) fd fd σ hz rfl (by omega) (by first | assumption | omega) (Nat.lt_succ_self _)
    · have f_14 := fun q9 => (h_14.2.mpr q9) c_17
      refine zv_iconst (v := (-1)) G dX10_sums_20 (by decide) ?_
      exact zv_iret G hr dX10_sums_21 (wzAn_n (fun q => by first | exact f_6 (by omega) | exact f_14 (by omega)))
set_option maxHeartbeats 4000000 in
set_option maxRecDepth 100000 in
theorem zc_X10_mean_at0 (l : Launch) (E : za_E) (t : Int32) (k : Int32) (σ0 : za_S) (h0 : wzZ σ0) : zMi l E yX10_mean cX10_mean 7 (Option.some Jvm.ClassFile.FieldType.int) 4 89 [za_O 19 93, za_I t, za_I k] σ0 (fun r σ' => wzAn ((0 ≤ t.toInt ∧ t.toInt ≤ 1) ∧ (0 ≤ k.toInt ∧ k.toInt ≤ 9)) (-2) (-1) r) := by
  refine zMi_of [(0, za_O 19 93), (1, za_I t), (2, za_I k)] (by decide) rfl rfl (Nat.le_of_ble_eq_true rfl) ?_
  intro ho p e s m args below meth c G hr
  refine zv_gen (R9 := wzZ) h0 (fun σ hz => ?_)
  refine zv_aload_n (j := 0) G dX10_mean_0 rfl rfl ?_
  refine zv_iconst (v := 0) G dX10_mean_1 (by decide) ?_
  refine zp_X10_3 G dX10_mean_2 ?_
  refine zv_gen (R9 := wzZ) (wzZ_w hz) (fun σ hz => ?_)
  refine zv_iload_n (j := 1) G dX10_mean_5 rfl rfl ?_
  refine zv_callSi (as := [za_I t]) G (zc_X10_isTable l E t σ ) zk_X10_isTable zm_1313 rfl ⟨(Nat.le_of_ble_eq_true rfl), (Nat.le_of_ble_eq_true rfl)⟩ ⟨Nat.zero_le _, Nat.zero_le _⟩ (Nat.le_of_ble_eq_true rfl) dX10_mean_6 (fun r_6 σ h_6 => ?_)
  obtain ⟨h_6, rfl⟩ := h_6
  refine zv_if_eq (tgt := 19) G dX10_mean_9 (by decide) (fun c_9 => ?_) (fun c_9 => ?_)
  · have f_6 := fun q9 => (h_6.2.mpr q9) c_9
    refine zv_iconst (v := (-1)) G dX10_mean_19 (by decide) ?_
    exact zv_iret G hr dX10_mean_20 (wzAn_n (fun q => by first | exact f_6 (by omega) | exact f_13 (by omega)))
  · have t_6 := h_6.2.mp c_9
    refine zv_iload_n (j := 2) G dX10_mean_12 rfl rfl ?_
    refine zv_callSi (as := [za_I k]) G (zc_X10_isKey l E k σ ) zk_X10_isKey zm_1375 rfl ⟨(Nat.le_of_ble_eq_true rfl), (Nat.le_of_ble_eq_true rfl)⟩ ⟨Nat.zero_le _, Nat.zero_le _⟩ (Nat.le_of_ble_eq_true rfl) dX10_mean_13 (fun r_13 σ h_13 => ?_)
    obtain ⟨h_13, rfl⟩ := h_13
    refine zv_if_ne (tgt := 21) G dX10_mean_16 (by decide) (fun c_16 => ?_) (fun c_16 => ?_)
    · have t_13 := h_13.2.mp c_16
      refine zv_iconst (v := 0) G dX10_mean_21 (by decide) ?_
      refine zv_istore_n (lv' := [(3, za_I 0), (0, za_O 19 93), (1, za_I t), (2, za_I k)]) G dX10_mean_22 rfl (by decide) rfl ?_
      refine zv_iconst (v := 0) G dX10_mean_23 (by decide) ?_
      refine zv_istore (lv' := [(4, za_I 0), (3, za_I 0), (0, za_O 19 93), (1, za_I t), (2, za_I k)]) G dX10_mean_24 (by decide) rfl ?_
      refine zv_iconst (v := 0) G dX10_mean_26 (by decide) ?_
      have J_29 : ∀ (n : Nat) (y3_29 : Int32) (y4_29 : Int32) (y5_29 : Int32) (σ : za_S) (hz : wzZ σ) (s_29 : y4_29 = 0) (i5_29 : 0 ≤ y5_29.toInt) (u5_29 : y5_29.toInt ≤ 100) (hn_29 : (2147483648 - y5_29.toInt).toNat < n), zV p l e (zRm 4 89) s m args below meth c E (za_A E) 7 0 0 (MQ below (va_Qi (fun r σ' => wzAn ((0 ≤ t.toInt ∧ t.toInt ≤ 1) ∧ (0 ≤ k.toInt ∧ k.toInt ≤ 9)) (-2) (-1) r) (zB E) (za_A E)) args s 0 0 (za_A E)) 29 [(0, za_O 19 93), (1, za_I t), (2, za_I k), (3, za_I y3_29), (4, za_I y4_29), (5, za_I y5_29)] [] σ := by
        intro n
        induction n with
        | zero => intro y3_29 y4_29 y5_29 σ hz s_29 i5_29 u5_29 hn; exact absurd hn (Nat.not_lt_zero _)
        | succ n ih_29 =>
          intro y3_29 y4_29 y5_29 σ hz s_29 i5_29 u5_29 hn_29
          refine zv_iload (j := 5) G dX10_mean_29 rfl ?_
          refine zv_bipush (v := 100) G dX10_mean_31 (by decide) ?_
          refine zv_icmp_ge (tgt := 93) G dX10_mean_33 (by decide) (fun c_33 => ?_) (fun c_33 => ?_)
          · have k_33 := z_cle c_33 (a := 100) (b := y5_29.toInt) rfl rfl
            refine zv_iload (j := 4) G dX10_mean_93 rfl ?_
            refine zv_if_ne (tgt := 101) G dX10_mean_95 (by decide) (fun c_95 => ?_) (fun c_95 => ?_)
            · exact absurd s_29 c_95
            · have k_95 := z_ceq c_95 (a := y4_29.toInt) (b := 0) rfl rfl
              refine zv_bipush (v := (-2)) G dX10_mean_98 (by decide) ?_
              exact zv_iret G hr dX10_mean_100 (wzAn_y ⟨t_6, t_13⟩)
          · have b_33 : 0 ≤ y5_29.toInt ∧ y5_29.toInt < 100 := ⟨i5_29, z_ltk c_33 rfl⟩
            have k_33 := z_cnle c_33 (a := 100) (b := y5_29.toInt) rfl rfl
            refine zv_iload_n (j := 3) G dX10_mean_36 rfl rfl ?_
            refine zv_aload_n (j := 0) G dX10_mean_37 rfl rfl ?_
            refine zg_X10_118 G dX10_mean_38 ?_
            refine zv_iload_n (j := 1) G dX10_mean_41 rfl rfl ?_
            refine zv_iload_n (j := 2) G dX10_mean_42 rfl rfl ?_
            refine zv_iload (j := 5) G dX10_mean_43 rfl ?_
            refine zv_callSi (as := [za_O 22 99, za_I t, za_I k, za_I y5_29]) G (zc_X10_isThere_at0 l E 99 t k y5_29 σ t_6 t_13 (wzN9 hz)) zk_X10_isThere zm_1324 rfl ⟨(Nat.le_of_ble_eq_true rfl), (Nat.le_of_ble_eq_true rfl)⟩ ⟨Nat.zero_le _, Nat.zero_le _⟩ (Nat.le_of_ble_eq_true rfl) dX10_mean_45 (fun r_45 σ h_45 => ?_)
            obtain ⟨h_45, rfl⟩ := h_45
            subst h_45
            refine zv_if_eq (tgt := 65) G dX10_mean_48 (by decide) (fun c_48 => ?_) (fun c_48 => ?_)
            · have k_48 := z_ceq c_48 (a := 0) (b := 0) rfl rfl
              refine zv_iconst (v := 0) G dX10_mean_65 (by decide) ?_
              refine zv_iadd G dX10_mean_66 ?_
              refine zv_top (fun x_67 e_67 => ?_)
              first | have q_67 := z_addf e_67 (a := y3_29.toInt) (b := 0) rfl rfl (by omega) (by omega) | skip
              refine zv_istore_n (lv' := [(3, za_I x_67), (0, za_O 19 93), (1, za_I t), (2, za_I k), (4, za_I y4_29), (5, za_I y5_29)]) G dX10_mean_67 rfl (by decide) rfl ?_
              refine zv_iload (j := 4) G dX10_mean_68 rfl ?_
              refine zv_aload_n (j := 1) G dX10_mean_70 rfl rfl ?_
              refine zg_X10_118 G dX10_mean_71 ?_
              refine zv_iload_n (j := 2) G dX10_mean_74 rfl rfl ?_
              refine zv_iload_n (j := 3) G dX10_mean_75 rfl rfl ?_
              refine zv_iload (j := 5) G dX10_mean_76 rfl ?_
              refine zv_callSi (as := [za_O 22 99, za_I t, za_I k, za_I y5_29]) G (zc_X10_isThere_at0 l E 99 t k y5_29 σ t_6 t_13 (wzN9 hz)) zk_X10_isThere zm_1324 rfl ⟨(Nat.le_of_ble_eq_true rfl), (Nat.le_of_ble_eq_true rfl)⟩ ⟨Nat.zero_le _, Nat.zero_le _⟩ (Nat.le_of_ble_eq_true rfl) dX10_mean_78 (fun r_78 σ h_78 => ?_)
              obtain ⟨h_78, rfl⟩ := h_78
              subst h_78
              refine zv_callSi (as := [za_I 0]) G (zc_X10_flag_at0 l E  σ ) zk_X10_flag zm_1355 rfl ⟨(Nat.le_of_ble_eq_true rfl), (Nat.le_of_ble_eq_true rfl)⟩ ⟨Nat.zero_le _, Nat.zero_le _⟩ (Nat.le_of_ble_eq_true rfl) dX10_mean_81 (fun r_81 σ h_81 => ?_)
              obtain ⟨h_81, rfl⟩ := h_81
              subst h_81
              refine zv_iadd G dX10_mean_84 ?_
              refine zv_top (fun x_85 e_85 => ?_)
              first | have q_85 := z_addf e_85 (a := y4_29.toInt) (b := 0) rfl rfl (by omega) (by omega) | skip
              refine zv_istore (lv' := [(4, za_I x_85), (3, za_I x_67), (0, za_O 19 93), (1, za_I t), (2, za_I k), (5, za_I y5_29)]) G dX10_mean_85 (by decide) rfl ?_
              obtain ⟨x_87, e_87⟩ : ∃ y : Int32, y = y5_29 + 1 := ⟨_, rfl⟩
              refine zv_iinc (j := 5) (v := x_87) (lv' := [(5, za_I x_87), (4, za_I x_85), (3, za_I x_67), (0, za_O 19 93), (1, za_I t), (2, za_I k)]) G dX10_mean_87 rfl (by rw [e_87]; rfl) (by decide) rfl ?_
              first | have q_87 := z_inc9 (by omega) e_87 | skip
              refine zv_goto (tgt := 29) G dX10_mean_90 (by decide) ?_
              refine zv_sub [3, 4, 5, 2, 1, 0] (lv' := [(0, za_O 19 93), (1, za_I t), (2, za_I k), (3, za_I x_67), (4, za_I x_85), (5, za_I x_87)]) rfl ?_
              exact ih_29 x_67 x_85 x_87 σ hz (by rw [e_85, s_29]; decide) (by have := z_inc c_33 e_87; omega) (by have := z_inc9 (by omega) e_87; omega) (z_meas c_33 e_87 hn_29)
            · exact absurd c_48 (by decide)
      refine zv_istore (lv' := [(5, za_I 0), (4, za_I 0), (3, za_I 0), (0, za_O 19 93), (1, za_I t), (2, za_I k)]) G dX10_mean_27 (by decide) rfl ?_
      refine zv_sub [3, 4, 5, 2, 1, 0] (lv' := [(0, za_O 19 93), (1, za_I t), (2, za_I k), (3, za_I 0), (4, za_I 0), (5, za_I 0)]) rfl ?_
      exact J_29 _ (0 : Int32) (0 : Int32) (0 : Int32) σ hz rfl (by decide) (by decide) (Nat.lt_succ_self _)
    · have f_13 := fun q9 => (h_13.2.mpr q9) c_16
      refine zv_iconst (v := (-1)) G dX10_mean_19 (by decide) ?_
      exact zv_iret G hr dX10_mean_20 (wzAn_n (fun q => by first | exact f_6 (by omega) | exact f_13 (by omega)))
set_option maxHeartbeats 4000000 in
set_option maxRecDepth 100000 in
theorem zc_X10_fullest_at0 (l : Launch) (E : za_E) (t : Int32) (σ0 : za_S) (h0 : wzZ σ0) : zMi l E yX10_fullest cX10_fullest 8 (Option.some Jvm.ClassFile.FieldType.int) 4 89 [za_O 19 93, za_I t] σ0 (fun r σ' => wzAn ((0 ≤ t.toInt ∧ t.toInt ≤ 1)) 0 (-1) r) := by
  refine zMi_of [(0, za_O 19 93), (1, za_I t)] (by decide) rfl rfl (Nat.le_of_ble_eq_true rfl) ?_
  intro ho p e s m args below meth c G hr
  refine zv_gen (R9 := wzZ) h0 (fun σ hz => ?_)
  refine zv_aload_n (j := 0) G dX10_fullest_0 rfl rfl ?_
  refine zv_iconst (v := 0) G dX10_fullest_1 (by decide) ?_
  refine zp_X10_3 G dX10_fullest_2 ?_
  refine zv_gen (R9 := wzZ) (wzZ_w hz) (fun σ hz => ?_)
  refine zv_iload_n (j := 1) G dX10_fullest_5 rfl rfl ?_
  refine zv_callSi (as := [za_I t]) G (zc_X10_isTable l E t σ ) zk_X10_isTable zm_1313 rfl ⟨(Nat.le_of_ble_eq_true rfl), (Nat.le_of_ble_eq_true rfl)⟩ ⟨Nat.zero_le _, Nat.zero_le _⟩ (Nat.le_of_ble_eq_true rfl) dX10_fullest_6 (fun r_6 σ h_6 => ?_)
  obtain ⟨h_6, rfl⟩ := h_6
  refine zv_if_ne (tgt := 14) G dX10_fullest_9 (by decide) (fun c_9 => ?_) (fun c_9 => ?_)
  · have t_6 := h_6.2.mp c_9
    refine zv_iconst (v := 0) G dX10_fullest_14 (by decide) ?_
    refine zv_istore_n (lv' := [(2, za_I 0), (0, za_O 19 93), (1, za_I t)]) G dX10_fullest_15 rfl (by decide) rfl ?_
    refine zv_iconst (v := (-1)) G dX10_fullest_16 (by decide) ?_
    refine zv_istore_n (lv' := [(3, za_I (-1)), (2, za_I 0), (0, za_O 19 93), (1, za_I t)]) G dX10_fullest_17 rfl (by decide) rfl ?_
    refine zv_iconst (v := 0) G dX10_fullest_18 (by decide) ?_
    refine zv_istore (lv' := [(4, za_I 0), (3, za_I (-1)), (2, za_I 0), (0, za_O 19 93), (1, za_I t)]) G dX10_fullest_19 (by decide) rfl ?_
    refine zv_iconst (v := 0) G dX10_fullest_21 (by decide) ?_
    have J_24 : ∀ (n : Nat) (y2_24 : Int32) (y3_24 : Int32) (y4_24 : Int32) (y5_24 : Int32) (σ : za_S) (hz : wzZ σ) (f_24 : (y5_24 = 0 ∧ y3_24 = -1) ∨ y3_24 = 0) (b_24 : y2_24 = 0) (i5_24 : 0 ≤ y5_24.toInt) (u5_24 : y5_24.toInt ≤ 100) (hn_24 : (2147483648 - y5_24.toInt).toNat < n), zV p l e (zRm 4 89) s m args below meth c E (za_A E) 8 0 0 (MQ below (va_Qi (fun r σ' => wzAn ((0 ≤ t.toInt ∧ t.toInt ≤ 1)) 0 (-1) r) (zB E) (za_A E)) args s 0 0 (za_A E)) 24 [(0, za_O 19 93), (1, za_I t), (2, za_I y2_24), (3, za_I y3_24), (4, za_I y4_24), (5, za_I y5_24)] [] σ := by
      intro n
      induction n with
      | zero => intro y2_24 y3_24 y4_24 y5_24 σ hz f_24 b_24 i5_24 u5_24 hn; exact absurd hn (Nat.not_lt_zero _)
      | succ n ih_24 =>
        intro y2_24 y3_24 y4_24 y5_24 σ hz f_24 b_24 i5_24 u5_24 hn_24
        refine zv_iload (j := 5) G dX10_fullest_24 rfl ?_
        refine zv_bipush (v := 100) G dX10_fullest_26 (by decide) ?_
        refine zv_icmp_ge (tgt := 125) G dX10_fullest_28 (by decide) (fun c_28 => ?_) (fun c_28 => ?_)
        · have k_28 := z_cle c_28 (a := 100) (b := y5_24.toInt) rfl rfl
          refine zv_aload_n (j := 0) G dX10_fullest_125 rfl rfl ?_
          refine zv_iconst (v := 0) G dX10_fullest_126 (by decide) ?_
          refine zp_X10_15 G dX10_fullest_127 ?_
          refine zv_gen (R9 := wzZ) (wzZ_w hz) (fun σ hz => ?_)
          refine zv_aload_n (j := 0) G dX10_fullest_130 rfl rfl ?_
          refine zv_iload_n (j := 3) G dX10_fullest_131 rfl rfl ?_
          refine zv_i2l G dX10_fullest_132 ?_
          refine zv_callVv (as := [za_L y3_24.toInt64]) G (by decide) rfl rfl (zc_X10_enters l E y3_24.toInt64 σ (by rw [hz 93 (by decide) 1]; decide)) zk_X10_enters zm_1422 rfl ⟨(Nat.le_of_ble_eq_true rfl), (Nat.le_of_ble_eq_true rfl)⟩ ⟨Nat.zero_le _, Nat.zero_le _⟩ (Nat.le_of_ble_eq_true rfl) dX10_fullest_133 (fun σ h_133 => ?_)
          have hz := wzt_1 (hz 93 (by decide) 1) h_133
          refine zv_aload_n (j := 0) G dX10_fullest_136 rfl rfl ?_
          refine zv_iload (j := 4) G dX10_fullest_137 rfl ?_
          refine zv_i2l G dX10_fullest_139 ?_
          refine zv_callVv (as := [za_L y4_24.toInt64]) G (by decide) rfl rfl (zc_X10_enters l E y4_24.toInt64 σ (by rw [hz]; decide)) zk_X10_enters zm_1422 rfl ⟨(Nat.le_of_ble_eq_true rfl), (Nat.le_of_ble_eq_true rfl)⟩ ⟨Nat.zero_le _, Nat.zero_le _⟩ (Nat.le_of_ble_eq_true rfl) dX10_fullest_140 (fun σ h_140 => ?_)
          have hz : True := trivial
          refine zv_iload_n (j := 2) G dX10_fullest_143 rfl rfl ?_
          exact zv_iret G hr dX10_fullest_144 (wzAn_e t_6 b_24)
        · have b_28 : 0 ≤ y5_24.toInt ∧ y5_24.toInt < 100 := ⟨i5_24, z_ltk c_28 rfl⟩
          have k_28 := z_cnle c_28 (a := 100) (b := y5_24.toInt) rfl rfl
          refine zv_iconst (v := 0) G dX10_fullest_31 (by decide) ?_
          refine zv_istore (lv' := [(6, za_I 0), (0, za_O 19 93), (1, za_I t), (2, za_I y2_24), (3, za_I y3_24), (4, za_I y4_24), (5, za_I y5_24)]) G dX10_fullest_32 (by decide) rfl ?_
          refine zv_iconst (v := 0) G dX10_fullest_34 (by decide) ?_
          have J_37 : ∀ (n : Nat) (y6_37 : Int32) (y7_37 : Int32) (σ : za_S) (hz : wzZ σ) (s_37 : y6_37 = 0) (i7_37 : 0 ≤ y7_37.toInt) (u7_37 : y7_37.toInt ≤ 10) (hn_37 : (2147483648 - y7_37.toInt).toNat < n), zV p l e (zRm 4 89) s m args below meth c E (za_A E) 8 0 0 (MQ below (va_Qi (fun r σ' => wzAn ((0 ≤ t.toInt ∧ t.toInt ≤ 1)) 0 (-1) r) (zB E) (za_A E)) args s 0 0 (za_A E)) 37 [(0, za_O 19 93), (1, za_I t), (2, za_I y2_24), (3, za_I y3_24), (4, za_I y4_24), (5, za_I y5_24), (6, za_I y6_37), (7, za_I y7_37)] [] σ := by
            intro n
            induction n with
            | zero => intro y6_37 y7_37 σ hz s_37 i7_37 u7_37 hn; exact absurd hn (Nat.not_lt_zero _)
            | succ n ih_37 =>
              intro y6_37 y7_37 σ hz s_37 i7_37 u7_37 hn_37
              refine zv_iload (j := 7) G dX10_fullest_37 rfl ?_
              refine zv_bipush (v := 10) G dX10_fullest_39 (by decide) ?_
              refine zv_icmp_ge (tgt := 70) G dX10_fullest_41 (by decide) (fun c_41 => ?_) (fun c_41 => ?_)
              · have k_41 := z_cle c_41 (a := 10) (b := y7_37.toInt) rfl rfl
                refine zv_iload (j := 6) G dX10_fullest_70 rfl ?_
                refine zv_iload_n (j := 3) G dX10_fullest_72 rfl rfl ?_
                refine zv_icmp_le (tgt := 80) G dX10_fullest_73 (by decide) (fun c_73 => ?_) (fun c_73 => ?_)
                · have k_73 := z_cle c_73 (a := y6_37.toInt) (b := y3_24.toInt) rfl rfl
                  refine zv_iload (j := 4) G dX10_fullest_80 rfl ?_
                  refine zv_iload (j := 6) G dX10_fullest_82 rfl ?_
                  refine zv_iload_n (j := 3) G dX10_fullest_84 rfl rfl ?_
                  refine zv_icmp_ne (tgt := 92) G dX10_fullest_85 (by decide) (fun c_85 => ?_) (fun c_85 => ?_)
                  · have k_85 := z_cne c_85 (a := y6_37.toInt) (b := y3_24.toInt) rfl rfl
                    refine zv_iconst (v := 0) G dX10_fullest_92 (by decide) ?_
                    refine zv_callSi (as := [za_I 0]) G (zc_X10_flag l E (0 : Int32) σ ) zk_X10_flag zm_1355 rfl ⟨(Nat.le_of_ble_eq_true rfl), (Nat.le_of_ble_eq_true rfl)⟩ ⟨Nat.zero_le _, Nat.zero_le _⟩ (Nat.le_of_ble_eq_true rfl) dX10_fullest_93 (fun r_93 σ h_93 => ?_)
                    obtain ⟨h_93, rfl⟩ := h_93
                    have g_93 := z_flagT h_93.2 (a := 0) rfl
                    refine zv_iadd G dX10_fullest_96 ?_
                    refine zv_top (fun x_97 e_97 => ?_)
                    first | have q_97 := z_addf e_97 (a := y4_24.toInt) (b := r_93.toInt) rfl rfl (by omega) (by omega) | skip
                    refine zv_istore (lv' := [(4, za_I x_97), (0, za_O 19 93), (1, za_I t), (2, za_I y2_24), (3, za_I y3_24), (5, za_I y5_24), (6, za_I y6_37), (7, za_I y7_37)]) G dX10_fullest_97 (by decide) rfl ?_
                    refine zv_iload (j := 6) G dX10_fullest_99 rfl ?_
                    refine zv_iload_n (j := 4) G dX10_fullest_101 rfl rfl ?_
                    refine zv_icmp_le (tgt := 110) G dX10_fullest_102 (by decide) (fun c_102 => ?_) (fun c_102 => ?_)
                    · have k_102 := z_cle c_102 (a := y6_37.toInt) (b := y3_24.toInt) rfl rfl
                      refine zv_iload_n (j := 3) G dX10_fullest_110 rfl rfl ?_
                      refine zv_istore_n (lv' := [(2, za_I y2_24), (4, za_I x_97), (0, za_O 19 93), (1, za_I t), (3, za_I y3_24), (5, za_I y5_24), (6, za_I y6_37), (7, za_I y7_37)]) G dX10_fullest_111 rfl (by decide) rfl ?_
                      refine zv_iload_n (j := 4) G dX10_fullest_112 rfl rfl ?_
                      refine zv_iload (j := 6) G dX10_fullest_113 rfl ?_
                      refine zv_mmax G zm_1359 zm_395 zm_147 zm_396 (Nat.le_of_ble_eq_true rfl) (Nat.le_of_ble_eq_true rfl) (Nat.zero_le _) (Nat.zero_le _) dX10_fullest_115 ?_
                      refine zv_top (fun x_115 e_115 => ?_)
                      refine zv_istore_n (lv' := [(3, za_I x_115), (2, za_I y2_24), (4, za_I x_97), (0, za_O 19 93), (1, za_I t), (5, za_I y5_24), (6, za_I y6_37), (7, za_I y7_37)]) G dX10_fullest_118 rfl (by decide) rfl ?_
                      obtain ⟨x_119, e_119⟩ : ∃ y : Int32, y = y5_24 + 1 := ⟨_, rfl⟩
                      refine zv_iinc (j := 5) (v := x_119) (lv' := [(5, za_I x_119), (3, za_I x_115), (2, za_I y2_24), (4, za_I x_97), (0, za_O 19 93), (1, za_I t), (6, za_I y6_37), (7, za_I y7_37)]) G dX10_fullest_119 rfl (by rw [e_119]; rfl) (by decide) rfl ?_
                      first | have q_119 := z_inc9 (by omega) e_119 | skip
                      refine zv_goto (tgt := 24) G dX10_fullest_122 (by decide) ?_
                      refine zv_sub [4, 5, 2, 1, 3, 0] (lv' := [(0, za_O 19 93), (1, za_I t), (2, za_I y2_24), (3, za_I x_115), (4, za_I x_97), (5, za_I x_119)]) rfl ?_
                      exact ih_24 y2_24 x_115 x_97 x_119 σ hz (Or.inr (wzfm_1 f_24 s_37 e_115)) (by first | exact b_24 | exact wzfm_2 f_24 s_37 c_102) (by have := z_inc c_28 e_119; omega) (by have := z_inc9 (by omega) e_119; omega) (z_meas c_28 e_119 hn_24)
                    · have k_102 := z_cnle c_102 (a := y6_37.toInt) (b := y3_24.toInt) rfl rfl
                      refine zv_iload (j := 5) G dX10_fullest_105 rfl ?_
                      refine zv_goto (tgt := 111) G dX10_fullest_107 (by decide) ?_
                      refine zv_istore_n (lv' := [(2, za_I y5_24), (4, za_I x_97), (0, za_O 19 93), (1, za_I t), (3, za_I y3_24), (5, za_I y5_24), (6, za_I y6_37), (7, za_I y7_37)]) G dX10_fullest_111 rfl (by decide) rfl ?_
                      refine zv_iload_n (j := 4) G dX10_fullest_112 rfl rfl ?_
                      refine zv_iload (j := 6) G dX10_fullest_113 rfl ?_
                      refine zv_mmax G zm_1359 zm_395 zm_147 zm_396 (Nat.le_of_ble_eq_true rfl) (Nat.le_of_ble_eq_true rfl) (Nat.zero_le _) (Nat.zero_le _) dX10_fullest_115 ?_
                      refine zv_top (fun x_115 e_115 => ?_)
                      refine zv_istore_n (lv' := [(3, za_I x_115), (2, za_I y5_24), (4, za_I x_97), (0, za_O 19 93), (1, za_I t), (5, za_I y5_24), (6, za_I y6_37), (7, za_I y7_37)]) G dX10_fullest_118 rfl (by decide) rfl ?_
                      obtain ⟨x_119, e_119⟩ : ∃ y : Int32, y = y5_24 + 1 := ⟨_, rfl⟩
                      refine zv_iinc (j := 5) (v := x_119) (lv' := [(5, za_I x_119), (3, za_I x_115), (2, za_I y5_24), (4, za_I x_97), (0, za_O 19 93), (1, za_I t), (6, za_I y6_37), (7, za_I y7_37)]) G dX10_fullest_119 rfl (by rw [e_119]; rfl) (by decide) rfl ?_
                      first | have q_119 := z_inc9 (by omega) e_119 | skip
                      refine zv_goto (tgt := 24) G dX10_fullest_122 (by decide) ?_
                      refine zv_sub [4, 5, 2, 1, 3, 0] (lv' := [(0, za_O 19 93), (1, za_I t), (2, za_I y5_24), (3, za_I x_115), (4, za_I x_97), (5, za_I x_119)]) rfl ?_
                      exact ih_24 y5_24 x_115 x_97 x_119 σ hz (Or.inr (wzfm_1 f_24 s_37 e_115)) (by first | exact b_24 | exact wzfm_2 f_24 s_37 c_102) (by have := z_inc c_28 e_119; omega) (by have := z_inc9 (by omega) e_119; omega) (z_meas c_28 e_119 hn_24)
                  · have k_85 := z_ceq c_85 (a := y6_37.toInt) (b := y3_24.toInt) rfl rfl
                    refine zv_iconst (v := 1) G dX10_fullest_88 (by decide) ?_
                    refine zv_goto (tgt := 93) G dX10_fullest_89 (by decide) ?_
                    refine zv_callSi (as := [za_I 1]) G (zc_X10_flag l E (1 : Int32) σ ) zk_X10_flag zm_1355 rfl ⟨(Nat.le_of_ble_eq_true rfl), (Nat.le_of_ble_eq_true rfl)⟩ ⟨Nat.zero_le _, Nat.zero_le _⟩ (Nat.le_of_ble_eq_true rfl) dX10_fullest_93 (fun r_93 σ h_93 => ?_)
                    obtain ⟨h_93, rfl⟩ := h_93
                    have g_93 := z_flagT h_93.2 (a := 1) rfl
                    refine zv_iadd G dX10_fullest_96 ?_
                    refine zv_top (fun x_97 e_97 => ?_)
                    first | have q_97 := z_addf e_97 (a := y4_24.toInt) (b := r_93.toInt) rfl rfl (by omega) (by omega) | skip
                    refine zv_istore (lv' := [(4, za_I x_97), (0, za_O 19 93), (1, za_I t), (2, za_I y2_24), (3, za_I y3_24), (5, za_I y5_24), (6, za_I y6_37), (7, za_I y7_37)]) G dX10_fullest_97 (by decide) rfl ?_
                    refine zv_iload (j := 6) G dX10_fullest_99 rfl ?_
                    refine zv_iload_n (j := 4) G dX10_fullest_101 rfl rfl ?_
                    refine zv_icmp_le (tgt := 110) G dX10_fullest_102 (by decide) (fun c_102 => ?_) (fun c_102 => ?_)
                    · have k_102 := z_cle c_102 (a := y6_37.toInt) (b := y3_24.toInt) rfl rfl
                      refine zv_iload_n (j := 3) G dX10_fullest_110 rfl rfl ?_
                      refine zv_istore_n (lv' := [(2, za_I y2_24), (4, za_I x_97), (0, za_O 19 93), (1, za_I t), (3, za_I y3_24), (5, za_I y5_24), (6, za_I y6_37), (7, za_I y7_37)]) G dX10_fullest_111 rfl (by decide) rfl ?_
                      refine zv_iload_n (j := 4) G dX10_fullest_112 rfl rfl ?_
                      refine zv_iload (j := 6) G dX10_fullest_113 rfl ?_
                      refine zv_mmax G zm_1359 zm_395 zm_147 zm_396 (Nat.le_of_ble_eq_true rfl) (Nat.le_of_ble_eq_true rfl) (Nat.zero_le _) (Nat.zero_le _) dX10_fullest_115 ?_
                      refine zv_top (fun x_115 e_115 => ?_)
                      refine zv_istore_n (lv' := [(3, za_I x_115), (2, za_I y2_24), (4, za_I x_97), (0, za_O 19 93), (1, za_I t), (5, za_I y5_24), (6, za_I y6_37), (7, za_I y7_37)]) G dX10_fullest_118 rfl (by decide) rfl ?_
                      obtain ⟨x_119, e_119⟩ : ∃ y : Int32, y = y5_24 + 1 := ⟨_, rfl⟩
                      refine zv_iinc (j := 5) (v := x_119) (lv' := [(5, za_I x_119), (3, za_I x_115), (2, za_I y2_24), (4, za_I x_97), (0, za_O 19 93), (1, za_I t), (6, za_I y6_37), (7, za_I y7_37)]) G dX10_fullest_119 rfl (by rw [e_119]; rfl) (by decide) rfl ?_
                      first | have q_119 := z_inc9 (by omega) e_119 | skip
                      refine zv_goto (tgt := 24) G dX10_fullest_122 (by decide) ?_
                      refine zv_sub [4, 5, 2, 1, 3, 0] (lv' := [(0, za_O 19 93), (1, za_I t), (2, za_I y2_24), (3, za_I x_115), (4, za_I x_97), (5, za_I x_119)]) rfl ?_
                      exact ih_24 y2_24 x_115 x_97 x_119 σ hz (Or.inr (wzfm_1 f_24 s_37 e_115)) (by first | exact b_24 | exact wzfm_2 f_24 s_37 c_102) (by have := z_inc c_28 e_119; omega) (by have := z_inc9 (by omega) e_119; omega) (z_meas c_28 e_119 hn_24)
                    · have k_102 := z_cnle c_102 (a := y6_37.toInt) (b := y3_24.toInt) rfl rfl
                      refine zv_iload (j := 5) G dX10_fullest_105 rfl ?_
                      refine zv_goto (tgt := 111) G dX10_fullest_107 (by decide) ?_
                      refine zv_istore_n (lv' := [(2, za_I y5_24), (4, za_I x_97), (0, za_O 19 93), (1, za_I t), (3, za_I y3_24), (5, za_I y5_24), (6, za_I y6_37), (7, za_I y7_37)]) G dX10_fullest_111 rfl (by decide) rfl ?_
                      refine zv_iload_n (j := 4) G dX10_fullest_112 rfl rfl ?_
                      refine zv_iload (j := 6) G dX10_fullest_113 rfl ?_
                      refine zv_mmax G zm_1359 zm_395 zm_147 zm_396 (Nat.le_of_ble_eq_true rfl) (Nat.le_of_ble_eq_true rfl) (Nat.zero_le _) (Nat.zero_le _) dX10_fullest_115 ?_
                      refine zv_top (fun x_115 e_115 => ?_)
                      refine zv_istore_n (lv' := [(3, za_I x_115), (2, za_I y5_24), (4, za_I x_97), (0, za_O 19 93), (1, za_I t), (5, za_I y5_24), (6, za_I y6_37), (7, za_I y7_37)]) G dX10_fullest_118 rfl (by decide) rfl ?_
                      obtain ⟨x_119, e_119⟩ : ∃ y : Int32, y = y5_24 + 1 := ⟨_, rfl⟩
                      refine zv_iinc (j := 5) (v := x_119) (lv' := [(5, za_I x_119), (3, za_I x_115), (2, za_I y5_24), (4, za_I x_97), (0, za_O 19 93), (1, za_I t), (6, za_I y6_37), (7, za_I y7_37)]) G dX10_fullest_119 rfl (by rw [e_119]; rfl) (by decide) rfl ?_
                      first | have q_119 := z_inc9 (by omega) e_119 | skip
                      refine zv_goto (tgt := 24) G dX10_fullest_122 (by decide) ?_
                      refine zv_sub [4, 5, 2, 1, 3, 0] (lv' := [(0, za_O 19 93), (1, za_I t), (2, za_I y5_24), (3, za_I x_115), (4, za_I x_97), (5, za_I x_119)]) rfl ?_
                      exact ih_24 y5_24 x_115 x_97 x_119 σ hz (Or.inr (wzfm_1 f_24 s_37 e_115)) (by first | exact b_24 | exact wzfm_2 f_24 s_37 c_102) (by have := z_inc c_28 e_119; omega) (by have := z_inc9 (by omega) e_119; omega) (z_meas c_28 e_119 hn_24)
                · have k_73 := z_cnle c_73 (a := y6_37.toInt) (b := y3_24.toInt) rfl rfl
                  refine zv_iconst (v := 1) G dX10_fullest_76 (by decide) ?_
                  refine zv_goto (tgt := 97) G dX10_fullest_77 (by decide) ?_
                  refine zv_istore (lv' := [(4, za_I 1), (0, za_O 19 93), (1, za_I t), (2, za_I y2_24), (3, za_I y3_24), (5, za_I y5_24), (6, za_I y6_37), (7, za_I y7_37)]) G dX10_fullest_97 (by decide) rfl ?_
                  refine zv_iload (j := 6) G dX10_fullest_99 rfl ?_
                  refine zv_iload_n (j := 4) G dX10_fullest_101 rfl rfl ?_
                  refine zv_icmp_le (tgt := 110) G dX10_fullest_102 (by decide) (fun c_102 => ?_) (fun c_102 => ?_)
                  · have k_102 := z_cle c_102 (a := y6_37.toInt) (b := y3_24.toInt) rfl rfl
                    refine zv_iload_n (j := 3) G dX10_fullest_110 rfl rfl ?_
                    refine zv_istore_n (lv' := [(2, za_I y2_24), (4, za_I 1), (0, za_O 19 93), (1, za_I t), (3, za_I y3_24), (5, za_I y5_24), (6, za_I y6_37), (7, za_I y7_37)]) G dX10_fullest_111 rfl (by decide) rfl ?_
                    refine zv_iload_n (j := 4) G dX10_fullest_112 rfl rfl ?_
                    refine zv_iload (j := 6) G dX10_fullest_113 rfl ?_
                    refine zv_mmax G zm_1359 zm_395 zm_147 zm_396 (Nat.le_of_ble_eq_true rfl) (Nat.le_of_ble_eq_true rfl) (Nat.zero_le _) (Nat.zero_le _) dX10_fullest_115 ?_
                    refine zv_top (fun x_115 e_115 => ?_)
                    refine zv_istore_n (lv' := [(3, za_I x_115), (2, za_I y2_24), (4, za_I 1), (0, za_O 19 93), (1, za_I t), (5, za_I y5_24), (6, za_I y6_37), (7, za_I y7_37)]) G dX10_fullest_118 rfl (by decide) rfl ?_
                    obtain ⟨x_119, e_119⟩ : ∃ y : Int32, y = y5_24 + 1 := ⟨_, rfl⟩
                    refine zv_iinc (j := 5) (v := x_119) (lv' := [(5, za_I x_119), (3, za_I x_115), (2, za_I y2_24), (4, za_I 1), (0, za_O 19 93), (1, za_I t), (6, za_I y6_37), (7, za_I y7_37)]) G dX10_fullest_119 rfl (by rw [e_119]; rfl) (by decide) rfl ?_
                    first | have q_119 := z_inc9 (by omega) e_119 | skip
                    refine zv_goto (tgt := 24) G dX10_fullest_122 (by decide) ?_
                    refine zv_sub [4, 5, 2, 1, 3, 0] (lv' := [(0, za_O 19 93), (1, za_I t), (2, za_I y2_24), (3, za_I x_115), (4, za_I 1), (5, za_I x_119)]) rfl ?_
                    exact ih_24 y2_24 x_115 (1 : Int32) x_119 σ hz (Or.inr (wzfm_1 f_24 s_37 e_115)) (by first | exact b_24 | exact wzfm_2 f_24 s_37 c_102) (by have := z_inc c_28 e_119; omega) (by have := z_inc9 (by omega) e_119; omega) (z_meas c_28 e_119 hn_24)
                  · have k_102 := z_cnle c_102 (a := y6_37.toInt) (b := y3_24.toInt) rfl rfl
                    refine zv_iload (j := 5) G dX10_fullest_105 rfl ?_
                    refine zv_goto (tgt := 111) G dX10_fullest_107 (by decide) ?_
                    refine zv_istore_n (lv' := [(2, za_I y5_24), (4, za_I 1), (0, za_O 19 93), (1, za_I t), (3, za_I y3_24), (5, za_I y5_24), (6, za_I y6_37), (7, za_I y7_37)]) G dX10_fullest_111 rfl (by decide) rfl ?_
                    refine zv_iload_n (j := 4) G dX10_fullest_112 rfl rfl ?_
                    refine zv_iload (j := 6) G dX10_fullest_113 rfl ?_
                    refine zv_mmax G zm_1359 zm_395 zm_147 zm_396 (Nat.le_of_ble_eq_true rfl) (Nat.le_of_ble_eq_true rfl) (Nat.zero_le _) (Nat.zero_le _) dX10_fullest_115 ?_
                    refine zv_top (fun x_115 e_115 => ?_)
                    refine zv_istore_n (lv' := [(3, za_I x_115), (2, za_I y5_24), (4, za_I 1), (0, za_O 19 93), (1, za_I t), (5, za_I y5_24), (6, za_I y6_37), (7, za_I y7_37)]) G dX10_fullest_118 rfl (by decide) rfl ?_
                    obtain ⟨x_119, e_119⟩ : ∃ y : Int32, y = y5_24 + 1 := ⟨_, rfl⟩
                    refine zv_iinc (j := 5) (v := x_119) (lv' := [(5, za_I x_119), (3, za_I x_115), (2, za_I y5_24), (4, za_I 1), (0, za_O 19 93), (1, za_I t), (6, za_I y6_37), (7, za_I y7_37)]) G dX10_fullest_119 rfl (by rw [e_119]; rfl) (by decide) rfl ?_
                    first | have q_119 := z_inc9 (by omega) e_119 | skip
                    refine zv_goto (tgt := 24) G dX10_fullest_122 (by decide) ?_
                    refine zv_sub [4, 5, 2, 1, 3, 0] (lv' := [(0, za_O 19 93), (1, za_I t), (2, za_I y5_24), (3, za_I x_115), (4, za_I 1), (5, za_I x_119)]) rfl ?_
                    exact ih_24 y5_24 x_115 (1 : Int32) x_119 σ hz (Or.inr (wzfm_1 f_24 s_37 e_115)) (by first | exact b_24 | exact wzfm_2 f_24 s_37 c_102) (by have := z_inc c_28 e_119; omega) (by have := z_inc9 (by omega) e_119; omega) (z_meas c_28 e_119 hn_24)
              · have b_41 : 0 ≤ y7_37.toInt ∧ y7_37.toInt < 10 := ⟨i7_37, z_ltk c_41 rfl⟩
                have k_41 := z_cnle c_41 (a := 10) (b := y7_37.toInt) rfl rfl
                refine zv_iload (j := 6) G dX10_fullest_44 rfl ?_
                refine zv_aload_n (j := 0) G dX10_fullest_46 rfl rfl ?_
                refine zg_X10_118 G dX10_fullest_47 ?_
                refine zv_iload_n (j := 1) G dX10_fullest_50 rfl rfl ?_
                refine zv_iload (j := 7) G dX10_fullest_51 rfl ?_
                refine zv_iload (j := 5) G dX10_fullest_53 rfl ?_
                refine zv_callSi (as := [za_O 22 99, za_I t, za_I y7_37, za_I y5_24]) G (zc_X10_isThere_at0 l E 99 t y7_37 y5_24 σ t_6 (by omega) (wzN9 hz)) zk_X10_isThere zm_1324 rfl ⟨(Nat.le_of_ble_eq_true rfl), (Nat.le_of_ble_eq_true rfl)⟩ ⟨Nat.zero_le _, Nat.zero_le _⟩ (Nat.le_of_ble_eq_true rfl) dX10_fullest_55 (fun r_55 σ h_55 => ?_)
                obtain ⟨h_55, rfl⟩ := h_55
                subst h_55
                refine zv_callSi (as := [za_I 0]) G (zc_X10_flag_at0 l E  σ ) zk_X10_flag zm_1355 rfl ⟨(Nat.le_of_ble_eq_true rfl), (Nat.le_of_ble_eq_true rfl)⟩ ⟨Nat.zero_le _, Nat.zero_le _⟩ (Nat.le_of_ble_eq_true rfl) dX10_fullest_58 (fun r_58 σ h_58 => ?_)
                obtain ⟨h_58, rfl⟩ := h_58
                subst h_58
                refine zv_iadd G dX10_fullest_61 ?_
                refine zv_top (fun x_62 e_62 => ?_)
                first | have q_62 := z_addf e_62 (a := y6_37.toInt) (b := 0) rfl rfl (by omega) (by omega) | skip
                refine zv_istore (lv' := [(6, za_I x_62), (0, za_O 19 93), (1, za_I t), (2, za_I y2_24), (3, za_I y3_24), (4, za_I y4_24), (5, za_I y5_24), (7, za_I y7_37)]) G dX10_fullest_62 (by decide) rfl ?_
                obtain ⟨x_64, e_64⟩ : ∃ y : Int32, y = y7_37 + 1 := ⟨_, rfl⟩
                refine zv_iinc (j := 7) (v := x_64) (lv' := [(7, za_I x_64), (6, za_I x_62), (0, za_O 19 93), (1, za_I t), (2, za_I y2_24), (3, za_I y3_24), (4, za_I y4_24), (5, za_I y5_24)]) G dX10_fullest_64 rfl (by rw [e_64]; rfl) (by decide) rfl ?_
                first | have q_64 := z_inc9 (by omega) e_64 | skip
                refine zv_goto (tgt := 37) G dX10_fullest_67 (by decide) ?_
                refine zv_sub [2, 3, 4, 5, 6, 7, 1, 0] (lv' := [(0, za_O 19 93), (1, za_I t), (2, za_I y2_24), (3, za_I y3_24), (4, za_I y4_24), (5, za_I y5_24), (6, za_I x_62), (7, za_I x_64)]) rfl ?_
                exact ih_37 x_62 x_64 σ hz (by rw [e_62, s_37]; decide) (by have := z_inc c_41 e_64; omega) (by have := z_inc9 (by omega) e_64; omega) (z_meas c_41 e_64 hn_37)
          refine zv_istore (lv' := [(7, za_I 0), (6, za_I 0), (0, za_O 19 93), (1, za_I t), (2, za_I y2_24), (3, za_I y3_24), (4, za_I y4_24), (5, za_I y5_24)]) G dX10_fullest_35 (by decide) rfl ?_
          refine zv_sub [2, 3, 4, 5, 6, 7, 1, 0] (lv' := [(0, za_O 19 93), (1, za_I t), (2, za_I y2_24), (3, za_I y3_24), (4, za_I y4_24), (5, za_I y5_24), (6, za_I 0), (7, za_I 0)]) rfl ?_
          exact J_37 _ (0 : Int32) (0 : Int32) σ hz rfl (by decide) (by decide) (Nat.lt_succ_self _)
    refine zv_istore (lv' := [(5, za_I 0), (4, za_I 0), (3, za_I (-1)), (2, za_I 0), (0, za_O 19 93), (1, za_I t)]) G dX10_fullest_22 (by decide) rfl ?_
    refine zv_sub [4, 5, 3, 2, 1, 0] (lv' := [(0, za_O 19 93), (1, za_I t), (2, za_I 0), (3, za_I (-1)), (4, za_I 0), (5, za_I 0)]) rfl ?_
    exact J_24 _ (0 : Int32) (-1) (0 : Int32) (0 : Int32) σ hz (Or.inl ⟨rfl, rfl⟩) rfl (by decide) (by decide) (Nat.lt_succ_self _)
  · have f_6 := fun q9 => (h_6.2.mpr q9) c_9
    refine zv_iconst (v := (-1)) G dX10_fullest_12 (by decide) ?_
    exact zv_iret G hr dX10_fullest_13 (wzAn_n (fun q => by first | exact f_6 (by omega)))
set_option maxHeartbeats 4000000 in
set_option maxRecDepth 100000 in
theorem zc_X10_fewest_at0 (l : Launch) (E : za_E) (fd : Int32) (td : Int32) (σ : za_S) (hp : fd.toInt < td.toInt) : zMi l E yX10_fewest cX10_fewest 8 (Option.some Jvm.ClassFile.FieldType.int) 1 21 [za_O 19 93, za_I 0, za_I fd, za_I td] σ (fun r σ' => (r = (-1)) ∧ σ' = σ) := by
  refine zMi_of [(0, za_O 19 93), (1, za_I 0), (2, za_I fd), (3, za_I td)] (by decide) rfl rfl (Nat.le_of_ble_eq_true rfl) ?_
  intro ho p e s m args below meth c G hr
  refine zv_iconst (v := 0) G dX10_fewest_0 (by decide) ?_
  refine zv_istore (lv' := [(4, za_I 0), (0, za_O 19 93), (1, za_I 0), (2, za_I fd), (3, za_I td)]) G dX10_fewest_1 (by decide) rfl ?_
  refine zv_iload_n (j := 3) G dX10_fewest_3 rfl rfl ?_
  refine zv_istore (lv' := [(5, za_I fd), (4, za_I 0), (0, za_O 19 93), (1, za_I 0), (2, za_I fd), (3, za_I td)]) G dX10_fewest_4 (by decide) rfl ?_
  refine zv_iload (j := 0) G dX10_fewest_6 rfl ?_
  refine zv_iload_n (j := 5) G dX10_fewest_8 rfl rfl ?_
  refine zv_icmp_ge (tgt := 81) G dX10_fewest_9 (by decide) (fun c_9 => ?_) (fun c_9 => ?_)
  · exact absurd (z_cle c_9 (a := td.toInt) (b := fd.toInt) rfl rfl) (by omega)
  · have k_9 := z_cnle c_9 (a := td.toInt) (b := fd.toInt) rfl rfl
    refine zv_iload (j := 0) G dX10_fewest_12 rfl ?_
    refine zv_istore (lv' := [(6, za_I fd), (5, za_I fd), (4, za_I 0), (0, za_O 19 93), (1, za_I 0), (2, za_I fd), (3, za_I td)]) G dX10_fewest_14 (by decide) rfl ?_
    refine zv_iconst (v := 0) G dX10_fewest_16 (by decide) ?_
    refine zv_istore (lv' := [(7, za_I 0), (6, za_I fd), (5, za_I fd), (4, za_I 0), (0, za_O 19 93), (1, za_I 0), (2, za_I fd), (3, za_I td)]) G dX10_fewest_17 (by decide) rfl ?_
    refine zv_iload (j := 0) G dX10_fewest_19 rfl ?_
    refine zv_iload_n (j := 5) G dX10_fewest_21 rfl rfl ?_
    refine zv_icmp_ge (tgt := 62) G dX10_fewest_22 (by decide) (fun c_22 => ?_) (fun c_22 => ?_)
    · have k_22 := z_cle c_22 (a := 0) (b := 0) rfl rfl
      refine zv_iload (j := 1) G dX10_fewest_62 rfl ?_
      refine zv_iload (j := 2) G dX10_fewest_64 rfl ?_
      refine zv_icmp_ne (tgt := 71) G dX10_fewest_66 (by decide) (fun c_66 => ?_) (fun c_66 => ?_)
      · exact absurd rfl c_66
      · have k_66 := z_ceq c_66 (a := fd.toInt) (b := fd.toInt) rfl rfl
        refine zv_iconst (v := (-1)) G dX10_fewest_69 (by decide) ?_
        exact zv_iret G hr dX10_fewest_70 ⟨rfl, rfl⟩
    · exact absurd c_22 (by decide)
set_option maxHeartbeats 4000000 in
set_option maxRecDepth 100000 in
theorem zc_X10_spans_at0 (l : Launch) (E : za_E) (t : Int32) (fd : Int32) (td : Int32) (σ0 : za_S) (h0 : wzZ σ0) : zMi l E yX10_spans cX10_spans 7 (Option.some Jvm.ClassFile.FieldType.int) 6 138 [za_O 19 93, za_I t, za_I fd, za_I td] σ0 (fun r σ' => wzAn ((0 ≤ t.toInt ∧ t.toInt ≤ 1) ∧ (0 ≤ fd.toInt ∧ fd.toInt ≤ 99) ∧ fd.toInt < td.toInt ∧ td.toInt ≤ 100) (-2) (-1) r) := by
  refine zMi_of [(0, za_O 19 93), (1, za_I t), (2, za_I fd), (3, za_I td)] (by decide) rfl rfl (Nat.le_of_ble_eq_true rfl) ?_
  intro ho p e s m args below meth c G hr
  refine zv_gen (R9 := wzZ) h0 (fun σ hz => ?_)
  refine zv_aload_n (j := 0) G dX10_spans_0 rfl rfl ?_
  refine zv_iconst (v := 0) G dX10_spans_1 (by decide) ?_
  refine zp_X10_3 G dX10_spans_2 ?_
  refine zv_gen (R9 := wzZ) (wzZ_w hz) (fun σ hz => ?_)
  refine zv_iload_n (j := 1) G dX10_spans_5 rfl rfl ?_
  refine zv_callSi (as := [za_I t]) G (zc_X10_isTable l E t σ ) zk_X10_isTable zm_1313 rfl ⟨(Nat.le_of_ble_eq_true rfl), (Nat.le_of_ble_eq_true rfl)⟩ ⟨Nat.zero_le _, Nat.zero_le _⟩ (Nat.le_of_ble_eq_true rfl) dX10_spans_6 (fun r_6 σ h_6 => ?_)
  obtain ⟨h_6, rfl⟩ := h_6
  refine zv_if_eq (tgt := 20) G dX10_spans_9 (by decide) (fun c_9 => ?_) (fun c_9 => ?_)
  · have f_6 := fun q9 => (h_6.2.mpr q9) c_9
    refine zv_iconst (v := (-1)) G dX10_spans_20 (by decide) ?_
    exact zv_iret G hr dX10_spans_21 (wzAn_n (fun q => by first | exact f_6 (by omega) | exact f_14 (by omega)))
  · have t_6 := h_6.2.mp c_9
    refine zv_iload_n (j := 2) G dX10_spans_12 rfl rfl ?_
    refine zv_iload_n (j := 3) G dX10_spans_13 rfl rfl ?_
    refine zv_callSi (as := [za_I fd, za_I td]) G (zc_X10_isPeriod l E fd td σ ) zk_X10_isPeriod zm_1379 rfl ⟨(Nat.le_of_ble_eq_true rfl), (Nat.le_of_ble_eq_true rfl)⟩ ⟨Nat.zero_le _, Nat.zero_le _⟩ (Nat.le_of_ble_eq_true rfl) dX10_spans_14 (fun r_14 σ h_14 => ?_)
    obtain ⟨h_14, rfl⟩ := h_14
    refine zv_if_ne (tgt := 22) G dX10_spans_17 (by decide) (fun c_17 => ?_) (fun c_17 => ?_)
    · have t_14 := h_14.2.mp c_17
      refine zv_iconst (v := 0) G dX10_spans_22 (by decide) ?_
      refine zv_istore (lv' := [(4, za_I 0), (0, za_O 19 93), (1, za_I t), (2, za_I fd), (3, za_I td)]) G dX10_spans_23 (by decide) rfl ?_
      refine zv_aload_n (j := 1) G dX10_spans_25 rfl rfl ?_
      refine zv_aload_n (j := 1) G dX10_spans_26 rfl rfl ?_
      refine zg_X10_118 G dX10_spans_27 ?_
      refine zv_iload_n (j := 2) G dX10_spans_30 rfl rfl ?_
      refine zv_iload (j := 0) G dX10_spans_31 rfl ?_
      refine zv_callVi (as := [za_O 22 99, za_I t, za_I 0]) G (by decide) rfl rfl (zc_X10_seeks l E 99 t (0 : Int32) σ t_6 (by decide)) zk_X10_seeks zm_1317 rfl ⟨(Nat.le_of_ble_eq_true rfl), (Nat.le_of_ble_eq_true rfl)⟩ ⟨Nat.zero_le _, Nat.zero_le _⟩ (Nat.le_of_ble_eq_true rfl) dX10_spans_33 (fun r_33 σ h_33 => ?_)
      obtain ⟨a_33, s_33⟩ := wzsk0 (wzN9 hz) (by decide) h_33
      subst s_33
      refine zv_if_eq (tgt := 79) G dX10_spans_36 (by decide) (fun c_36 => ?_) (fun c_36 => ?_)
      · refine zv_aload_n (j := 1) G dX10_spans_79 rfl rfl ?_
        refine zv_iload (j := 0) G dX10_spans_80 rfl ?_
        refine zv_iload_n (j := 3) G dX10_spans_82 rfl rfl ?_
        refine zv_iload_n (j := 4) G dX10_spans_83 rfl rfl ?_
        refine zv_callVi (as := [za_I 0, za_I fd, za_I td]) G (by decide) rfl rfl (zc_X10_fewest_at0 l E fd td σ t_14.2.1) zk_X10_fewest zm_1615 rfl ⟨(Nat.le_of_ble_eq_true rfl), (Nat.le_of_ble_eq_true rfl)⟩ ⟨Nat.zero_le _, Nat.zero_le _⟩ (Nat.le_of_ble_eq_true rfl) dX10_spans_84 (fun r_84 σ h_84 => ?_)
        obtain ⟨h_84, rfl⟩ := h_84
        refine zv_istore (lv' := [(5, za_I r_84), (4, za_I 0), (0, za_O 19 93), (1, za_I t), (2, za_I fd), (3, za_I td)]) G dX10_spans_87 (by decide) rfl ?_
        refine zv_iload (j := 0) G dX10_spans_89 rfl ?_
        refine zv_if_ge (tgt := 97) G dX10_spans_91 (by decide) (fun c_91 => ?_) (fun c_91 => ?_)
        · exact absurd c_91 (by rw [h_84]; decide)
        · have k_91 := z_cnle c_91 (a := 0) (b := r_84.toInt) rfl rfl
          refine zv_bipush (v := (-2)) G dX10_spans_94 (by decide) ?_
          exact zv_iret G hr dX10_spans_96 (wzAn_y ⟨t_6, t_14⟩)
      · exact absurd a_33 c_36
    · have f_14 := fun q9 => (h_14.2.mpr q9) c_17
      refine zv_iconst (v := (-1)) G dX10_spans_20 (by decide) ?_
      exact zv_iret G hr dX10_spans_21 (wzAn_n (fun q => by first | exact f_6 (by omega) | exact f_14 (by omega)))
set_option maxHeartbeats 4000000 in
set_option maxRecDepth 100000 in
theorem zc_X10_users_at0 (l : Launch) (E : za_E) (k : Int32) (σ0 : za_S) (h0 : wzZ σ0) : zMi l E yX10_users cX10_users 8 (Option.some Jvm.ClassFile.FieldType.int) 5 113 [za_O 19 93, za_I k] σ0 (fun r σ' => wzAn ((0 ≤ k.toInt ∧ k.toInt ≤ 9)) 0 (-1) r) := by
  refine zMi_of [(0, za_O 19 93), (1, za_I k)] (by decide) rfl rfl (Nat.le_of_ble_eq_true rfl) ?_
  intro ho p e s m args below meth c G hr
  refine zv_gen (R9 := wzZ) h0 (fun σ hz => ?_)
  refine zv_aload_n (j := 0) G dX10_users_0 rfl rfl ?_
  refine zv_iconst (v := 0) G dX10_users_1 (by decide) ?_
  refine zp_X10_3 G dX10_users_2 ?_
  refine zv_gen (R9 := wzZ) (wzZ_w hz) (fun σ hz => ?_)
  refine zv_iload_n (j := 1) G dX10_users_5 rfl rfl ?_
  refine zv_callSi (as := [za_I k]) G (zc_X10_isKey l E k σ ) zk_X10_isKey zm_1375 rfl ⟨(Nat.le_of_ble_eq_true rfl), (Nat.le_of_ble_eq_true rfl)⟩ ⟨Nat.zero_le _, Nat.zero_le _⟩ (Nat.le_of_ble_eq_true rfl) dX10_users_6 (fun r_6 σ h_6 => ?_)
  obtain ⟨h_6, rfl⟩ := h_6
  refine zv_if_ne (tgt := 14) G dX10_users_9 (by decide) (fun c_9 => ?_) (fun c_9 => ?_)
  · have t_6 := h_6.2.mp c_9
    refine zv_iconst (v := 0) G dX10_users_14 (by decide) ?_
    refine zv_istore_n (lv' := [(2, za_I 0), (0, za_O 19 93), (1, za_I k)]) G dX10_users_15 rfl (by decide) rfl ?_
    refine zv_iconst (v := 0) G dX10_users_16 (by decide) ?_
    have J_18 : ∀ (n : Nat) (y2_18 : Int32) (y3_18 : Int32) (σ : za_S) (hz : wzZ σ) (s_18 : y2_18 = 0) (i3_18 : 0 ≤ y3_18.toInt) (u3_18 : y3_18.toInt ≤ 10) (hn_18 : (2147483648 - y3_18.toInt).toNat < n), zV p l e (zRm 5 113) s m args below meth c E (za_A E) 8 0 0 (MQ below (va_Qi (fun r σ' => wzAn ((0 ≤ k.toInt ∧ k.toInt ≤ 9)) 0 (-1) r) (zB E) (za_A E)) args s 0 0 (za_A E)) 18 [(0, za_O 19 93), (1, za_I k), (2, za_I y2_18), (3, za_I y3_18)] [] σ := by
      intro n
      induction n with
      | zero => intro y2_18 y3_18 σ hz s_18 i3_18 u3_18 hn; exact absurd hn (Nat.not_lt_zero _)
      | succ n ih_18 =>
        intro y2_18 y3_18 σ hz s_18 i3_18 u3_18 hn_18
        refine zv_iload_n (j := 3) G dX10_users_18 rfl rfl ?_
        refine zv_bipush (v := 10) G dX10_users_19 (by decide) ?_
        refine zv_icmp_ge (tgt := 86) G dX10_users_21 (by decide) (fun c_21 => ?_) (fun c_21 => ?_)
        · have k_21 := z_cle c_21 (a := 10) (b := y3_18.toInt) rfl rfl
          refine zv_iconst (v := 0) G dX10_users_86 (by decide) ?_
          refine zv_istore_n (lv' := [(3, za_I 0), (0, za_O 19 93), (1, za_I k), (2, za_I y2_18)]) G dX10_users_87 rfl (by decide) rfl ?_
          refine zv_iconst (v := 0) G dX10_users_88 (by decide) ?_
          refine zv_istore (lv' := [(4, za_I 0), (3, za_I 0), (0, za_O 19 93), (1, za_I k), (2, za_I y2_18)]) G dX10_users_89 (by decide) rfl ?_
          refine zv_iconst (v := 0) G dX10_users_91 (by decide) ?_
          have J_94 : ∀ (n : Nat) (y3_94 : Int32) (y5_94 : Int32) (σ : za_S) (hz : wzZ σ) (i5_94 : 0 ≤ y5_94.toInt) (u5_94 : y5_94.toInt ≤ 100) (hn_94 : (2147483648 - y5_94.toInt).toNat < n), zV p l e (zRm 5 113) s m args below meth c E (za_A E) 8 0 0 (MQ below (va_Qi (fun r σ' => wzAn ((0 ≤ k.toInt ∧ k.toInt ≤ 9)) 0 (-1) r) (zB E) (za_A E)) args s 0 0 (za_A E)) 94 [(0, za_O 19 93), (1, za_I k), (2, za_I y2_18), (3, za_I y3_94), (4, za_I 0), (5, za_I y5_94)] [] σ := by
            intro n
            induction n with
            | zero => intro y3_94 y5_94 σ hz i5_94 u5_94 hn; exact absurd hn (Nat.not_lt_zero _)
            | succ n ih_94 =>
              intro y3_94 y5_94 σ hz i5_94 u5_94 hn_94
              refine zv_iload (j := 5) G dX10_users_94 rfl ?_
              refine zv_bipush (v := 100) G dX10_users_96 (by decide) ?_
              refine zv_icmp_ge (tgt := 209) G dX10_users_98 (by decide) (fun c_98 => ?_) (fun c_98 => ?_)
              · have k_98 := z_cle c_98 (a := 100) (b := y5_94.toInt) rfl rfl
                refine zv_aload_n (j := 0) G dX10_users_209 rfl rfl ?_
                refine zv_iconst (v := 0) G dX10_users_210 (by decide) ?_
                refine zp_X10_15 G dX10_users_211 ?_
                refine zv_gen (R9 := wzZ) (wzZ_w hz) (fun σ hz => ?_)
                refine zv_aload_n (j := 0) G dX10_users_214 rfl rfl ?_
                refine zv_iload_n (j := 3) G dX10_users_215 rfl rfl ?_
                refine zv_i2l G dX10_users_216 ?_
                refine zv_callVv (as := [za_L y3_94.toInt64]) G (by decide) rfl rfl (zc_X10_enters l E y3_94.toInt64 σ (by rw [hz 93 (by decide) 1]; decide)) zk_X10_enters zm_1422 rfl ⟨(Nat.le_of_ble_eq_true rfl), (Nat.le_of_ble_eq_true rfl)⟩ ⟨Nat.zero_le _, Nat.zero_le _⟩ (Nat.le_of_ble_eq_true rfl) dX10_users_217 (fun σ h_217 => ?_)
                have hz := wzt_1 (hz 93 (by decide) 1) h_217
                refine zv_aload_n (j := 0) G dX10_users_220 rfl rfl ?_
                refine zv_iload (j := 4) G dX10_users_221 rfl ?_
                refine zv_i2l G dX10_users_223 ?_
                refine zv_callVv (as := [za_L ((0 : Int32).toInt64)]) G (by decide) rfl rfl (zc_X10_enters l E ((0 : Int32).toInt64) σ (by rw [hz]; decide)) zk_X10_enters zm_1422 rfl ⟨(Nat.le_of_ble_eq_true rfl), (Nat.le_of_ble_eq_true rfl)⟩ ⟨Nat.zero_le _, Nat.zero_le _⟩ (Nat.le_of_ble_eq_true rfl) dX10_users_224 (fun σ h_224 => ?_)
                have hz : True := trivial
                refine zv_iload_n (j := 2) G dX10_users_227 rfl rfl ?_
                exact zv_iret G hr dX10_users_228 (wzAn_e t_6 s_18)
              · have b_98 : 0 ≤ y5_94.toInt ∧ y5_94.toInt < 100 := ⟨i5_94, z_ltk c_98 rfl⟩
                have k_98 := z_cnle c_98 (a := 100) (b := y5_94.toInt) rfl rfl
                refine zv_iload_n (j := 3) G dX10_users_101 rfl rfl ?_
                refine zv_aload_n (j := 0) G dX10_users_102 rfl rfl ?_
                refine zg_X10_118 G dX10_users_103 ?_
                refine zv_iload_n (j := 1) G dX10_users_106 rfl rfl ?_
                refine zv_iload (j := 5) G dX10_users_107 rfl ?_
                refine zv_callSi (as := [za_O 22 99, za_I k, za_I y5_94]) G (zc_X10_isUsed l E 99 k y5_94 σ (by omega)) zk_X10_isUsed zm_1631 rfl ⟨(Nat.le_of_ble_eq_true rfl), (Nat.le_of_ble_eq_true rfl)⟩ ⟨Nat.zero_le _, Nat.zero_le _⟩ (Nat.le_of_ble_eq_true rfl) dX10_users_109 (fun r_109 σ h_109 => ?_)
                obtain ⟨h_109, rfl⟩ := h_109
                refine zv_callSi (as := [za_I r_109]) G (zc_X10_flag l E r_109 σ ) zk_X10_flag zm_1355 rfl ⟨(Nat.le_of_ble_eq_true rfl), (Nat.le_of_ble_eq_true rfl)⟩ ⟨Nat.zero_le _, Nat.zero_le _⟩ (Nat.le_of_ble_eq_true rfl) dX10_users_112 (fun r_112 σ h_112 => ?_)
                obtain ⟨h_112, rfl⟩ := h_112
                have g_112 := z_flagT h_112.2 (a := r_109.toInt) rfl
                refine zv_iadd G dX10_users_115 ?_
                refine zv_top (fun x_116 e_116 => ?_)
                first | have q_116 := z_addf e_116 (a := y3_94.toInt) (b := r_112.toInt) rfl rfl (by omega) (by omega) | skip
                refine zv_istore_n (lv' := [(3, za_I x_116), (0, za_O 19 93), (1, za_I k), (2, za_I y2_18), (4, za_I 0), (5, za_I y5_94)]) G dX10_users_116 rfl (by decide) rfl ?_
                refine zv_aload_n (j := 1) G dX10_users_117 rfl rfl ?_
                refine zg_X10_118 G dX10_users_118 ?_
                refine zv_iconst (v := 1) G dX10_users_121 (by decide) ?_
                refine zv_iload_n (j := 2) G dX10_users_122 rfl rfl ?_
                refine zv_iload (j := 5) G dX10_users_123 rfl ?_
                refine zv_callSi (as := [za_O 22 99, za_I 1, za_I k, za_I y5_94]) G (zc_X10_begins_at0 l E 99 (1 : Int32) k y5_94 σ (by decide) t_6 (wzN9 hz)) zk_X10_begins zm_1321 rfl ⟨(Nat.le_of_ble_eq_true rfl), (Nat.le_of_ble_eq_true rfl)⟩ ⟨Nat.zero_le _, Nat.zero_le _⟩ (Nat.le_of_ble_eq_true rfl) dX10_users_125 (fun r_125 σ h_125 => ?_)
                obtain ⟨h_125, rfl⟩ := h_125
                subst h_125
                refine zv_if_eq (tgt := 203) G dX10_users_128 (by decide) (fun c_128 => ?_) (fun c_128 => ?_)
                · have k_128 := z_ceq c_128 (a := 0) (b := 0) rfl rfl
                  obtain ⟨x_203, e_203⟩ : ∃ y : Int32, y = y5_94 + 1 := ⟨_, rfl⟩
                  refine zv_iinc (j := 5) (v := x_203) (lv' := [(5, za_I x_203), (3, za_I x_116), (0, za_O 19 93), (1, za_I k), (2, za_I y2_18), (4, za_I 0)]) G dX10_users_203 rfl (by rw [e_203]; rfl) (by decide) rfl ?_
                  first | have q_203 := z_inc9 (by omega) e_203 | skip
                  refine zv_goto (tgt := 94) G dX10_users_206 (by decide) ?_
                  refine zv_sub [2, 3, 4, 1, 5, 0] (lv' := [(0, za_O 19 93), (1, za_I k), (2, za_I y2_18), (3, za_I x_116), (4, za_I 0), (5, za_I x_203)]) rfl ?_
                  exact ih_94 x_116 x_203 σ hz (by have := z_inc c_98 e_203; omega) (by have := z_inc9 (by omega) e_203; omega) (z_meas c_98 e_203 hn_94)
                · exact absurd c_128 (by decide)
          refine zv_istore (lv' := [(5, za_I 0), (4, za_I 0), (3, za_I 0), (0, za_O 19 93), (1, za_I k), (2, za_I y2_18)]) G dX10_users_92 (by decide) rfl ?_
          refine zv_sub [3, 4, 5, 2, 1, 0] (lv' := [(0, za_O 19 93), (1, za_I k), (2, za_I y2_18), (3, za_I 0), (4, za_I 0), (5, za_I 0)]) rfl ?_
          exact J_94 _ (0 : Int32) (0 : Int32) σ hz (by decide) (by decide) (Nat.lt_succ_self _)
        · have b_21 : 0 ≤ y3_18.toInt ∧ y3_18.toInt < 10 := ⟨i3_18, z_ltk c_21 rfl⟩
          have k_21 := z_cnle c_21 (a := 10) (b := y3_18.toInt) rfl rfl
          refine zv_iconst (v := 0) G dX10_users_24 (by decide) ?_
          have J_27 : ∀ (n : Nat) (y2_27 : Int32) (y4_27 : Int32) (σ : za_S) (hz : wzZ σ) (s_27 : y2_27 = 0) (i4_27 : 0 ≤ y4_27.toInt) (u4_27 : y4_27.toInt ≤ 100) (hn_27 : (2147483648 - y4_27.toInt).toNat < n), zV p l e (zRm 5 113) s m args below meth c E (za_A E) 8 0 0 (MQ below (va_Qi (fun r σ' => wzAn ((0 ≤ k.toInt ∧ k.toInt ≤ 9)) 0 (-1) r) (zB E) (za_A E)) args s 0 0 (za_A E)) 27 [(0, za_O 19 93), (1, za_I k), (2, za_I y2_27), (3, za_I y3_18), (4, za_I y4_27)] [] σ := by
            intro n
            induction n with
            | zero => intro y2_27 y4_27 σ hz s_27 i4_27 u4_27 hn; exact absurd hn (Nat.not_lt_zero _)
            | succ n ih_27 =>
              intro y2_27 y4_27 σ hz s_27 i4_27 u4_27 hn_27
              refine zv_iload (j := 4) G dX10_users_27 rfl ?_
              refine zv_bipush (v := 100) G dX10_users_29 (by decide) ?_
              refine zv_icmp_ge (tgt := 80) G dX10_users_31 (by decide) (fun c_31 => ?_) (fun c_31 => ?_)
              · have k_31 := z_cle c_31 (a := 100) (b := y4_27.toInt) rfl rfl
                obtain ⟨x_80, e_80⟩ : ∃ y : Int32, y = y3_18 + 1 := ⟨_, rfl⟩
                refine zv_iinc (j := 3) (v := x_80) (lv' := [(3, za_I x_80), (0, za_O 19 93), (1, za_I k), (2, za_I y2_27), (4, za_I y4_27)]) G dX10_users_80 rfl (by rw [e_80]; rfl) (by decide) rfl ?_
                first | have q_80 := z_inc9 (by omega) e_80 | skip
                refine zv_goto (tgt := 18) G dX10_users_83 (by decide) ?_
                refine zv_sub [1, 2, 3, 0] (lv' := [(0, za_O 19 93), (1, za_I k), (2, za_I y2_27), (3, za_I x_80)]) rfl ?_
                exact ih_18 y2_27 x_80 σ hz s_27 (by have := z_inc c_21 e_80; omega) (by have := z_inc9 (by omega) e_80; omega) (z_meas c_21 e_80 hn_18)
              · have b_31 : 0 ≤ y4_27.toInt ∧ y4_27.toInt < 100 := ⟨i4_27, z_ltk c_31 rfl⟩
                have k_31 := z_cnle c_31 (a := 100) (b := y4_27.toInt) rfl rfl
                refine zv_iload_n (j := 2) G dX10_users_34 rfl rfl ?_
                refine zv_aload_n (j := 0) G dX10_users_35 rfl rfl ?_
                refine zg_X10_118 G dX10_users_36 ?_
                refine zv_iconst (v := 0) G dX10_users_39 (by decide) ?_
                refine zv_iload_n (j := 3) G dX10_users_40 rfl rfl ?_
                refine zv_iload (j := 4) G dX10_users_41 rfl ?_
                refine zv_callSi (as := [za_O 22 99, za_I 0, za_I y3_18, za_I y4_27]) G (zc_X10_begins_at0 l E 99 (0 : Int32) y3_18 y4_27 σ (by decide) (by omega) (wzN9 hz)) zk_X10_begins zm_1321 rfl ⟨(Nat.le_of_ble_eq_true rfl), (Nat.le_of_ble_eq_true rfl)⟩ ⟨Nat.zero_le _, Nat.zero_le _⟩ (Nat.le_of_ble_eq_true rfl) dX10_users_43 (fun r_43 σ h_43 => ?_)
                obtain ⟨h_43, rfl⟩ := h_43
                subst h_43
                refine zv_if_eq (tgt := 68) G dX10_users_46 (by decide) (fun c_46 => ?_) (fun c_46 => ?_)
                · have k_46 := z_ceq c_46 (a := 0) (b := 0) rfl rfl
                  refine zv_iconst (v := 0) G dX10_users_68 (by decide) ?_
                  refine zv_callSi (as := [za_I 0]) G (zc_X10_flag_at0 l E  σ ) zk_X10_flag zm_1355 rfl ⟨(Nat.le_of_ble_eq_true rfl), (Nat.le_of_ble_eq_true rfl)⟩ ⟨Nat.zero_le _, Nat.zero_le _⟩ (Nat.le_of_ble_eq_true rfl) dX10_users_69 (fun r_69 σ h_69 => ?_)
                  obtain ⟨h_69, rfl⟩ := h_69
                  subst h_69
                  refine zv_iadd G dX10_users_72 ?_
                  refine zv_top (fun x_73 e_73 => ?_)
                  first | have q_73 := z_addf e_73 (a := y2_27.toInt) (b := 0) rfl rfl (by omega) (by omega) | skip
                  refine zv_istore_n (lv' := [(2, za_I x_73), (0, za_O 19 93), (1, za_I k), (3, za_I y3_18), (4, za_I y4_27)]) G dX10_users_73 rfl (by decide) rfl ?_
                  obtain ⟨x_74, e_74⟩ : ∃ y : Int32, y = y4_27 + 1 := ⟨_, rfl⟩
                  refine zv_iinc (j := 4) (v := x_74) (lv' := [(4, za_I x_74), (2, za_I x_73), (0, za_O 19 93), (1, za_I k), (3, za_I y3_18)]) G dX10_users_74 rfl (by rw [e_74]; rfl) (by decide) rfl ?_
                  first | have q_74 := z_inc9 (by omega) e_74 | skip
                  refine zv_goto (tgt := 27) G dX10_users_77 (by decide) ?_
                  refine zv_sub [2, 3, 1, 4, 0] (lv' := [(0, za_O 19 93), (1, za_I k), (2, za_I x_73), (3, za_I y3_18), (4, za_I x_74)]) rfl ?_
                  exact ih_27 x_73 x_74 σ hz (by rw [e_73, s_27]; decide) (by have := z_inc c_31 e_74; omega) (by have := z_inc9 (by omega) e_74; omega) (z_meas c_31 e_74 hn_27)
                · exact absurd c_46 (by decide)
          refine zv_istore (lv' := [(4, za_I 0), (0, za_O 19 93), (1, za_I k), (2, za_I y2_18), (3, za_I y3_18)]) G dX10_users_25 (by decide) rfl ?_
          refine zv_sub [1, 2, 3, 4, 0] (lv' := [(0, za_O 19 93), (1, za_I k), (2, za_I y2_18), (3, za_I y3_18), (4, za_I 0)]) rfl ?_
          exact J_27 _ y2_18 (0 : Int32) σ hz s_18 (by decide) (by decide) (Nat.lt_succ_self _)
    refine zv_istore_n (lv' := [(3, za_I 0), (2, za_I 0), (0, za_O 19 93), (1, za_I k)]) G dX10_users_17 rfl (by decide) rfl ?_
    refine zv_sub [2, 3, 1, 0] (lv' := [(0, za_O 19 93), (1, za_I k), (2, za_I 0), (3, za_I 0)]) rfl ?_
    exact J_18 _ (0 : Int32) (0 : Int32) σ hz rfl (by decide) (by decide) (Nat.lt_succ_self _)
  · have f_6 := fun q9 => (h_6.2.mpr q9) c_9
    refine zv_iconst (v := (-1)) G dX10_users_12 (by decide) ?_
    exact zv_iret G hr dX10_users_13 (wzAn_n (fun q => by first | exact f_6 (by omega)))
set_option maxHeartbeats 4000000 in
set_option maxRecDepth 100000 in
theorem zc_X10_drags_at0 (l : Launch) (E : za_E) (k : Int32) (fd : Int32) (td : Int32) (σ0 : za_S) (h0 : wzZ σ0) : zMi l E yX10_drags cX10_drags 9 (Option.some Jvm.ClassFile.FieldType.int) 5 115 [za_O 19 93, za_I k, za_I fd, za_I td] σ0 (fun r σ' => wzAn ((0 ≤ k.toInt ∧ k.toInt ≤ 9) ∧ (0 ≤ fd.toInt ∧ fd.toInt ≤ 99) ∧ fd.toInt < td.toInt ∧ td.toInt ≤ 100) (-2) (-1) r) := by
  refine zMi_of [(0, za_O 19 93), (1, za_I k), (2, za_I fd), (3, za_I td)] (by decide) rfl rfl (Nat.le_of_ble_eq_true rfl) ?_
  intro ho p e s m args below meth c G hr
  refine zv_gen (R9 := wzZ) h0 (fun σ hz => ?_)
  refine zv_aload_n (j := 0) G dX10_drags_0 rfl rfl ?_
  refine zv_iconst (v := 0) G dX10_drags_1 (by decide) ?_
  refine zp_X10_3 G dX10_drags_2 ?_
  refine zv_gen (R9 := wzZ) (wzZ_w hz) (fun σ hz => ?_)
  refine zv_iload_n (j := 1) G dX10_drags_5 rfl rfl ?_
  refine zv_callSi (as := [za_I k]) G (zc_X10_isKey l E k σ ) zk_X10_isKey zm_1375 rfl ⟨(Nat.le_of_ble_eq_true rfl), (Nat.le_of_ble_eq_true rfl)⟩ ⟨Nat.zero_le _, Nat.zero_le _⟩ (Nat.le_of_ble_eq_true rfl) dX10_drags_6 (fun r_6 σ h_6 => ?_)
  obtain ⟨h_6, rfl⟩ := h_6
  refine zv_if_eq (tgt := 20) G dX10_drags_9 (by decide) (fun c_9 => ?_) (fun c_9 => ?_)
  · have f_6 := fun q9 => (h_6.2.mpr q9) c_9
    refine zv_iconst (v := (-1)) G dX10_drags_20 (by decide) ?_
    exact zv_iret G hr dX10_drags_21 (wzAn_n (fun q => by first | exact f_6 (by omega) | exact f_14 (by omega)))
  · have t_6 := h_6.2.mp c_9
    refine zv_iload_n (j := 2) G dX10_drags_12 rfl rfl ?_
    refine zv_iload_n (j := 3) G dX10_drags_13 rfl rfl ?_
    refine zv_callSi (as := [za_I fd, za_I td]) G (zc_X10_isPeriod l E fd td σ ) zk_X10_isPeriod zm_1379 rfl ⟨(Nat.le_of_ble_eq_true rfl), (Nat.le_of_ble_eq_true rfl)⟩ ⟨Nat.zero_le _, Nat.zero_le _⟩ (Nat.le_of_ble_eq_true rfl) dX10_drags_14 (fun r_14 σ h_14 => ?_)
    obtain ⟨h_14, rfl⟩ := h_14
    refine zv_if_ne (tgt := 22) G dX10_drags_17 (by decide) (fun c_17 => ?_) (fun c_17 => ?_)
    · have t_14 := h_14.2.mp c_17
      refine zv_aload_n (j := 0) G dX10_drags_22 rfl rfl ?_
      refine zg_X10_118 G dX10_drags_23 ?_
      refine zv_iconst (v := 1) G dX10_drags_26 (by decide) ?_
      refine zv_iload_n (j := 1) G dX10_drags_27 rfl rfl ?_
      refine zv_iload_n (j := 2) G dX10_drags_28 rfl rfl ?_
      refine zv_iload_n (j := 3) G dX10_drags_29 rfl rfl ?_
      refine zv_callSi (as := [za_O 22 99, za_I 1, za_I k, za_I fd, za_I td]) G (zc_X10_rowsIn_at0 l E 99 (1 : Int32) k fd td σ (by decide) t_6 (wzN9 hz) (by omega)) zk_X10_rowsIn zm_1382 rfl ⟨(Nat.le_of_ble_eq_true rfl), (Nat.le_of_ble_eq_true rfl)⟩ ⟨Nat.zero_le _, Nat.zero_le _⟩ (Nat.le_of_ble_eq_true rfl) dX10_drags_30 (fun r_30 σ h_30 => ?_)
      obtain ⟨h_30, rfl⟩ := h_30
      subst h_30
      refine zv_if_ne (tgt := 39) G dX10_drags_33 (by decide) (fun c_33 => ?_) (fun c_33 => ?_)
      · exact absurd c_33 (by decide)
      · have k_33 := z_ceq c_33 (a := 0) (b := 0) rfl rfl
        refine zv_bipush (v := (-2)) G dX10_drags_36 (by decide) ?_
        exact zv_iret G hr dX10_drags_38 (wzAn_y ⟨t_6, t_14⟩)
    · have f_14 := fun q9 => (h_14.2.mpr q9) c_17
      refine zv_iconst (v := (-1)) G dX10_drags_20 (by decide) ?_
      exact zv_iret G hr dX10_drags_21 (wzAn_n (fun q => by first | exact f_6 (by omega) | exact f_14 (by omega)))
set_option maxHeartbeats 4000000 in
set_option maxRecDepth 100000 in
theorem zc_X10_differs_at0 (l : Launch) (E : za_E) (t : Int32) (i : Int32) (σ0 : za_S) (h0 : wzZ σ0) : zMi l E yX10_differs cX10_differs 9 (Option.some Jvm.ClassFile.FieldType.int) 3 66 [za_O 19 93, za_I t, za_I i] σ0 (fun r σ' => wzAn ((0 ≤ t.toInt ∧ t.toInt ≤ 1) ∧ (0 ≤ i.toInt ∧ i.toInt ≤ 1)) (-2) (-1) r) := by
  refine zMi_of [(0, za_O 19 93), (1, za_I t), (2, za_I i)] (by decide) rfl rfl (Nat.le_of_ble_eq_true rfl) ?_
  intro ho p e s m args below meth c G hr
  refine zv_gen (R9 := wzZ) h0 (fun σ hz => ?_)
  refine zv_aload_n (j := 0) G dX10_differs_0 rfl rfl ?_
  refine zv_iconst (v := 0) G dX10_differs_1 (by decide) ?_
  refine zp_X10_3 G dX10_differs_2 ?_
  refine zv_gen (R9 := wzZ) (wzZ_w hz) (fun σ hz => ?_)
  refine zv_iload_n (j := 1) G dX10_differs_5 rfl rfl ?_
  refine zv_callSi (as := [za_I t]) G (zc_X10_isTable l E t σ ) zk_X10_isTable zm_1313 rfl ⟨(Nat.le_of_ble_eq_true rfl), (Nat.le_of_ble_eq_true rfl)⟩ ⟨Nat.zero_le _, Nat.zero_le _⟩ (Nat.le_of_ble_eq_true rfl) dX10_differs_6 (fun r_6 σ h_6 => ?_)
  obtain ⟨h_6, rfl⟩ := h_6
  refine zv_if_eq (tgt := 22) G dX10_differs_9 (by decide) (fun c_9 => ?_) (fun c_9 => ?_)
  · have f_6 := fun q9 => (h_6.2.mpr q9) c_9
    refine zv_iconst (v := (-1)) G dX10_differs_22 (by decide) ?_
    exact zv_iret G hr dX10_differs_23 (wzAn_n (fun q => by first | exact f_6 q.1 | exact f_16 (by rw [z_w]; have hL := z_lL; omega)))
  · have t_6 := h_6.2.mp c_9
    refine zv_iload_n (j := 2) G dX10_differs_12 rfl rfl ?_
    refine zv_i2l G dX10_differs_13 ?_
    refine zv_lconst (v := 0) G dX10_differs_14 (by decide) ?_
    refine zv_lconst (v := 1) G dX10_differs_15 (by decide) ?_
    refine zv_callSi (as := [za_L i.toInt64, za_L 0, za_L 1]) G (zc_X10_in l E i.toInt64 0 1 σ ) zk_X10_in zm_1184 rfl ⟨(Nat.le_of_ble_eq_true rfl), (Nat.le_of_ble_eq_true rfl)⟩ ⟨Nat.zero_le _, Nat.zero_le _⟩ (Nat.le_of_ble_eq_true rfl) dX10_differs_16 (fun r_16 σ h_16 => ?_)
    obtain ⟨h_16, rfl⟩ := h_16
    refine zv_if_ne (tgt := 24) G dX10_differs_19 (by decide) (fun c_19 => ?_) (fun c_19 => ?_)
    · have t_16 := h_16.2.mp c_19
      have i9 : 0 ≤ i.toInt ∧ i.toInt ≤ 1 := by have h8 := t_16; rw [z_w] at h8; have hL := z_lL; omega
      refine zv_aload_n (j := 0) G dX10_differs_24 rfl rfl ?_
      refine zg_X10_150 G dX10_differs_25 ?_
      refine zv_iload_n (j := 2) G dX10_differs_28 rfl rfl ?_
      refine zv_zald G (by decide) rfl (z_in (by omega) (by omega)) dX10_differs_29 ?_
      refine zv_if_ne (tgt := 36) G dX10_differs_30 (by decide) (fun c_30 => ?_) (fun c_30 => ?_)
      · exact absurd (hz 189 (by decide) _) c_30
      · have k_30 := z_ceq c_30 (a := (σ.1 189 i.toNatClampNeg).toInt) (b := 0) rfl rfl
        refine zv_bipush (v := (-2)) G dX10_differs_33 (by decide) ?_
        exact zv_iret G hr dX10_differs_35 (wzAn_y ⟨t_6, i9⟩)
    · have f_16 := fun q9 => (h_16.2.mpr q9) c_19
      refine zv_iconst (v := (-1)) G dX10_differs_22 (by decide) ?_
      exact zv_iret G hr dX10_differs_23 (wzAn_n (fun q => by first | exact f_6 q.1 | exact f_16 (by rw [z_w]; have hL := z_lL; omega)))
set_option maxHeartbeats 4000000 in
set_option maxRecDepth 100000 in
theorem zc_X10_fitting_at0 (l : Launch) (E : za_E)  (σ0 : za_S) (h0 : wzZ σ0) : zMi l E yX10_fitting cX10_fitting 5 (Option.some Jvm.ClassFile.FieldType.int) 6 138 [za_O 19 93] σ0 (fun r σ' => r = 0 ∧ wzZ σ') := by
  refine zMi_of [(0, za_O 19 93)] (by decide) rfl rfl (Nat.le_of_ble_eq_true rfl) ?_
  intro ho p e s m args below meth c G hr
  refine zv_gen (R9 := wzZ) h0 (fun σ hz => ?_)
  refine zv_iconst (v := 0) G dX10_fitting_0 (by decide) ?_
  refine zv_istore_n (lv' := [(1, za_I 0), (0, za_O 19 93)]) G dX10_fitting_1 rfl (by decide) rfl ?_
  refine zv_iconst (v := 0) G dX10_fitting_2 (by decide) ?_
  refine zv_istore_n (lv' := [(2, za_I 0), (1, za_I 0), (0, za_O 19 93)]) G dX10_fitting_3 rfl (by decide) rfl ?_
  refine zv_aload_n (j := 2) G dX10_fitting_4 rfl rfl ?_
  refine zv_aload_n (j := 2) G dX10_fitting_5 rfl rfl ?_
  refine zg_X10_118 G dX10_fitting_6 ?_
  refine zv_iconst (v := 0) G dX10_fitting_9 (by decide) ?_
  refine zv_iload_n (j := 0) G dX10_fitting_10 rfl rfl ?_
  refine zv_callVi (as := [za_O 22 99, za_I 0, za_I 0]) G (by decide) rfl rfl (zc_X10_seeks l E 99 (0 : Int32) (0 : Int32) σ (by decide) (by decide)) zk_X10_seeks zm_1317 rfl ⟨(Nat.le_of_ble_eq_true rfl), (Nat.le_of_ble_eq_true rfl)⟩ ⟨Nat.zero_le _, Nat.zero_le _⟩ (Nat.le_of_ble_eq_true rfl) dX10_fitting_11 (fun r_11 σ h_11 => ?_)
  obtain ⟨a_11, s_11⟩ := wzsk0 (wzN9 hz) (by decide) h_11
  subst s_11
  refine zv_if_eq (tgt := 88) G dX10_fitting_14 (by decide) (fun c_14 => ?_) (fun c_14 => ?_)
  · refine zv_iload_n (j := 1) G dX10_fitting_88 rfl rfl ?_
    exact zv_iret G hr dX10_fitting_89 ⟨rfl, hz⟩
  · exact absurd a_11 c_14
set_option maxHeartbeats 4000000 in
set_option maxRecDepth 100000 in
theorem zc_X10_fits_at0 (l : Launch) (E : za_E)  (σ0 : za_S) (h0 : wzZ σ0) : zMi l E yX10_fits cX10_fits 2 (Option.some Jvm.ClassFile.FieldType.int) 7 162 [za_O 19 93] σ0 (fun r σ' => r = 0) := by
  refine zMi_of [(0, za_O 19 93)] (by decide) rfl rfl (Nat.le_of_ble_eq_true rfl) ?_
  intro ho p e s m args below meth c G hr
  refine zv_gen (R9 := wzZ) h0 (fun σ hz => ?_)
  refine zv_aload_n (j := 0) G dX10_fits_0 rfl rfl ?_
  refine zv_iconst (v := 0) G dX10_fits_1 (by decide) ?_
  refine zp_X10_3 G dX10_fits_2 ?_
  refine zv_gen (R9 := wzZ) (wzZ_w hz) (fun σ hz => ?_)
  refine zv_aload_n (j := 0) G dX10_fits_5 rfl rfl ?_
  refine zv_callVi (as := []) G (by decide) rfl rfl (zc_X10_fitting_at0 l E  σ hz) zk_X10_fitting zm_1693 rfl ⟨(Nat.le_of_ble_eq_true rfl), (Nat.le_of_ble_eq_true rfl)⟩ ⟨Nat.zero_le _, Nat.zero_le _⟩ (Nat.le_of_ble_eq_true rfl) dX10_fits_6 (fun r_6 σ h_6 => ?_)
  have a_6 := h_6.1
  have hz := h_6.2
  refine zv_istore_n (lv' := [(1, za_I r_6), (0, za_O 19 93)]) G dX10_fits_9 rfl (by decide) rfl ?_
  refine zv_aload_n (j := 1) G dX10_fits_10 rfl rfl ?_
  refine zv_iconst (v := 0) G dX10_fits_11 (by decide) ?_
  refine zp_X10_15 G dX10_fits_12 ?_
  refine zv_gen (R9 := wzZ) (wzZ_w hz) (fun σ hz => ?_)
  refine zv_aload_n (j := 1) G dX10_fits_15 rfl rfl ?_
  refine zv_iload_n (j := 0) G dX10_fits_16 rfl rfl ?_
  refine zv_callSi (as := [za_I r_6]) G (zc_J6_bitCount_0f7a4 l E r_6 σ ) zk_J6_bitCount_0f7a4 zm_1673 rfl ⟨(Nat.le_of_ble_eq_true rfl), (Nat.le_of_ble_eq_true rfl)⟩ ⟨Nat.zero_le _, Nat.zero_le _⟩ (Nat.le_of_ble_eq_true rfl) dX10_fits_17 (fun r_17 σ h_17 => ?_)
  subst h_17
  refine zv_i2l G dX10_fits_20 ?_
  refine zv_callVv (as := [za_L r_17.toInt64]) G (by decide) rfl rfl (zc_X10_enters l E r_17.toInt64 σ (by rw [hz 93 (by decide) 1]; decide)) zk_X10_enters zm_1422 rfl ⟨(Nat.le_of_ble_eq_true rfl), (Nat.le_of_ble_eq_true rfl)⟩ ⟨Nat.zero_le _, Nat.zero_le _⟩ (Nat.le_of_ble_eq_true rfl) dX10_fits_21 (fun σ h_21 => ?_)
  have hz : True := trivial
  refine zv_iload_n (j := 0) G dX10_fits_24 rfl rfl ?_
  exact zv_iret G hr dX10_fits_25 a_6
set_option maxHeartbeats 4000000 in
set_option maxRecDepth 100000 in
theorem zc_X10_asks_at0 (l : Launch) (E : za_E)  (σ0 : za_S) (h0 : wzZ σ0) : zMi l E yX10_asks cX10_asks 8 (Option.some Jvm.ClassFile.FieldType.int) 7 162 [za_O 19 93] σ0 (fun r σ' => r = -2) := by
  refine zMi_of [(0, za_O 19 93)] (by decide) rfl rfl (Nat.le_of_ble_eq_true rfl) ?_
  intro ho p e s m args below meth c G hr
  refine zv_gen (R9 := wzZ) h0 (fun σ hz => ?_)
  refine zv_aload_n (j := 0) G dX10_asks_0 rfl rfl ?_
  refine zv_iconst (v := 0) G dX10_asks_1 (by decide) ?_
  refine zp_X10_3 G dX10_asks_2 ?_
  refine zv_gen (R9 := wzZ) (wzZ_w hz) (fun σ hz => ?_)
  refine zv_aload_n (j := 0) G dX10_asks_5 rfl rfl ?_
  refine zv_callVi (as := []) G (by decide) rfl rfl (zc_X10_fitting_at0 l E  σ hz) zk_X10_fitting zm_1693 rfl ⟨(Nat.le_of_ble_eq_true rfl), (Nat.le_of_ble_eq_true rfl)⟩ ⟨Nat.zero_le _, Nat.zero_le _⟩ (Nat.le_of_ble_eq_true rfl) dX10_asks_6 (fun r_6 σ h_6 => ?_)
  have a_6 := h_6.1
  have hz := h_6.2
  refine zv_istore_n (lv' := [(1, za_I r_6), (0, za_O 19 93)]) G dX10_asks_9 rfl (by decide) rfl ?_
  refine zv_iload_n (j := 0) G dX10_asks_10 rfl rfl ?_
  refine zv_if_ne (tgt := 17) G dX10_asks_11 (by decide) (fun c_11 => ?_) (fun c_11 => ?_)
  · exact absurd a_6 c_11
  · refine zv_bipush (v := (-2)) G dX10_asks_14 (by decide) ?_
    exact zv_iret G hr dX10_asks_16 rfl
set_option maxHeartbeats 4000000 in
set_option maxRecDepth 100000 in
theorem zc_X10_count_at0 (l : Launch) (E : za_E) (a : Int32) (σ0 : za_S) (h0 : wzZ σ0) : zMi l E yX10_count cX10_count 5 (Option.some Jvm.ClassFile.FieldType.int) 6 136 [za_O 19 93, za_I a] σ0 (fun r σ' => wzAn (0 ≤ a.toInt ∧ a.toInt ≤ 9) 0 (-100) r) := by
  refine zMi_of [(0, za_O 19 93), (1, za_I a)] (by decide) rfl rfl (Nat.le_of_ble_eq_true rfl) ?_
  intro ho p e s m args below meth c G hr
  refine zv_gen (R9 := wzZ) h0 (fun σ hz => ?_)
  refine zv_aload_n (j := 0) G dX10_count_0 rfl rfl ?_
  refine zv_iconst (v := 0) G dX10_count_1 (by decide) ?_
  refine zp_X10_3 G dX10_count_2 ?_
  refine zv_gen (R9 := wzZ) (wzZ_w hz) (fun σ hz => ?_)
  refine zv_iconst (v := 0) G dX10_count_5 (by decide) ?_
  refine zv_istore_n (lv' := [(2, za_I 0), (0, za_O 19 93), (1, za_I a)]) G dX10_count_6 rfl (by decide) rfl ?_
  refine zv_iconst (v := 0) G dX10_count_7 (by decide) ?_
  have J_9 : ∀ (n : Nat) (y2_9 : Int32) (y3_9 : Int32) (σ : za_S) (hz : wzZ σ) (s_9 : y2_9 = 0) (i3_9 : 0 ≤ y3_9.toInt) (u3_9 : y3_9.toInt ≤ 10) (hn_9 : (2147483648 - y3_9.toInt).toNat < n), zV p l e (zRm 6 136) s m args below meth c E (za_A E) 5 0 0 (MQ below (va_Qi (fun r σ' => wzAn (0 ≤ a.toInt ∧ a.toInt ≤ 9) 0 (-100) r) (zB E) (za_A E)) args s 0 0 (za_A E)) 9 [(0, za_O 19 93), (1, za_I a), (2, za_I y2_9), (3, za_I y3_9)] [] σ := by
    intro n
    induction n with
    | zero => intro y2_9 y3_9 σ hz s_9 i3_9 u3_9 hn; exact absurd hn (Nat.not_lt_zero _)
    | succ n ih_9 =>
      intro y2_9 y3_9 σ hz s_9 i3_9 u3_9 hn_9
      refine zv_iload_n (j := 3) G dX10_count_9 rfl rfl ?_
      refine zv_bipush (v := 10) G dX10_count_10 (by decide) ?_
      refine zv_icmp_ge (tgt := 78) G dX10_count_12 (by decide) (fun c_12 => ?_) (fun c_12 => ?_)
      · have k_12 := z_cle c_12 (a := 10) (b := y3_9.toInt) rfl rfl
        refine zv_iload_n (j := 1) G dX10_count_78 rfl rfl ?_
        rcases Decidable.em (a = 0) with q_79_0 | q_79_0
        · refine zv_tabIn (off := 53) (tgt := 132) G dX10_count_79 (by rw [q_79_0]; decide) (by rw [q_79_0]; decide) (by rw [q_79_0]; rfl) (by decide) ?_
          refine zv_aload_n (j := 0) G dX10_count_132 rfl rfl ?_
          refine zg_X10_118 G dX10_count_133 ?_
          refine zv_iconst (v := 0) G dX10_count_136 (by decide) ?_
          refine zv_callSi (as := [za_O 22 99, za_I 0]) G (zc_X10_rowsOf l E 99 (0 : Int32) σ (by decide)) zk_X10_rowsOf zm_1352 rfl ⟨(Nat.le_of_ble_eq_true rfl), (Nat.le_of_ble_eq_true rfl)⟩ ⟨Nat.zero_le _, Nat.zero_le _⟩ (Nat.le_of_ble_eq_true rfl) dX10_count_137 (fun r_137 σ h_137 => ?_)
          obtain ⟨h_137, rfl⟩ := h_137
          exact zv_iret G hr dX10_count_140 (wzAn_e (by rw [q_79_0]; decide) (wzro0 (wzN9 hz) h_137))
        rcases Decidable.em (a = 1) with q_79_1 | q_79_1
        · refine zv_tabIn (off := 62) (tgt := 141) G dX10_count_79 (by rw [q_79_1]; decide) (by rw [q_79_1]; decide) (by rw [q_79_1]; rfl) (by decide) ?_
          refine zv_aload_n (j := 0) G dX10_count_141 rfl rfl ?_
          refine zg_X10_118 G dX10_count_142 ?_
          refine zv_iconst (v := 1) G dX10_count_145 (by decide) ?_
          refine zv_callSi (as := [za_O 22 99, za_I 1]) G (zc_X10_rowsOf l E 99 (1 : Int32) σ (by decide)) zk_X10_rowsOf zm_1352 rfl ⟨(Nat.le_of_ble_eq_true rfl), (Nat.le_of_ble_eq_true rfl)⟩ ⟨Nat.zero_le _, Nat.zero_le _⟩ (Nat.le_of_ble_eq_true rfl) dX10_count_146 (fun r_146 σ h_146 => ?_)
          obtain ⟨h_146, rfl⟩ := h_146
          exact zv_iret G hr dX10_count_149 (wzAn_e (by rw [q_79_1]; decide) (wzro0 (wzN9 hz) h_146))
        rcases Decidable.em (a = 2) with q_79_2 | q_79_2
        · refine zv_tabIn (off := 71) (tgt := 150) G dX10_count_79 (by rw [q_79_2]; decide) (by rw [q_79_2]; decide) (by rw [q_79_2]; rfl) (by decide) ?_
          refine zv_aload_n (j := 0) G dX10_count_150 rfl rfl ?_
          refine zg_X10_118 G dX10_count_151 ?_
          refine zv_sipush (v := 2000) G dX10_count_154 (by decide) ?_
          refine zv_iald G (by decide) rfl (z_in (by decide) (by decide)) dX10_count_157 ?_
          exact zv_iret G hr dX10_count_158 (wzAn_e (by rw [q_79_2]; decide) (hz 99 (by decide) _))
        rcases Decidable.em (a = 3) with q_79_3 | q_79_3
        · refine zv_tabIn (off := 80) (tgt := 159) G dX10_count_79 (by rw [q_79_3]; decide) (by rw [q_79_3]; decide) (by rw [q_79_3]; rfl) (by decide) ?_
          refine zv_aload_n (j := 0) G dX10_count_159 rfl rfl ?_
          refine zg_X10_118 G dX10_count_160 ?_
          refine zv_iconst (v := 0) G dX10_count_163 (by decide) ?_
          refine zv_callSi (as := [za_O 22 99, za_I 0]) G (zc_X10_daysOf_at0 l E 99 (0 : Int32) σ (by decide) (wzN9 hz)) zk_X10_daysOf zm_1564 rfl ⟨(Nat.le_of_ble_eq_true rfl), (Nat.le_of_ble_eq_true rfl)⟩ ⟨Nat.zero_le _, Nat.zero_le _⟩ (Nat.le_of_ble_eq_true rfl) dX10_count_164 (fun r_164 σ h_164 => ?_)
          obtain ⟨h_164, rfl⟩ := h_164
          exact zv_iret G hr dX10_count_167 (wzAn_e (by rw [q_79_3]; decide) h_164)
        rcases Decidable.em (a = 4) with q_79_4 | q_79_4
        · refine zv_tabIn (off := 89) (tgt := 168) G dX10_count_79 (by rw [q_79_4]; decide) (by rw [q_79_4]; decide) (by rw [q_79_4]; rfl) (by decide) ?_
          refine zv_aload_n (j := 0) G dX10_count_168 rfl rfl ?_
          refine zg_X10_118 G dX10_count_169 ?_
          refine zv_iconst (v := 1) G dX10_count_172 (by decide) ?_
          refine zv_callSi (as := [za_O 22 99, za_I 1]) G (zc_X10_daysOf_at0 l E 99 (1 : Int32) σ (by decide) (wzN9 hz)) zk_X10_daysOf zm_1564 rfl ⟨(Nat.le_of_ble_eq_true rfl), (Nat.le_of_ble_eq_true rfl)⟩ ⟨Nat.zero_le _, Nat.zero_le _⟩ (Nat.le_of_ble_eq_true rfl) dX10_count_173 (fun r_173 σ h_173 => ?_)
          obtain ⟨h_173, rfl⟩ := h_173
          exact zv_iret G hr dX10_count_176 (wzAn_e (by rw [q_79_4]; decide) h_173)
        rcases Decidable.em (a = 5) with q_79_5 | q_79_5
        · refine zv_tabIn (off := 98) (tgt := 177) G dX10_count_79 (by rw [q_79_5]; decide) (by rw [q_79_5]; decide) (by rw [q_79_5]; rfl) (by decide) ?_
          refine zv_iload_n (j := 2) G dX10_count_177 rfl rfl ?_
          exact zv_iret G hr dX10_count_178 (wzAn_e (by rw [q_79_5]; decide) s_9)
        rcases Decidable.em (a = 6) with q_79_6 | q_79_6
        · refine zv_tabIn (off := 100) (tgt := 179) G dX10_count_79 (by rw [q_79_6]; decide) (by rw [q_79_6]; decide) (by rw [q_79_6]; rfl) (by decide) ?_
          refine zv_aload_n (j := 0) G dX10_count_179 rfl rfl ?_
          refine zg_X10_406 G dX10_count_180 ?_
          exact zv_iret G hr dX10_count_183 (wzAn_e (by rw [q_79_6]; decide) (hz 93 (by decide) _))
        rcases Decidable.em (a = 7) with q_79_7 | q_79_7
        · refine zv_tabIn (off := 105) (tgt := 184) G dX10_count_79 (by rw [q_79_7]; decide) (by rw [q_79_7]; decide) (by rw [q_79_7]; rfl) (by decide) ?_
          refine zv_aload_n (j := 0) G dX10_count_184 rfl rfl ?_
          refine zg_X10_205 G dX10_count_185 ?_
          exact zv_iret G hr dX10_count_188 (wzAn_e (by rw [q_79_7]; decide) (hz 93 (by decide) _))
        rcases Decidable.em (a = 8) with q_79_8 | q_79_8
        · refine zv_tabIn (off := 110) (tgt := 189) G dX10_count_79 (by rw [q_79_8]; decide) (by rw [q_79_8]; decide) (by rw [q_79_8]; rfl) (by decide) ?_
          refine zv_aload_n (j := 0) G dX10_count_189 rfl rfl ?_
          refine zg_X10_15 G dX10_count_190 ?_
          exact zv_iret G hr dX10_count_193 (wzAn_e (by rw [q_79_8]; decide) (hz 93 (by decide) _))
        rcases Decidable.em (a = 9) with q_79_9 | q_79_9
        · refine zv_tabIn (off := 115) (tgt := 194) G dX10_count_79 (by rw [q_79_9]; decide) (by rw [q_79_9]; decide) (by rw [q_79_9]; rfl) (by decide) ?_
          refine zv_aload_n (j := 0) G dX10_count_194 rfl rfl ?_
          refine zg_X10_18 G dX10_count_195 ?_
          exact zv_iret G hr dX10_count_198 (wzAn_e (by rw [q_79_9]; decide) (hz 93 (by decide) _))
        have n_79_0 := lv_neT q_79_0 (a := 0) rfl
        have n_79_1 := lv_neT q_79_1 (a := 1) rfl
        have n_79_2 := lv_neT q_79_2 (a := 2) rfl
        have n_79_3 := lv_neT q_79_3 (a := 3) rfl
        have n_79_4 := lv_neT q_79_4 (a := 4) rfl
        have n_79_5 := lv_neT q_79_5 (a := 5) rfl
        have n_79_6 := lv_neT q_79_6 (a := 6) rfl
        have n_79_7 := lv_neT q_79_7 (a := 7) rfl
        have n_79_8 := lv_neT q_79_8 (a := 8) rfl
        have n_79_9 := lv_neT q_79_9 (a := 9) rfl
        refine zv_tabOut (tgt := 199) G dX10_count_79 (by omega) (by decide) ?_
        refine zv_bipush (v := (-100)) G dX10_count_199 (by decide) ?_
        exact zv_iret G hr dX10_count_201 (wzAn_n (by omega))
      · have b_12 : 0 ≤ y3_9.toInt ∧ y3_9.toInt < 10 := ⟨i3_9, z_ltk c_12 rfl⟩
        have k_12 := z_cnle c_12 (a := 10) (b := y3_9.toInt) rfl rfl
        refine zv_iconst (v := 0) G dX10_count_15 (by decide) ?_
        have J_18 : ∀ (n : Nat) (y2_18 : Int32) (y4_18 : Int32) (σ : za_S) (hz : wzZ σ) (s_18 : y2_18 = 0) (i4_18 : 0 ≤ y4_18.toInt) (u4_18 : y4_18.toInt ≤ 100) (hn_18 : (2147483648 - y4_18.toInt).toNat < n), zV p l e (zRm 6 136) s m args below meth c E (za_A E) 5 0 0 (MQ below (va_Qi (fun r σ' => wzAn (0 ≤ a.toInt ∧ a.toInt ≤ 9) 0 (-100) r) (zB E) (za_A E)) args s 0 0 (za_A E)) 18 [(0, za_O 19 93), (1, za_I a), (2, za_I y2_18), (3, za_I y3_9), (4, za_I y4_18)] [] σ := by
          intro n
          induction n with
          | zero => intro y2_18 y4_18 σ hz s_18 i4_18 u4_18 hn; exact absurd hn (Nat.not_lt_zero _)
          | succ n ih_18 =>
            intro y2_18 y4_18 σ hz s_18 i4_18 u4_18 hn_18
            refine zv_iload (j := 4) G dX10_count_18 rfl ?_
            refine zv_bipush (v := 100) G dX10_count_20 (by decide) ?_
            refine zv_icmp_ge (tgt := 72) G dX10_count_22 (by decide) (fun c_22 => ?_) (fun c_22 => ?_)
            · have k_22 := z_cle c_22 (a := 100) (b := y4_18.toInt) rfl rfl
              obtain ⟨x_72, e_72⟩ : ∃ y : Int32, y = y3_9 + 1 := ⟨_, rfl⟩
              refine zv_iinc (j := 3) (v := x_72) (lv' := [(3, za_I x_72), (0, za_O 19 93), (1, za_I a), (2, za_I y2_18), (4, za_I y4_18)]) G dX10_count_72 rfl (by rw [e_72]; rfl) (by decide) rfl ?_
              first | have q_72 := z_inc9 (by omega) e_72 | skip
              refine zv_goto (tgt := 9) G dX10_count_75 (by decide) ?_
              refine zv_sub [1, 2, 3, 0] (lv' := [(0, za_O 19 93), (1, za_I a), (2, za_I y2_18), (3, za_I x_72)]) rfl ?_
              exact ih_9 y2_18 x_72 σ hz s_18 (by have := z_inc c_12 e_72; omega) (by have := z_inc9 (by omega) e_72; omega) (z_meas c_12 e_72 hn_9)
            · have b_22 : 0 ≤ y4_18.toInt ∧ y4_18.toInt < 100 := ⟨i4_18, z_ltk c_22 rfl⟩
              have k_22 := z_cnle c_22 (a := 100) (b := y4_18.toInt) rfl rfl
              refine zv_iload_n (j := 2) G dX10_count_25 rfl rfl ?_
              refine zv_aload_n (j := 0) G dX10_count_26 rfl rfl ?_
              refine zg_X10_118 G dX10_count_27 ?_
              refine zv_iconst (v := 0) G dX10_count_30 (by decide) ?_
              refine zv_iload_n (j := 3) G dX10_count_31 rfl rfl ?_
              refine zv_iload (j := 4) G dX10_count_32 rfl ?_
              refine zv_callSi (as := [za_O 22 99, za_I 0, za_I y3_9, za_I y4_18]) G (zc_X10_begins_at0 l E 99 (0 : Int32) y3_9 y4_18 σ (by decide) (by omega) (wzN9 hz)) zk_X10_begins zm_1321 rfl ⟨(Nat.le_of_ble_eq_true rfl), (Nat.le_of_ble_eq_true rfl)⟩ ⟨Nat.zero_le _, Nat.zero_le _⟩ (Nat.le_of_ble_eq_true rfl) dX10_count_34 (fun r_34 σ h_34 => ?_)
              obtain ⟨h_34, rfl⟩ := h_34
              subst h_34
              refine zv_if_eq (tgt := 60) G dX10_count_37 (by decide) (fun c_37 => ?_) (fun c_37 => ?_)
              · have k_37 := z_ceq c_37 (a := 0) (b := 0) rfl rfl
                refine zv_iconst (v := 0) G dX10_count_60 (by decide) ?_
                refine zv_callSi (as := [za_I 0]) G (zc_X10_flag_at0 l E  σ ) zk_X10_flag zm_1355 rfl ⟨(Nat.le_of_ble_eq_true rfl), (Nat.le_of_ble_eq_true rfl)⟩ ⟨Nat.zero_le _, Nat.zero_le _⟩ (Nat.le_of_ble_eq_true rfl) dX10_count_61 (fun r_61 σ h_61 => ?_)
                obtain ⟨h_61, rfl⟩ := h_61
                subst h_61
                refine zv_iadd G dX10_count_64 ?_
                refine zv_top (fun x_65 e_65 => ?_)
                first | have q_65 := z_addf e_65 (a := y2_18.toInt) (b := 0) rfl rfl (by omega) (by omega) | skip
                refine zv_istore_n (lv' := [(2, za_I x_65), (0, za_O 19 93), (1, za_I a), (3, za_I y3_9), (4, za_I y4_18)]) G dX10_count_65 rfl (by decide) rfl ?_
                obtain ⟨x_66, e_66⟩ : ∃ y : Int32, y = y4_18 + 1 := ⟨_, rfl⟩
                refine zv_iinc (j := 4) (v := x_66) (lv' := [(4, za_I x_66), (2, za_I x_65), (0, za_O 19 93), (1, za_I a), (3, za_I y3_9)]) G dX10_count_66 rfl (by rw [e_66]; rfl) (by decide) rfl ?_
                first | have q_66 := z_inc9 (by omega) e_66 | skip
                refine zv_goto (tgt := 18) G dX10_count_69 (by decide) ?_
                refine zv_sub [2, 3, 1, 4, 0] (lv' := [(0, za_O 19 93), (1, za_I a), (2, za_I x_65), (3, za_I y3_9), (4, za_I x_66)]) rfl ?_
                exact ih_18 x_65 x_66 σ hz (by rw [e_65, s_18]; decide) (by have := z_inc c_22 e_66; omega) (by have := z_inc9 (by omega) e_66; omega) (z_meas c_22 e_66 hn_18)
              · exact absurd c_37 (by decide)
        refine zv_istore (lv' := [(4, za_I 0), (0, za_O 19 93), (1, za_I a), (2, za_I y2_9), (3, za_I y3_9)]) G dX10_count_16 (by decide) rfl ?_
        refine zv_sub [1, 2, 3, 4, 0] (lv' := [(0, za_O 19 93), (1, za_I a), (2, za_I y2_9), (3, za_I y3_9), (4, za_I 0)]) rfl ?_
        exact J_18 _ y2_9 (0 : Int32) σ hz s_9 (by decide) (by decide) (Nat.lt_succ_self _)
  refine zv_istore_n (lv' := [(3, za_I 0), (2, za_I 0), (0, za_O 19 93), (1, za_I a)]) G dX10_count_8 rfl (by decide) rfl ?_
  refine zv_sub [2, 3, 1, 0] (lv' := [(0, za_O 19 93), (1, za_I a), (2, za_I 0), (3, za_I 0)]) rfl ?_
  exact J_9 _ (0 : Int32) (0 : Int32) σ hz rfl (by decide) (by decide) (Nat.lt_succ_self _)
set_option maxHeartbeats 4000000 in
set_option maxRecDepth 100000 in
theorem zc_X10_sheet_at0 (l : Launch) (E : za_E) (kd : Int32) (n : Int32) (f : Int32) (s9 : Int32) (σ0 : za_S) (h0 : wzZ σ0) : zMi l E yX10_sheet cX10_sheet 12 (Option.some Jvm.ClassFile.FieldType.int) 6 136 [za_O 19 93, za_I kd, za_I n, za_I f, za_I s9] σ0 (fun r σ' => wzSh kd.toInt n.toInt r) := by
  refine zMi_of [(0, za_O 19 93), (1, za_I kd), (2, za_I n), (3, za_I f), (4, za_I s9)] (by decide) rfl rfl (Nat.le_of_ble_eq_true rfl) ?_
  intro ho p e s m args below meth c G hr
  refine zv_gen (R9 := wzZ) h0 (fun σ hz => ?_)
  refine zv_aload_n (j := 0) G dX10_sheet_0 rfl rfl ?_
  refine zv_iconst (v := 0) G dX10_sheet_1 (by decide) ?_
  refine zp_X10_3 G dX10_sheet_2 ?_
  refine zv_gen (R9 := wzZ) (wzZ_w hz) (fun σ hz => ?_)
  refine zv_iload_n (j := 1) G dX10_sheet_5 rfl rfl ?_
  refine zv_i2l G dX10_sheet_6 ?_
  refine zv_lconst (v := 0) G dX10_sheet_7 (by decide) ?_
  refine zv_ldc2 (v := 3) G dX10_sheet_8 zm_1351 ?_
  refine zv_callSi (as := [za_L kd.toInt64, za_L 0, za_L 3]) G (zc_X10_in l E kd.toInt64 0 3 σ ) zk_X10_in zm_1184 rfl ⟨(Nat.le_of_ble_eq_true rfl), (Nat.le_of_ble_eq_true rfl)⟩ ⟨Nat.zero_le _, Nat.zero_le _⟩ (Nat.le_of_ble_eq_true rfl) dX10_sheet_11 (fun r_11 σ h_11 => ?_)
  obtain ⟨h_11, rfl⟩ := h_11
  refine zv_if_eq (tgt := 23) G dX10_sheet_14 (by decide) (fun c_14 => ?_) (fun c_14 => ?_)
  · have f_11 := fun q9 => (h_11.2.mpr q9) c_14
    have n9 : ¬ (0 ≤ kd.toInt ∧ kd.toInt ≤ 3) := fun q => f_11 (by rw [z_w]; have hL := z_lL; omega)
    refine zv_iconst (v := (-1)) G dX10_sheet_23 (by decide) ?_
    exact zv_iret G hr dX10_sheet_24 ⟨fun _ => rfl, fun q => False.elim (by omega)⟩
  · have t_11 := h_11.2.mp c_14
    have n9 : 0 ≤ kd.toInt ∧ kd.toInt ≤ 3 := by have h8 := t_11; rw [z_w] at h8; have hL := z_lL; omega
    refine zv_iload_n (j := 2) G dX10_sheet_17 rfl rfl ?_
    refine zv_bipush (v := 20) G dX10_sheet_18 (by decide) ?_
    refine zv_icmp_le (tgt := 25) G dX10_sheet_20 (by decide) (fun c_20 => ?_) (fun c_20 => ?_)
    · have k_20 := z_cle c_20 (a := n.toInt) (b := 20) rfl rfl
      refine zv_iload_n (j := 1) G dX10_sheet_25 rfl rfl ?_
      refine zv_iconst (v := 3) G dX10_sheet_26 (by decide) ?_
      refine zv_icmp_eq (tgt := 37) G dX10_sheet_27 (by decide) (fun c_27 => ?_) (fun c_27 => ?_)
      · have k_27 := z_ceq c_27 (a := kd.toInt) (b := 3) rfl rfl
        refine zv_iconst (v := 0) G dX10_sheet_37 (by decide) ?_
        refine zv_istore (lv' := [(5, za_I 0), (0, za_O 19 93), (1, za_I kd), (2, za_I n), (3, za_I f), (4, za_I s9)]) G dX10_sheet_38 (by decide) rfl ?_
        refine zv_aload_n (j := 1) G dX10_sheet_40 rfl rfl ?_
        refine zg_X10_118 G dX10_sheet_41 ?_
        refine zv_iconst (v := 0) G dX10_sheet_44 (by decide) ?_
        refine zv_callSi (as := [za_O 22 99, za_I 0]) G (zc_X10_rowsOf l E 99 (0 : Int32) σ (by decide)) zk_X10_rowsOf zm_1352 rfl ⟨(Nat.le_of_ble_eq_true rfl), (Nat.le_of_ble_eq_true rfl)⟩ ⟨Nat.zero_le _, Nat.zero_le _⟩ (Nat.le_of_ble_eq_true rfl) dX10_sheet_45 (fun r_45 σ h_45 => ?_)
        obtain ⟨h_45, rfl⟩ := h_45
        have a_45 := wzro0 (wzN9 hz) h_45
        refine zv_istore (lv' := [(6, za_I r_45), (5, za_I 0), (0, za_O 19 93), (1, za_I kd), (2, za_I n), (3, za_I f), (4, za_I s9)]) G dX10_sheet_48 (by decide) rfl ?_
        refine zv_iconst (v := 0) G dX10_sheet_50 (by decide) ?_
        refine zv_istore (lv' := [(7, za_I 0), (6, za_I r_45), (5, za_I 0), (0, za_O 19 93), (1, za_I kd), (2, za_I n), (3, za_I f), (4, za_I s9)]) G dX10_sheet_51 (by decide) rfl ?_
        refine zv_iload (j := 0) G dX10_sheet_53 rfl ?_
        refine zv_iload (j := 1) G dX10_sheet_55 rfl ?_
        refine zv_icmp_ge (tgt := 226) G dX10_sheet_57 (by decide) (fun c_57 => ?_) (fun c_57 => ?_)
        · have k_57 := z_cle c_57 (a := r_45.toInt) (b := 0) rfl rfl
          refine zv_iload_n (j := 4) G dX10_sheet_226 rfl rfl ?_
          refine zv_iconst (v := 3) G dX10_sheet_227 (by decide) ?_
          refine zv_icmp_ne (tgt := 236) G dX10_sheet_228 (by decide) (fun c_228 => ?_) (fun c_228 => ?_)
          · have k_228 := z_cne c_228 (a := kd.toInt) (b := 3) rfl rfl
            refine zv_iload (j := 2) G dX10_sheet_236 rfl ?_
            exact zv_iret G hr dX10_sheet_238 ⟨fun q => False.elim (by omega), fun _ => by first | exact ⟨fun q => False.elim (by omega), fun _ => rfl, fun q => False.elim (by omega)⟩ | exact ⟨fun q => False.elim (by omega), fun q => False.elim (by omega), fun _ => rfl⟩⟩
          · have k_228 := z_ceq c_228 (a := kd.toInt) (b := 3) rfl rfl
            refine zv_bipush (v := (-3)) G dX10_sheet_231 (by decide) ?_
            refine zv_goto (tgt := 238) G dX10_sheet_233 (by decide) ?_
            exact zv_iret G hr dX10_sheet_238 ⟨fun q => False.elim (by omega), fun _ => by first | exact ⟨fun q => False.elim (by omega), fun _ => rfl, fun q => False.elim (by omega)⟩ | exact ⟨fun q => False.elim (by omega), fun q => False.elim (by omega), fun _ => rfl⟩⟩
        · exact absurd (show r_45 ≤ 0 by rw [a_45]; decide) c_57
      · have k_27 := z_cne c_27 (a := kd.toInt) (b := 3) rfl rfl
        refine zv_iload_n (j := 2) G dX10_sheet_30 rfl rfl ?_
        refine zv_if_ge (tgt := 37) G dX10_sheet_31 (by decide) (fun c_31 => ?_) (fun c_31 => ?_)
        · have k_31 := z_cle c_31 (a := 0) (b := n.toInt) rfl rfl
          refine zv_iconst (v := 0) G dX10_sheet_37 (by decide) ?_
          refine zv_istore (lv' := [(5, za_I 0), (0, za_O 19 93), (1, za_I kd), (2, za_I n), (3, za_I f), (4, za_I s9)]) G dX10_sheet_38 (by decide) rfl ?_
          refine zv_aload_n (j := 1) G dX10_sheet_40 rfl rfl ?_
          refine zg_X10_118 G dX10_sheet_41 ?_
          refine zv_iconst (v := 0) G dX10_sheet_44 (by decide) ?_
          refine zv_callSi (as := [za_O 22 99, za_I 0]) G (zc_X10_rowsOf l E 99 (0 : Int32) σ (by decide)) zk_X10_rowsOf zm_1352 rfl ⟨(Nat.le_of_ble_eq_true rfl), (Nat.le_of_ble_eq_true rfl)⟩ ⟨Nat.zero_le _, Nat.zero_le _⟩ (Nat.le_of_ble_eq_true rfl) dX10_sheet_45 (fun r_45 σ h_45 => ?_)
          obtain ⟨h_45, rfl⟩ := h_45
          have a_45 := wzro0 (wzN9 hz) h_45
          refine zv_istore (lv' := [(6, za_I r_45), (5, za_I 0), (0, za_O 19 93), (1, za_I kd), (2, za_I n), (3, za_I f), (4, za_I s9)]) G dX10_sheet_48 (by decide) rfl ?_
          refine zv_iconst (v := 0) G dX10_sheet_50 (by decide) ?_
          refine zv_istore (lv' := [(7, za_I 0), (6, za_I r_45), (5, za_I 0), (0, za_O 19 93), (1, za_I kd), (2, za_I n), (3, za_I f), (4, za_I s9)]) G dX10_sheet_51 (by decide) rfl ?_
          refine zv_iload (j := 0) G dX10_sheet_53 rfl ?_
          refine zv_iload (j := 1) G dX10_sheet_55 rfl ?_
          refine zv_icmp_ge (tgt := 226) G dX10_sheet_57 (by decide) (fun c_57 => ?_) (fun c_57 => ?_)
          · have k_57 := z_cle c_57 (a := r_45.toInt) (b := 0) rfl rfl
            refine zv_iload_n (j := 4) G dX10_sheet_226 rfl rfl ?_
            refine zv_iconst (v := 3) G dX10_sheet_227 (by decide) ?_
            refine zv_icmp_ne (tgt := 236) G dX10_sheet_228 (by decide) (fun c_228 => ?_) (fun c_228 => ?_)
            · have k_228 := z_cne c_228 (a := kd.toInt) (b := 3) rfl rfl
              refine zv_iload (j := 2) G dX10_sheet_236 rfl ?_
              exact zv_iret G hr dX10_sheet_238 ⟨fun q => False.elim (by omega), fun _ => by first | exact ⟨fun q => False.elim (by omega), fun _ => rfl, fun q => False.elim (by omega)⟩ | exact ⟨fun q => False.elim (by omega), fun q => False.elim (by omega), fun _ => rfl⟩⟩
            · have k_228 := z_ceq c_228 (a := kd.toInt) (b := 3) rfl rfl
              refine zv_bipush (v := (-3)) G dX10_sheet_231 (by decide) ?_
              refine zv_goto (tgt := 238) G dX10_sheet_233 (by decide) ?_
              exact zv_iret G hr dX10_sheet_238 ⟨fun q => False.elim (by omega), fun _ => by first | exact ⟨fun q => False.elim (by omega), fun _ => rfl, fun q => False.elim (by omega)⟩ | exact ⟨fun q => False.elim (by omega), fun q => False.elim (by omega), fun _ => rfl⟩⟩
          · exact absurd (show r_45 ≤ 0 by rw [a_45]; decide) c_57
        · have k_31 := z_cnle c_31 (a := 0) (b := n.toInt) rfl rfl
          refine zv_bipush (v := (-2)) G dX10_sheet_34 (by decide) ?_
          exact zv_iret G hr dX10_sheet_36 ⟨fun q => False.elim (by omega), fun _ => ⟨fun _ => rfl, fun q => False.elim (by omega), fun q => False.elim (by omega)⟩⟩
    · have k_20 := z_cnle c_20 (a := n.toInt) (b := 20) rfl rfl
      refine zv_iconst (v := (-1)) G dX10_sheet_23 (by decide) ?_
      exact zv_iret G hr dX10_sheet_24 ⟨fun _ => rfl, fun q => False.elim (by omega)⟩
set_option maxHeartbeats 4000000 in
set_option maxRecDepth 100000 in
theorem zc_X10_undo_at0 (l : Launch) (E : za_E)  (σ0 : za_S) (h0 : wzZ σ0) : zMi l E yX10_undo cX10_undo 2 (Option.some Jvm.ClassFile.FieldType.int) 1 21 [za_O 19 93] σ0 (fun r σ' => r = -1) := by
  refine zMi_of [(0, za_O 19 93)] (by decide) rfl rfl (Nat.le_of_ble_eq_true rfl) ?_
  intro ho p e s m args below meth c G hr
  refine zv_gen (R9 := wzZ) h0 (fun σ hz => ?_)
  refine zv_aload_n (j := 0) G dX10_undo_0 rfl rfl ?_
  refine zv_iconst (v := 0) G dX10_undo_1 (by decide) ?_
  refine zp_X10_3 G dX10_undo_2 ?_
  refine zv_gen (R9 := wzZ) (wzZ_w hz) (fun σ hz => ?_)
  refine zv_aload_n (j := 0) G dX10_undo_5 rfl rfl ?_
  refine zg_X10_205 G dX10_undo_6 ?_
  refine zv_if_ne (tgt := 14) G dX10_undo_9 (by decide) (fun c_9 => ?_) (fun c_9 => ?_)
  · exact absurd (hz 93 (by decide) 17) c_9
  · have k_9 := z_ceq c_9 (a := (σ.1 93 17).toInt) (b := 0) rfl rfl
    refine zv_iconst (v := (-1)) G dX10_undo_12 (by decide) ?_
    exact zv_iret G hr dX10_undo_13 rfl
set_option maxHeartbeats 4000000 in
set_option maxRecDepth 100000 in
theorem zc_X10_refuse_at0 (l : Launch) (E : za_E)  (σ0 : za_S)  : zMi l E yX10_refuse cX10_refuse 1 (Option.some Jvm.ClassFile.FieldType.int) 1 21 [za_O 19 93] σ0 (fun r σ' => σ'.1 93 0 = 1) := by
  refine zMi_of [(0, za_O 19 93)] (by decide) rfl rfl (Nat.le_of_ble_eq_true rfl) ?_
  intro ho p e s m args below meth c G hr
  refine zv_aload_n (j := 0) G dX10_refuse_0 rfl rfl ?_
  refine zv_iconst (v := 1) G dX10_refuse_1 (by decide) ?_
  refine zp_X10_3 G dX10_refuse_2 ?_
  refine zv_iconst (v := 0) G dX10_refuse_5 (by decide) ?_
  exact zv_iret G hr dX10_refuse_6 (za_si_same _ _ _ _)
set_option maxHeartbeats 4000000 in
set_option maxRecDepth 100000 in
theorem zc_X10_entry_at0 (l : Launch) (E : za_E) (t : Int32) (i : Int32) (a : Int32) (σ0 : za_S) (h0 : wzZ σ0) : zMi l E yX10_entry cX10_entry 4 (Option.some Jvm.ClassFile.FieldType.int) 6 138 [za_O 19 93, za_I t, za_I i, za_I a] σ0 (fun r σ' => σ'.1 93 0 = 1) := by
  refine zMi_of [(0, za_O 19 93), (1, za_I t), (2, za_I i), (3, za_I a)] (by decide) rfl rfl (Nat.le_of_ble_eq_true rfl) ?_
  intro ho p e s m args below meth c G hr
  refine zv_gen (R9 := wzZ) h0 (fun σ hz => ?_)
  refine zv_aload_n (j := 0) G dX10_entry_0 rfl rfl ?_
  refine zv_iconst (v := 0) G dX10_entry_1 (by decide) ?_
  refine zp_X10_3 G dX10_entry_2 ?_
  refine zv_gen (R9 := wzZ) (wzZ_w hz) (fun σ hz => ?_)
  refine zv_iload_n (j := 1) G dX10_entry_5 rfl rfl ?_
  refine zv_callSi (as := [za_I t]) G (zc_X10_isTable l E t σ ) zk_X10_isTable zm_1313 rfl ⟨(Nat.le_of_ble_eq_true rfl), (Nat.le_of_ble_eq_true rfl)⟩ ⟨Nat.zero_le _, Nat.zero_le _⟩ (Nat.le_of_ble_eq_true rfl) dX10_entry_6 (fun r_6 σ h_6 => ?_)
  obtain ⟨h_6, rfl⟩ := h_6
  refine zv_if_eq (tgt := 41) G dX10_entry_9 (by decide) (fun c_9 => ?_) (fun c_9 => ?_)
  · have f_6 := fun q9 => (h_6.2.mpr q9) c_9
    refine zv_aload_n (j := 0) G dX10_entry_41 rfl rfl ?_
    refine zv_callVi (as := []) G (by decide) rfl rfl (zc_X10_refuse_at0 l E  σ ) zk_X10_refuse zm_1334 rfl ⟨(Nat.le_of_ble_eq_true rfl), (Nat.le_of_ble_eq_true rfl)⟩ ⟨Nat.zero_le _, Nat.zero_le _⟩ (Nat.le_of_ble_eq_true rfl) dX10_entry_42 (fun r_42 σ h_42 => ?_)
    have z42 := h_42
    exact zv_iret G hr dX10_entry_45 z42
  · have t_6 := h_6.2.mp c_9
    refine zv_iload_n (j := 2) G dX10_entry_12 rfl rfl ?_
    refine zv_if_lt (tgt := 41) G dX10_entry_13 (by decide) (fun c_13 => ?_) (fun c_13 => ?_)
    · have k_13 := z_clt c_13 (a := i.toInt) (b := 0) rfl rfl
      refine zv_aload_n (j := 0) G dX10_entry_41 rfl rfl ?_
      refine zv_callVi (as := []) G (by decide) rfl rfl (zc_X10_refuse_at0 l E  σ ) zk_X10_refuse zm_1334 rfl ⟨(Nat.le_of_ble_eq_true rfl), (Nat.le_of_ble_eq_true rfl)⟩ ⟨Nat.zero_le _, Nat.zero_le _⟩ (Nat.le_of_ble_eq_true rfl) dX10_entry_42 (fun r_42 σ h_42 => ?_)
      have z42 := h_42
      exact zv_iret G hr dX10_entry_45 z42
    · have k_13 := z_cnlt c_13 (a := i.toInt) (b := 0) rfl rfl
      refine zv_iload_n (j := 3) G dX10_entry_16 rfl rfl ?_
      refine zv_i2l G dX10_entry_17 ?_
      refine zv_lconst (v := 0) G dX10_entry_18 (by decide) ?_
      refine zv_ldc2 (v := 4) G dX10_entry_19 zm_1316 ?_
      refine zv_callSi (as := [za_L a.toInt64, za_L 0, za_L 4]) G (zc_X10_in l E a.toInt64 0 4 σ ) zk_X10_in zm_1184 rfl ⟨(Nat.le_of_ble_eq_true rfl), (Nat.le_of_ble_eq_true rfl)⟩ ⟨Nat.zero_le _, Nat.zero_le _⟩ (Nat.le_of_ble_eq_true rfl) dX10_entry_22 (fun r_22 σ h_22 => ?_)
      obtain ⟨h_22, rfl⟩ := h_22
      refine zv_if_eq (tgt := 41) G dX10_entry_25 (by decide) (fun c_25 => ?_) (fun c_25 => ?_)
      · have f_22 := fun q9 => (h_22.2.mpr q9) c_25
        refine zv_aload_n (j := 0) G dX10_entry_41 rfl rfl ?_
        refine zv_callVi (as := []) G (by decide) rfl rfl (zc_X10_refuse_at0 l E  σ ) zk_X10_refuse zm_1334 rfl ⟨(Nat.le_of_ble_eq_true rfl), (Nat.le_of_ble_eq_true rfl)⟩ ⟨Nat.zero_le _, Nat.zero_le _⟩ (Nat.le_of_ble_eq_true rfl) dX10_entry_42 (fun r_42 σ h_42 => ?_)
        have z42 := h_42
        exact zv_iret G hr dX10_entry_45 z42
      · have t_22 := h_22.2.mp c_25
        refine zv_aload_n (j := 0) G dX10_entry_28 rfl rfl ?_
        refine zv_aload_n (j := 0) G dX10_entry_29 rfl rfl ?_
        refine zg_X10_118 G dX10_entry_30 ?_
        refine zv_iload_n (j := 1) G dX10_entry_33 rfl rfl ?_
        refine zv_iload_n (j := 2) G dX10_entry_34 rfl rfl ?_
        refine zv_callVi (as := [za_O 22 99, za_I t, za_I i]) G (by decide) rfl rfl (zc_X10_seeks l E 99 t i σ t_6 (by omega)) zk_X10_seeks zm_1317 rfl ⟨(Nat.le_of_ble_eq_true rfl), (Nat.le_of_ble_eq_true rfl)⟩ ⟨Nat.zero_le _, Nat.zero_le _⟩ (Nat.le_of_ble_eq_true rfl) dX10_entry_35 (fun r_35 σ h_35 => ?_)
        obtain ⟨a_35, s_35⟩ := wzsk0 (wzN9 hz) (by omega) h_35
        subst s_35
        refine zv_if_ne (tgt := 46) G dX10_entry_38 (by decide) (fun c_38 => ?_) (fun c_38 => ?_)
        · exact absurd a_35 c_38
        · refine zv_aload_n (j := 0) G dX10_entry_41 rfl rfl ?_
          refine zv_callVi (as := []) G (by decide) rfl rfl (zc_X10_refuse_at0 l E  σ ) zk_X10_refuse zm_1334 rfl ⟨(Nat.le_of_ble_eq_true rfl), (Nat.le_of_ble_eq_true rfl)⟩ ⟨Nat.zero_le _, Nat.zero_le _⟩ (Nat.le_of_ble_eq_true rfl) dX10_entry_42 (fun r_42 σ h_42 => ?_)
          have z42 := h_42
          exact zv_iret G hr dX10_entry_45 z42
set_option maxHeartbeats 4000000 in
set_option maxRecDepth 100000 in
theorem zc_X10_row_at0 (l : Launch) (E : za_E) (i : Int32) (σ0 : za_S) (h0 : wzZ σ0) : zMl l E yX10_row cX10_row 2 (Option.some Jvm.ClassFile.FieldType.long) 2 46 [za_O 19 93, za_I i] σ0 (fun r σ' => σ'.1 93 0 = 1) := by
  refine zMl_of [(0, za_O 19 93), (1, za_I i)] (by decide) rfl rfl (Nat.le_of_ble_eq_true rfl) ?_
  intro ho p e s m args below meth c G hr
  refine zv_gen (R9 := wzZ) h0 (fun σ hz => ?_)
  refine zv_aload_n (j := 0) G dX10_row_0 rfl rfl ?_
  refine zv_iconst (v := 0) G dX10_row_1 (by decide) ?_
  refine zp_X10_3 G dX10_row_2 ?_
  refine zv_gen (R9 := wzZ) (wzZ_w hz) (fun σ hz => ?_)
  refine zv_iload_n (j := 1) G dX10_row_5 rfl rfl ?_
  refine zv_i2l G dX10_row_6 ?_
  refine zv_lconst (v := 0) G dX10_row_7 (by decide) ?_
  refine zv_aload_n (j := 0) G dX10_row_8 rfl rfl ?_
  refine zg_X10_15 G dX10_row_9 ?_
  refine zv_iconst (v := 1) G dX10_row_12 (by decide) ?_
  refine zv_isub G dX10_row_13 ?_
  refine zv_i2l G dX10_row_14 ?_
  refine zv_callSi (as := [za_L i.toInt64, za_L 0, za_L (((σ.1 93 1) - 1).toInt64)]) G (zc_X10_in l E i.toInt64 0 (((σ.1 93 1) - 1).toInt64) σ ) zk_X10_in zm_1184 rfl ⟨(Nat.le_of_ble_eq_true rfl), (Nat.le_of_ble_eq_true rfl)⟩ ⟨Nat.zero_le _, Nat.zero_le _⟩ (Nat.le_of_ble_eq_true rfl) dX10_row_15 (fun r_15 σ h_15 => ?_)
  obtain ⟨h_15, rfl⟩ := h_15
  refine zv_if_ne (tgt := 28) G dX10_row_18 (by decide) (fun c_18 => ?_) (fun c_18 => ?_)
  · exact absurd (h_15.2.mp c_18) (by rw [z_w, z_w, hz 93 (by decide) 1]; have hL := z_lL; have h8 : ((0 : Int32) - 1).toInt = -1 := (by decide); omega)
  · have f_15 := fun q9 => (h_15.2.mpr q9) c_18
    refine zv_aload_n (j := 0) G dX10_row_21 rfl rfl ?_
    refine zv_iconst (v := 1) G dX10_row_22 (by decide) ?_
    refine zp_X10_3 G dX10_row_23 ?_
    refine zv_gen (R9 := (fun σ => σ.1 93 0 = 1)) (za_si_same _ _ _ _) (fun σ hz => ?_)
    refine zv_lconst (v := 0) G dX10_row_26 (by decide) ?_
    exact zv_lret G hr dX10_row_27 hz
set_option maxHeartbeats 4000000 in
set_option maxRecDepth 100000 in
theorem zc_X10_keeps_at0 (l : Launch) (E : za_E) (a : Int32) (σ0 : za_S) (h0 : σ0.1 93 17 = 0) : zMi l E yX10_keeps cX10_keeps 3 (Option.some Jvm.ClassFile.FieldType.int) 1 21 [za_O 19 93, za_I a] σ0 (fun r σ' => r = a) := by
  refine zMi_of [(0, za_O 19 93), (1, za_I a)] (by decide) rfl rfl (Nat.le_of_ble_eq_true rfl) ?_
  intro ho p e s m args below meth c G hr
  refine zv_aload_n (j := 0) G dX10_keeps_0 rfl rfl ?_
  refine zv_dupO G dX10_keeps_1 ?_
  refine zg_X10_205 G dX10_keeps_2 ?_
  refine zv_iconst (v := 1) G dX10_keeps_5 (by decide) ?_
  refine zv_iadd G dX10_keeps_6 ?_
  refine zp_X10_205 G dX10_keeps_7 ?_
  refine zv_aload_n (j := 0) G dX10_keeps_10 rfl rfl ?_
  refine zg_X10_205 G dX10_keeps_11 ?_
  refine zv_bipush (v := 10) G dX10_keeps_14 (by decide) ?_
  refine zv_icmp_le (tgt := 60) G dX10_keeps_16 (by decide) (fun c_16 => ?_) (fun c_16 => ?_)
  · have k_16 := z_cle c_16 (a := ((za_si σ0 93 17 ((σ0.1 93 17) + 1)).1 93 17).toInt) (b := 10) rfl rfl
    refine zv_iload_n (j := 1) G dX10_keeps_60 rfl rfl ?_
    exact zv_iret G hr dX10_keeps_61 rfl
  · exact absurd (show (za_si σ0 93 17 (σ0.1 93 17 + 1)).1 93 17 ≤ 10 by rw [za_si_same, h0]; decide) c_16
set_option maxHeartbeats 4000000 in
set_option maxRecDepth 100000 in
theorem zc_X10_counted_at0 (l : Launch) (E : za_E) (a : Int32) (σ0 : za_S) (h0 : 0 ≤ a.toInt → σ0.1 93 17 = 0) : zMi l E yX10_counted cX10_counted 2 (Option.some Jvm.ClassFile.FieldType.int) 2 43 [za_O 19 93, za_I a] σ0 (fun r σ' => r = a) := by
  refine zMi_of [(0, za_O 19 93), (1, za_I a)] (by decide) rfl rfl (Nat.le_of_ble_eq_true rfl) ?_
  intro ho p e s m args below meth c G hr
  refine zv_iload_n (j := 1) G dX10_counted_0 rfl rfl ?_
  refine zv_if_ge (tgt := 8) G dX10_counted_1 (by decide) (fun c_1 => ?_) (fun c_1 => ?_)
  · have k_1 := z_cle c_1 (a := 0) (b := a.toInt) rfl rfl
    refine zv_aload_n (j := 0) G dX10_counted_8 rfl rfl ?_
    refine zv_iload_n (j := 1) G dX10_counted_9 rfl rfl ?_
    refine zv_callVi (as := [za_I a]) G (by decide) rfl rfl (zc_X10_keeps_at0 l E a σ0 (h0 (by omega))) zk_X10_keeps zm_1399 rfl ⟨(Nat.le_of_ble_eq_true rfl), (Nat.le_of_ble_eq_true rfl)⟩ ⟨Nat.zero_le _, Nat.zero_le _⟩ (Nat.le_of_ble_eq_true rfl) dX10_counted_10 (fun r_10 σ h_10 => ?_)
    exact zv_iret G hr dX10_counted_13 (by first | exact h_10 | rfl)
  · have k_1 := z_cnle c_1 (a := 0) (b := a.toInt) rfl rfl
    refine zv_iload_n (j := 1) G dX10_counted_4 rfl rfl ?_
    refine zv_goto (tgt := 13) G dX10_counted_5 (by decide) ?_
    exact zv_iret G hr dX10_counted_13 (by first | exact h_10 | rfl)
set_option maxHeartbeats 4000000 in
set_option maxRecDepth 100000 in
theorem zc_X10_rowsThen_at0 (l : Launch) (E : za_E) (a : Int32) (t : Int32) (σ0 : za_S) (h0 : a.toInt < 0) : zMi l E yX10_rowsThen cX10_rowsThen 3 (Option.some Jvm.ClassFile.FieldType.int) 1 21 [za_O 19 93, za_I a, za_I t] σ0 (fun r σ' => r = a) := by
  refine zMi_of [(0, za_O 19 93), (1, za_I a), (2, za_I t)] (by decide) rfl rfl (Nat.le_of_ble_eq_true rfl) ?_
  intro ho p e s m args below meth c G hr
  refine zv_iload_n (j := 1) G dX10_rowsThen_0 rfl rfl ?_
  refine zv_if_ge (tgt := 6) G dX10_rowsThen_1 (by decide) (fun c_1 => ?_) (fun c_1 => ?_)
  · exact absurd (z_cle c_1 (a := 0) (b := a.toInt) rfl rfl) (by omega)
  · have k_1 := z_cnle c_1 (a := 0) (b := a.toInt) rfl rfl
    refine zv_iload_n (j := 1) G dX10_rowsThen_4 rfl rfl ?_
    exact zv_iret G hr dX10_rowsThen_5 rfl
set_option maxHeartbeats 4000000 in
set_option maxRecDepth 100000 in
theorem zc_X10_wayIs_at0 (l : Launch) (E : za_E) (q : Nat) (v : Int32) (σ0 : za_S) (h9 : σ0.1 q 2000 = 0) : zMi l E yX10_wayIs cX10_wayIs 3 (Option.some Jvm.ClassFile.FieldType.int) 2 46 [za_O 22 q, za_I v] σ0 (fun r σ' => wzWy v.toInt r ∧ ∀ w j, w ≠ q → σ'.1 w j = σ0.1 w j) := by
  refine zMi_of [(0, za_O 22 q), (1, za_I v)] (by decide) rfl rfl (Nat.le_of_ble_eq_true rfl) ?_
  intro ho p e s m args below meth c G hr
  have h_q : za_kd q = 22 := za_okO (by decide) (List.forall_mem_cons.mp ho).1
  refine zv_iload_n (j := 1) G dX10_wayIs_0 rfl rfl ?_
  refine zv_i2l G dX10_wayIs_1 ?_
  refine zv_lconst (v := 0) G dX10_wayIs_2 (by decide) ?_
  refine zv_ldc2 (v := 2) G dX10_wayIs_3 zm_1477 ?_
  refine zv_callSi (as := [za_L v.toInt64, za_L 0, za_L 2]) G (zc_X10_in l E v.toInt64 0 2 σ0 ) zk_X10_in zm_1184 rfl ⟨(Nat.le_of_ble_eq_true rfl), (Nat.le_of_ble_eq_true rfl)⟩ ⟨Nat.zero_le _, Nat.zero_le _⟩ (Nat.le_of_ble_eq_true rfl) dX10_wayIs_6 (fun r_6 σ h_6 => ?_)
  obtain ⟨h_6, e9⟩ := h_6
  rw [e9]
  clear e9 σ
  refine zv_if_ne (tgt := 14) G dX10_wayIs_9 (by decide) (fun c_9 => ?_) (fun c_9 => ?_)
  · have t_6 := h_6.2.mp c_9
    have n9 : 0 ≤ v.toInt ∧ v.toInt ≤ 2 := by have h8 := t_6; rw [z_w] at h8; have hL := z_lL; omega
    refine zv_aload_n (j := 0) G dX10_wayIs_14 rfl rfl ?_
    refine zv_sipush (v := 2000) G dX10_wayIs_15 (by decide) ?_
    refine zv_iald G (by decide) rfl (z_in (by decide) (by decide)) dX10_wayIs_18 ?_
    refine zv_top (fun x_19 e_19 => ?_)
    refine zv_istore_n (lv' := [(2, za_I x_19), (0, za_O 22 q), (1, za_I v)]) G dX10_wayIs_19 rfl (by decide) rfl ?_
    refine zv_aload_n (j := 1) G dX10_wayIs_20 rfl rfl ?_
    refine zv_sipush (v := 2000) G dX10_wayIs_21 (by decide) ?_
    refine zv_iload_n (j := 2) G dX10_wayIs_24 rfl rfl ?_
    refine zv_iast G (by decide) rfl (fun _ => rfl) (z_in (by decide) (by decide)) dX10_wayIs_25 ?_
    refine zv_iload_n (j := 0) G dX10_wayIs_26 rfl rfl ?_
    refine zv_iload_n (j := 2) G dX10_wayIs_27 rfl rfl ?_
    refine zv_icmp_ne (tgt := 36) G dX10_wayIs_28 (by decide) (fun c_28 => ?_) (fun c_28 => ?_)
    · have k_28 := z_cne c_28 (a := x_19.toInt) (b := v.toInt) rfl rfl
      refine zv_bipush (v := 10) G dX10_wayIs_36 (by decide) ?_
      refine zv_iload_n (j := 0) G dX10_wayIs_38 rfl rfl ?_
      refine zv_iadd G dX10_wayIs_39 ?_
      exact zv_iret G hr dX10_wayIs_40 (wzwy_f n9 h9 e_19 (by first | exact Or.inl ⟨c_28, rfl⟩ | exact Or.inr ⟨c_28, rfl⟩))
    · have k_28 := z_ceq c_28 (a := x_19.toInt) (b := v.toInt) rfl rfl
      refine zv_bipush (v := (-2)) G dX10_wayIs_31 (by decide) ?_
      refine zv_goto (tgt := 40) G dX10_wayIs_33 (by decide) ?_
      exact zv_iret G hr dX10_wayIs_40 (wzwy_f n9 h9 e_19 (by first | exact Or.inl ⟨c_28, rfl⟩ | exact Or.inr ⟨c_28, rfl⟩))
  · have f_6 := fun q9 => (h_6.2.mpr q9) c_9
    refine zv_iconst (v := (-1)) G dX10_wayIs_12 (by decide) ?_
    exact zv_iret G hr dX10_wayIs_13 ⟨⟨fun _ => rfl, fun q => (f_6 (by rw [z_w]; have hL := z_lL; omega)).elim, fun q => (f_6 (by rw [z_w]; have hL := z_lL; omega)).elim⟩, fun _ _ _ => rfl⟩
set_option maxHeartbeats 4000000 in
set_option maxRecDepth 100000 in
theorem zc_X10_turns_atn (l : Launch) (E : za_E) (q : Nat) (t : Int32) (k : Int32) (iv : Int32) (v : Int32) (fd : Int32) (td : Int32) (σ0 : za_S) (hq : q ≠ 101 ∧ q ≠ 93) (h9 : ∀ i, σ0.1 q i = 0) (ht : 0 ≤ t.toInt ∧ t.toInt ≤ 1) (hk : 0 ≤ k.toInt ∧ k.toInt ≤ 9) (hp : (0 ≤ fd.toInt ∧ fd.toInt ≤ 99) ∧ fd.toInt < td.toInt ∧ td.toInt ≤ 100) : zMi l E yX10_turns cX10_turns 13 (Option.some Jvm.ClassFile.FieldType.int) 5 115 [za_O 19 93, za_O 22 q, za_I t, za_I k, za_I iv, za_I v, za_I fd, za_I td] σ0 (fun r σ' => r = (-2) ∧ σ' = σ0) := by
  refine zMi_of [(0, za_O 19 93), (1, za_O 22 q), (2, za_I t), (3, za_I k), (4, za_I iv), (5, za_I v), (6, za_I fd), (7, za_I td)] (by decide) rfl rfl (Nat.le_of_ble_eq_true rfl) ?_
  intro ho p e s m args below meth c G hr
  have h_q : za_kd q = 22 := za_okO (by decide) (List.forall_mem_cons.mp (List.forall_mem_cons.mp ho).2).1
  refine zv_aload_n (j := 1) G dX10_turns_0 rfl rfl ?_
  refine zv_iload_n (j := 2) G dX10_turns_1 rfl rfl ?_
  refine zv_iload_n (j := 3) G dX10_turns_2 rfl rfl ?_
  refine zv_iload (j := 6) G dX10_turns_3 rfl ?_
  refine zv_iload (j := 7) G dX10_turns_5 rfl ?_
  refine zv_callSi (as := [za_O 22 q, za_I t, za_I k, za_I fd, za_I td]) G (zc_X10_rowsIn_at0 l E q t k fd td σ0 ht hk h9 (by omega)) zk_X10_rowsIn zm_1382 rfl ⟨(Nat.le_of_ble_eq_true rfl), (Nat.le_of_ble_eq_true rfl)⟩ ⟨Nat.zero_le _, Nat.zero_le _⟩ (Nat.le_of_ble_eq_true rfl) dX10_turns_7 (fun r_7 σ h_7 => ?_)
  obtain ⟨h_7, e9⟩ := h_7
  rw [e9]
  clear e9 σ
  refine zv_istore (lv' := [(8, za_I r_7), (0, za_O 19 93), (1, za_O 22 q), (2, za_I t), (3, za_I k), (4, za_I iv), (5, za_I v), (6, za_I fd), (7, za_I td)]) G dX10_turns_10 (by decide) rfl ?_
  refine zv_iload (j := 0) G dX10_turns_12 rfl ?_
  refine zv_if_ne (tgt := 20) G dX10_turns_14 (by decide) (fun c_14 => ?_) (fun c_14 => ?_)
  · exact absurd h_7 c_14
  · refine zv_bipush (v := (-2)) G dX10_turns_17 (by decide) ?_
    exact zv_iret G hr dX10_turns_19 ⟨rfl, rfl⟩
set_option maxHeartbeats 4000000 in
set_option maxRecDepth 100000 in
theorem zc_X10_setsOne_at0 (l : Launch) (E : za_E) (q : Nat) (t : Int32) (k : Int32) (v : Int32) (fd : Int32) (td : Int32) (σ0 : za_S) (hq : q ≠ 101 ∧ q ≠ 93) (h9 : ∀ i, σ0.1 q i = 0) : zMi l E yX10_setsOne cX10_setsOne 8 (Option.some Jvm.ClassFile.FieldType.int) 6 147 [za_O 19 93, za_O 22 q, za_I t, za_I k, za_I v, za_I fd, za_I td] σ0 (fun r σ' => wzAn ((0 ≤ t.toInt ∧ t.toInt ≤ 1) ∧ (0 ≤ k.toInt ∧ k.toInt ≤ 9) ∧ (0 ≤ v.toInt ∧ v.toInt ≤ 99) ∧ (0 ≤ fd.toInt ∧ fd.toInt ≤ 99) ∧ fd.toInt < td.toInt ∧ td.toInt ≤ 100) (-2) (-1) r ∧ σ' = σ0) := by
  refine zMi_of [(0, za_O 19 93), (1, za_O 22 q), (2, za_I t), (3, za_I k), (4, za_I v), (5, za_I fd), (6, za_I td)] (by decide) rfl rfl (Nat.le_of_ble_eq_true rfl) ?_
  intro ho p e s m args below meth c G hr
  have h_q : za_kd q = 22 := za_okO (by decide) (List.forall_mem_cons.mp (List.forall_mem_cons.mp ho).2).1
  refine zv_iload_n (j := 2) G dX10_setsOne_0 rfl rfl ?_
  refine zv_callSi (as := [za_I t]) G (zc_X10_isTable l E t σ0 ) zk_X10_isTable zm_1313 rfl ⟨(Nat.le_of_ble_eq_true rfl), (Nat.le_of_ble_eq_true rfl)⟩ ⟨Nat.zero_le _, Nat.zero_le _⟩ (Nat.le_of_ble_eq_true rfl) dX10_setsOne_1 (fun r_1 σ h_1 => ?_)
  obtain ⟨h_1, e9⟩ := h_1
  rw [e9]
  clear e9 σ
  refine zv_if_eq (tgt := 37) G dX10_setsOne_4 (by decide) (fun c_4 => ?_) (fun c_4 => ?_)
  · have f_1 := fun q9 => (h_1.2.mpr q9) c_4
    refine zv_iconst (v := (-1)) G dX10_setsOne_37 (by decide) ?_
    exact zv_iret G hr dX10_setsOne_38 ⟨(wzAn_n (fun q => by first | exact f_1 (by first | omega | (rw [z_w]; have hL := z_lL; omega)) | exact f_8 (by first | omega | (rw [z_w]; have hL := z_lL; omega)) | exact f_21 (by first | omega | (rw [z_w]; have hL := z_lL; omega)) | exact f_31 (by first | omega | (rw [z_w]; have hL := z_lL; omega)))), rfl⟩
  · have t_1 := h_1.2.mp c_4
    refine zv_iload_n (j := 3) G dX10_setsOne_7 rfl rfl ?_
    refine zv_callSi (as := [za_I k]) G (zc_X10_isKey l E k σ0 ) zk_X10_isKey zm_1375 rfl ⟨(Nat.le_of_ble_eq_true rfl), (Nat.le_of_ble_eq_true rfl)⟩ ⟨Nat.zero_le _, Nat.zero_le _⟩ (Nat.le_of_ble_eq_true rfl) dX10_setsOne_8 (fun r_8 σ h_8 => ?_)
    obtain ⟨h_8, e9⟩ := h_8
    rw [e9]
    clear e9 σ
    refine zv_if_eq (tgt := 37) G dX10_setsOne_11 (by decide) (fun c_11 => ?_) (fun c_11 => ?_)
    · have f_8 := fun q9 => (h_8.2.mpr q9) c_11
      refine zv_iconst (v := (-1)) G dX10_setsOne_37 (by decide) ?_
      exact zv_iret G hr dX10_setsOne_38 ⟨(wzAn_n (fun q => by first | exact f_1 (by first | omega | (rw [z_w]; have hL := z_lL; omega)) | exact f_8 (by first | omega | (rw [z_w]; have hL := z_lL; omega)) | exact f_21 (by first | omega | (rw [z_w]; have hL := z_lL; omega)) | exact f_31 (by first | omega | (rw [z_w]; have hL := z_lL; omega)))), rfl⟩
    · have t_8 := h_8.2.mp c_11
      refine zv_iload (j := 4) G dX10_setsOne_14 rfl ?_
      refine zv_i2l G dX10_setsOne_16 ?_
      refine zv_lconst (v := 0) G dX10_setsOne_17 (by decide) ?_
      refine zv_ldc2 (v := 99) G dX10_setsOne_18 zm_1330 ?_
      refine zv_callSi (as := [za_L v.toInt64, za_L 0, za_L 99]) G (zc_X10_in l E v.toInt64 0 99 σ0 ) zk_X10_in zm_1184 rfl ⟨(Nat.le_of_ble_eq_true rfl), (Nat.le_of_ble_eq_true rfl)⟩ ⟨Nat.zero_le _, Nat.zero_le _⟩ (Nat.le_of_ble_eq_true rfl) dX10_setsOne_21 (fun r_21 σ h_21 => ?_)
      obtain ⟨h_21, e9⟩ := h_21
      rw [e9]
      clear e9 σ
      refine zv_if_eq (tgt := 37) G dX10_setsOne_24 (by decide) (fun c_24 => ?_) (fun c_24 => ?_)
      · have f_21 := fun q9 => (h_21.2.mpr q9) c_24
        refine zv_iconst (v := (-1)) G dX10_setsOne_37 (by decide) ?_
        exact zv_iret G hr dX10_setsOne_38 ⟨(wzAn_n (fun q => by first | exact f_1 (by first | omega | (rw [z_w]; have hL := z_lL; omega)) | exact f_8 (by first | omega | (rw [z_w]; have hL := z_lL; omega)) | exact f_21 (by first | omega | (rw [z_w]; have hL := z_lL; omega)) | exact f_31 (by first | omega | (rw [z_w]; have hL := z_lL; omega)))), rfl⟩
      · have t_21 := h_21.2.mp c_24
        have v9 := z_v99 t_21
        refine zv_iload (j := 5) G dX10_setsOne_27 rfl ?_
        refine zv_iload (j := 6) G dX10_setsOne_29 rfl ?_
        refine zv_callSi (as := [za_I fd, za_I td]) G (zc_X10_isPeriod l E fd td σ0 ) zk_X10_isPeriod zm_1379 rfl ⟨(Nat.le_of_ble_eq_true rfl), (Nat.le_of_ble_eq_true rfl)⟩ ⟨Nat.zero_le _, Nat.zero_le _⟩ (Nat.le_of_ble_eq_true rfl) dX10_setsOne_31 (fun r_31 σ h_31 => ?_)
        obtain ⟨h_31, e9⟩ := h_31
        rw [e9]
        clear e9 σ
        refine zv_if_ne (tgt := 39) G dX10_setsOne_34 (by decide) (fun c_34 => ?_) (fun c_34 => ?_)
        · have t_31 := h_31.2.mp c_34
          refine zv_aload_n (j := 0) G dX10_setsOne_39 rfl rfl ?_
          refine zv_aload_n (j := 1) G dX10_setsOne_40 rfl rfl ?_
          refine zv_iload_n (j := 2) G dX10_setsOne_41 rfl rfl ?_
          refine zv_iload_n (j := 3) G dX10_setsOne_42 rfl rfl ?_
          refine zv_iconst (v := 1) G dX10_setsOne_43 (by decide) ?_
          refine zv_iload (j := 4) G dX10_setsOne_44 rfl ?_
          refine zv_iload (j := 5) G dX10_setsOne_46 rfl ?_
          refine zv_iload (j := 6) G dX10_setsOne_48 rfl ?_
          refine zv_callVi (as := [za_O 22 q, za_I t, za_I k, za_I 1, za_I v, za_I fd, za_I td]) G (by decide) rfl rfl (zc_X10_turns_atn l E q t k (1 : Int32) v fd td σ0 hq h9 t_1 t_8 t_31) zk_X10_turns zm_1411 rfl ⟨(Nat.le_of_ble_eq_true rfl), (Nat.le_of_ble_eq_true rfl)⟩ ⟨Nat.zero_le _, Nat.zero_le _⟩ (Nat.le_of_ble_eq_true rfl) dX10_setsOne_50 (fun r_50 σ h_50 => ?_)
          refine zv_istore (lv' := [(7, za_I r_50), (0, za_O 19 93), (1, za_O 22 q), (2, za_I t), (3, za_I k), (4, za_I v), (5, za_I fd), (6, za_I td)]) G dX10_setsOne_53 (by decide) rfl ?_
          refine zv_iload (j := 0) G dX10_setsOne_55 rfl ?_
          refine zv_if_ge (tgt := 65) G dX10_setsOne_57 (by decide) (fun c_57 => ?_) (fun c_57 => ?_)
          · exact absurd c_57 (by rw [h_50.1]; decide)
          · have k_57 := z_cnle c_57 (a := 0) (b := r_50.toInt) rfl rfl
            refine zv_iload (j := 0) G dX10_setsOne_60 rfl ?_
            refine zv_goto (tgt := 72) G dX10_setsOne_62 (by decide) ?_
            exact zv_iret G hr dX10_setsOne_72 (by first | exact ⟨wzAn_e ⟨t_1, t_8, v9, t_31⟩ h_50.1, h_50.2⟩)
        · have f_31 := fun q9 => (h_31.2.mpr q9) c_34
          refine zv_iconst (v := (-1)) G dX10_setsOne_37 (by decide) ?_
          exact zv_iret G hr dX10_setsOne_38 ⟨(wzAn_n (fun q => by first | exact f_1 (by first | omega | (rw [z_w]; have hL := z_lL; omega)) | exact f_8 (by first | omega | (rw [z_w]; have hL := z_lL; omega)) | exact f_21 (by first | omega | (rw [z_w]; have hL := z_lL; omega)) | exact f_31 (by first | omega | (rw [z_w]; have hL := z_lL; omega)))), rfl⟩
set_option maxHeartbeats 4000000 in
set_option maxRecDepth 100000 in
theorem zc_X10_refersOne_at0 (l : Launch) (E : za_E) (q : Nat) (k : Int32) (v : Int32) (fd : Int32) (td : Int32) (σ0 : za_S) (hq : q ≠ 101 ∧ q ≠ 93) (h9 : ∀ i, σ0.1 q i = 0) : zMi l E yX10_refersOne cX10_refersOne 7 (Option.some Jvm.ClassFile.FieldType.int) 6 147 [za_O 19 93, za_O 22 q, za_I k, za_I v, za_I fd, za_I td] σ0 (fun r σ' => wzAn ((0 ≤ k.toInt ∧ k.toInt ≤ 9) ∧ (0 ≤ v.toInt ∧ v.toInt ≤ 10) ∧ (0 ≤ fd.toInt ∧ fd.toInt ≤ 99) ∧ fd.toInt < td.toInt ∧ td.toInt ≤ 100) (-2) (-1) r ∧ σ' = σ0) := by
  refine zMi_of [(0, za_O 19 93), (1, za_O 22 q), (2, za_I k), (3, za_I v), (4, za_I fd), (5, za_I td)] (by decide) rfl rfl (Nat.le_of_ble_eq_true rfl) ?_
  intro ho p e s m args below meth c G hr
  have h_q : za_kd q = 22 := za_okO (by decide) (List.forall_mem_cons.mp (List.forall_mem_cons.mp ho).2).1
  refine zv_iload_n (j := 2) G dX10_refersOne_0 rfl rfl ?_
  refine zv_callSi (as := [za_I k]) G (zc_X10_isKey l E k σ0 ) zk_X10_isKey zm_1375 rfl ⟨(Nat.le_of_ble_eq_true rfl), (Nat.le_of_ble_eq_true rfl)⟩ ⟨Nat.zero_le _, Nat.zero_le _⟩ (Nat.le_of_ble_eq_true rfl) dX10_refersOne_1 (fun r_1 σ h_1 => ?_)
  obtain ⟨h_1, e9⟩ := h_1
  rw [e9]
  clear e9 σ
  refine zv_if_eq (tgt := 29) G dX10_refersOne_4 (by decide) (fun c_4 => ?_) (fun c_4 => ?_)
  · have f_1 := fun q9 => (h_1.2.mpr q9) c_4
    refine zv_iconst (v := (-1)) G dX10_refersOne_29 (by decide) ?_
    exact zv_iret G hr dX10_refersOne_30 ⟨(wzAn_n (fun q => by first | exact f_1 (by first | omega | (rw [z_w]; have hL := z_lL; omega)) | exact f_13 (by first | omega | (rw [z_w]; have hL := z_lL; omega)) | exact f_23 (by first | omega | (rw [z_w]; have hL := z_lL; omega)))), rfl⟩
  · have t_1 := h_1.2.mp c_4
    refine zv_iload_n (j := 3) G dX10_refersOne_7 rfl rfl ?_
    refine zv_i2l G dX10_refersOne_8 ?_
    refine zv_lconst (v := 0) G dX10_refersOne_9 (by decide) ?_
    refine zv_ldc2 (v := 10) G dX10_refersOne_10 zm_1434 ?_
    refine zv_callSi (as := [za_L v.toInt64, za_L 0, za_L 10]) G (zc_X10_in l E v.toInt64 0 10 σ0 ) zk_X10_in zm_1184 rfl ⟨(Nat.le_of_ble_eq_true rfl), (Nat.le_of_ble_eq_true rfl)⟩ ⟨Nat.zero_le _, Nat.zero_le _⟩ (Nat.le_of_ble_eq_true rfl) dX10_refersOne_13 (fun r_13 σ h_13 => ?_)
    obtain ⟨h_13, e9⟩ := h_13
    rw [e9]
    clear e9 σ
    refine zv_if_eq (tgt := 29) G dX10_refersOne_16 (by decide) (fun c_16 => ?_) (fun c_16 => ?_)
    · have f_13 := fun q9 => (h_13.2.mpr q9) c_16
      refine zv_iconst (v := (-1)) G dX10_refersOne_29 (by decide) ?_
      exact zv_iret G hr dX10_refersOne_30 ⟨(wzAn_n (fun q => by first | exact f_1 (by first | omega | (rw [z_w]; have hL := z_lL; omega)) | exact f_13 (by first | omega | (rw [z_w]; have hL := z_lL; omega)) | exact f_23 (by first | omega | (rw [z_w]; have hL := z_lL; omega)))), rfl⟩
    · have t_13 := h_13.2.mp c_16
      have v9 := z_v10 t_13
      refine zv_iload (j := 4) G dX10_refersOne_19 rfl ?_
      refine zv_iload (j := 5) G dX10_refersOne_21 rfl ?_
      refine zv_callSi (as := [za_I fd, za_I td]) G (zc_X10_isPeriod l E fd td σ0 ) zk_X10_isPeriod zm_1379 rfl ⟨(Nat.le_of_ble_eq_true rfl), (Nat.le_of_ble_eq_true rfl)⟩ ⟨Nat.zero_le _, Nat.zero_le _⟩ (Nat.le_of_ble_eq_true rfl) dX10_refersOne_23 (fun r_23 σ h_23 => ?_)
      obtain ⟨h_23, e9⟩ := h_23
      rw [e9]
      clear e9 σ
      refine zv_if_ne (tgt := 31) G dX10_refersOne_26 (by decide) (fun c_26 => ?_) (fun c_26 => ?_)
      · have t_23 := h_23.2.mp c_26
        refine zv_aload_n (j := 0) G dX10_refersOne_31 rfl rfl ?_
        refine zv_aload_n (j := 1) G dX10_refersOne_32 rfl rfl ?_
        refine zv_iconst (v := 0) G dX10_refersOne_33 (by decide) ?_
        refine zv_iload_n (j := 2) G dX10_refersOne_34 rfl rfl ?_
        refine zv_iconst (v := 0) G dX10_refersOne_35 (by decide) ?_
        refine zv_iload_n (j := 3) G dX10_refersOne_36 rfl rfl ?_
        refine zv_iload (j := 4) G dX10_refersOne_37 rfl ?_
        refine zv_iload (j := 5) G dX10_refersOne_39 rfl ?_
        refine zv_callVi (as := [za_O 22 q, za_I 0, za_I k, za_I 0, za_I v, za_I fd, za_I td]) G (by decide) rfl rfl (zc_X10_turns_atn l E q (0 : Int32) k (0 : Int32) v fd td σ0 hq h9 (by decide) t_1 t_23) zk_X10_turns zm_1411 rfl ⟨(Nat.le_of_ble_eq_true rfl), (Nat.le_of_ble_eq_true rfl)⟩ ⟨Nat.zero_le _, Nat.zero_le _⟩ (Nat.le_of_ble_eq_true rfl) dX10_refersOne_41 (fun r_41 σ h_41 => ?_)
        refine zv_istore (lv' := [(6, za_I r_41), (0, za_O 19 93), (1, za_O 22 q), (2, za_I k), (3, za_I v), (4, za_I fd), (5, za_I td)]) G dX10_refersOne_44 (by decide) rfl ?_
        refine zv_iload (j := 0) G dX10_refersOne_46 rfl ?_
        refine zv_if_ge (tgt := 56) G dX10_refersOne_48 (by decide) (fun c_48 => ?_) (fun c_48 => ?_)
        · exact absurd c_48 (by rw [h_41.1]; decide)
        · have k_48 := z_cnle c_48 (a := 0) (b := r_41.toInt) rfl rfl
          refine zv_iload (j := 0) G dX10_refersOne_51 rfl ?_
          refine zv_goto (tgt := 78) G dX10_refersOne_53 (by decide) ?_
          exact zv_iret G hr dX10_refersOne_78 ⟨wzAn_e ⟨t_1, v9, t_23⟩ h_41.1, h_41.2⟩
      · have f_23 := fun q9 => (h_23.2.mpr q9) c_26
        refine zv_iconst (v := (-1)) G dX10_refersOne_29 (by decide) ?_
        exact zv_iret G hr dX10_refersOne_30 ⟨(wzAn_n (fun q => by first | exact f_1 (by first | omega | (rw [z_w]; have hL := z_lL; omega)) | exact f_13 (by first | omega | (rw [z_w]; have hL := z_lL; omega)) | exact f_23 (by first | omega | (rw [z_w]; have hL := z_lL; omega)))), rfl⟩
set_option maxHeartbeats 4000000 in
set_option maxRecDepth 100000 in
theorem zc_X10_cutsOne_at0 (l : Launch) (E : za_E) (q : Nat) (t : Int32) (k : Int32) (fd : Int32) (td : Int32) (σ0 : za_S) (hq : q ≠ 101 ∧ q ≠ 93) (h9 : ∀ i, σ0.1 q i = 0) : zMi l E yX10_cutsOne cX10_cutsOne 7 (Option.some Jvm.ClassFile.FieldType.int) 5 115 [za_O 19 93, za_O 22 q, za_I t, za_I k, za_I fd, za_I td] σ0 (fun r σ' => wzAn ((0 ≤ t.toInt ∧ t.toInt ≤ 1) ∧ (0 ≤ k.toInt ∧ k.toInt ≤ 9) ∧ (0 ≤ fd.toInt ∧ fd.toInt ≤ 99) ∧ fd.toInt < td.toInt ∧ td.toInt ≤ 100) (-2) (-1) r ∧ σ' = σ0) := by
  refine zMi_of [(0, za_O 19 93), (1, za_O 22 q), (2, za_I t), (3, za_I k), (4, za_I fd), (5, za_I td)] (by decide) rfl rfl (Nat.le_of_ble_eq_true rfl) ?_
  intro ho p e s m args below meth c G hr
  have h_q : za_kd q = 22 := za_okO (by decide) (List.forall_mem_cons.mp (List.forall_mem_cons.mp ho).2).1
  refine zv_iload_n (j := 2) G dX10_cutsOne_0 rfl rfl ?_
  refine zv_callSi (as := [za_I t]) G (zc_X10_isTable l E t σ0 ) zk_X10_isTable zm_1313 rfl ⟨(Nat.le_of_ble_eq_true rfl), (Nat.le_of_ble_eq_true rfl)⟩ ⟨Nat.zero_le _, Nat.zero_le _⟩ (Nat.le_of_ble_eq_true rfl) dX10_cutsOne_1 (fun r_1 σ h_1 => ?_)
  obtain ⟨h_1, e9⟩ := h_1
  rw [e9]
  clear e9 σ
  refine zv_if_eq (tgt := 24) G dX10_cutsOne_4 (by decide) (fun c_4 => ?_) (fun c_4 => ?_)
  · have f_1 := fun q9 => (h_1.2.mpr q9) c_4
    refine zv_iconst (v := (-1)) G dX10_cutsOne_24 (by decide) ?_
    exact zv_iret G hr dX10_cutsOne_25 ⟨(wzAn_n (fun q => by first | exact f_1 (by first | omega | (rw [z_w]; have hL := z_lL; omega)) | exact f_8 (by first | omega | (rw [z_w]; have hL := z_lL; omega)) | exact f_18 (by first | omega | (rw [z_w]; have hL := z_lL; omega)))), rfl⟩
  · have t_1 := h_1.2.mp c_4
    refine zv_iload_n (j := 3) G dX10_cutsOne_7 rfl rfl ?_
    refine zv_callSi (as := [za_I k]) G (zc_X10_isKey l E k σ0 ) zk_X10_isKey zm_1375 rfl ⟨(Nat.le_of_ble_eq_true rfl), (Nat.le_of_ble_eq_true rfl)⟩ ⟨Nat.zero_le _, Nat.zero_le _⟩ (Nat.le_of_ble_eq_true rfl) dX10_cutsOne_8 (fun r_8 σ h_8 => ?_)
    obtain ⟨h_8, e9⟩ := h_8
    rw [e9]
    clear e9 σ
    refine zv_if_eq (tgt := 24) G dX10_cutsOne_11 (by decide) (fun c_11 => ?_) (fun c_11 => ?_)
    · have f_8 := fun q9 => (h_8.2.mpr q9) c_11
      refine zv_iconst (v := (-1)) G dX10_cutsOne_24 (by decide) ?_
      exact zv_iret G hr dX10_cutsOne_25 ⟨(wzAn_n (fun q => by first | exact f_1 (by first | omega | (rw [z_w]; have hL := z_lL; omega)) | exact f_8 (by first | omega | (rw [z_w]; have hL := z_lL; omega)) | exact f_18 (by first | omega | (rw [z_w]; have hL := z_lL; omega)))), rfl⟩
    · have t_8 := h_8.2.mp c_11
      refine zv_iload (j := 4) G dX10_cutsOne_14 rfl ?_
      refine zv_iload (j := 5) G dX10_cutsOne_16 rfl ?_
      refine zv_callSi (as := [za_I fd, za_I td]) G (zc_X10_isPeriod l E fd td σ0 ) zk_X10_isPeriod zm_1379 rfl ⟨(Nat.le_of_ble_eq_true rfl), (Nat.le_of_ble_eq_true rfl)⟩ ⟨Nat.zero_le _, Nat.zero_le _⟩ (Nat.le_of_ble_eq_true rfl) dX10_cutsOne_18 (fun r_18 σ h_18 => ?_)
      obtain ⟨h_18, e9⟩ := h_18
      rw [e9]
      clear e9 σ
      refine zv_if_ne (tgt := 26) G dX10_cutsOne_21 (by decide) (fun c_21 => ?_) (fun c_21 => ?_)
      · have t_18 := h_18.2.mp c_21
        refine zv_aload_n (j := 1) G dX10_cutsOne_26 rfl rfl ?_
        refine zv_iload_n (j := 2) G dX10_cutsOne_27 rfl rfl ?_
        refine zv_iload_n (j := 3) G dX10_cutsOne_28 rfl rfl ?_
        refine zv_iload (j := 4) G dX10_cutsOne_29 rfl ?_
        refine zv_iload (j := 5) G dX10_cutsOne_31 rfl ?_
        refine zv_callSi (as := [za_O 22 q, za_I t, za_I k, za_I fd, za_I td]) G (zc_X10_rowsIn_at0 l E q t k fd td σ0 t_1 t_8 h9 (by omega)) zk_X10_rowsIn zm_1382 rfl ⟨(Nat.le_of_ble_eq_true rfl), (Nat.le_of_ble_eq_true rfl)⟩ ⟨Nat.zero_le _, Nat.zero_le _⟩ (Nat.le_of_ble_eq_true rfl) dX10_cutsOne_33 (fun r_33 σ h_33 => ?_)
        obtain ⟨h_33, e9⟩ := h_33
        rw [e9]
        clear e9 σ
        refine zv_istore (lv' := [(6, za_I r_33), (0, za_O 19 93), (1, za_O 22 q), (2, za_I t), (3, za_I k), (4, za_I fd), (5, za_I td)]) G dX10_cutsOne_36 (by decide) rfl ?_
        refine zv_iload (j := 0) G dX10_cutsOne_38 rfl ?_
        refine zv_if_ne (tgt := 46) G dX10_cutsOne_40 (by decide) (fun c_40 => ?_) (fun c_40 => ?_)
        · exact absurd h_33 c_40
        · refine zv_bipush (v := (-2)) G dX10_cutsOne_43 (by decide) ?_
          exact zv_iret G hr dX10_cutsOne_45 ⟨wzAn_y ⟨t_1, t_8, t_18⟩, rfl⟩
      · have f_18 := fun q9 => (h_18.2.mpr q9) c_21
        refine zv_iconst (v := (-1)) G dX10_cutsOne_24 (by decide) ?_
        exact zv_iret G hr dX10_cutsOne_25 ⟨(wzAn_n (fun q => by first | exact f_1 (by first | omega | (rw [z_w]; have hL := z_lL; omega)) | exact f_8 (by first | omega | (rw [z_w]; have hL := z_lL; omega)) | exact f_18 (by first | omega | (rw [z_w]; have hL := z_lL; omega)))), rfl⟩
set_option maxHeartbeats 4000000 in
set_option maxRecDepth 100000 in
theorem zc_X10_shiftsOne_at0 (l : Launch) (E : za_E) (q : Nat) (t : Int32) (k : Int32) (sh : Int32) (σ0 : za_S) (hq : q ≠ 101 ∧ q ≠ 93) (h9 : ∀ i, σ0.1 q i = 0) : zMi l E yX10_shiftsOne cX10_shiftsOne 8 (Option.some Jvm.ClassFile.FieldType.int) 5 115 [za_O 19 93, za_O 22 q, za_I t, za_I k, za_I sh] σ0 (fun r σ' => wzAn ((0 ≤ t.toInt ∧ t.toInt ≤ 1) ∧ (0 ≤ k.toInt ∧ k.toInt ≤ 9) ∧ ¬ sh.toInt = 0 ∧ -99 ≤ sh.toInt ∧ sh.toInt ≤ 99) (-2) (-1) r ∧ σ' = σ0) := by
  refine zMi_of [(0, za_O 19 93), (1, za_O 22 q), (2, za_I t), (3, za_I k), (4, za_I sh)] (by decide) rfl rfl (Nat.le_of_ble_eq_true rfl) ?_
  intro ho p e s m args below meth c G hr
  have h_q : za_kd q = 22 := za_okO (by decide) (List.forall_mem_cons.mp (List.forall_mem_cons.mp ho).2).1
  refine zv_iload_n (j := 2) G dX10_shiftsOne_0 rfl rfl ?_
  refine zv_callSi (as := [za_I t]) G (zc_X10_isTable l E t σ0 ) zk_X10_isTable zm_1313 rfl ⟨(Nat.le_of_ble_eq_true rfl), (Nat.le_of_ble_eq_true rfl)⟩ ⟨Nat.zero_le _, Nat.zero_le _⟩ (Nat.le_of_ble_eq_true rfl) dX10_shiftsOne_1 (fun r_1 σ h_1 => ?_)
  obtain ⟨h_1, e9⟩ := h_1
  rw [e9]
  clear e9 σ
  refine zv_if_eq (tgt := 34) G dX10_shiftsOne_4 (by decide) (fun c_4 => ?_) (fun c_4 => ?_)
  · have f_1 := fun q9 => (h_1.2.mpr q9) c_4
    refine zv_iconst (v := (-1)) G dX10_shiftsOne_34 (by decide) ?_
    exact zv_iret G hr dX10_shiftsOne_35 ⟨wzAn_n (fun q => by first | exact f_1 q.1 | exact f_8 q.2.1 | exact f_28 (by rw [z_w]; have hL := z_lL; omega) | omega), rfl⟩
  · have t_1 := h_1.2.mp c_4
    refine zv_iload_n (j := 3) G dX10_shiftsOne_7 rfl rfl ?_
    refine zv_callSi (as := [za_I k]) G (zc_X10_isKey l E k σ0 ) zk_X10_isKey zm_1375 rfl ⟨(Nat.le_of_ble_eq_true rfl), (Nat.le_of_ble_eq_true rfl)⟩ ⟨Nat.zero_le _, Nat.zero_le _⟩ (Nat.le_of_ble_eq_true rfl) dX10_shiftsOne_8 (fun r_8 σ h_8 => ?_)
    obtain ⟨h_8, e9⟩ := h_8
    rw [e9]
    clear e9 σ
    refine zv_if_eq (tgt := 34) G dX10_shiftsOne_11 (by decide) (fun c_11 => ?_) (fun c_11 => ?_)
    · have f_8 := fun q9 => (h_8.2.mpr q9) c_11
      refine zv_iconst (v := (-1)) G dX10_shiftsOne_34 (by decide) ?_
      exact zv_iret G hr dX10_shiftsOne_35 ⟨wzAn_n (fun q => by first | exact f_1 q.1 | exact f_8 q.2.1 | exact f_28 (by rw [z_w]; have hL := z_lL; omega) | omega), rfl⟩
    · have t_8 := h_8.2.mp c_11
      refine zv_iload (j := 4) G dX10_shiftsOne_14 rfl ?_
      refine zv_if_eq (tgt := 34) G dX10_shiftsOne_16 (by decide) (fun c_16 => ?_) (fun c_16 => ?_)
      · have k_16 := z_ceq c_16 (a := sh.toInt) (b := 0) rfl rfl
        refine zv_iconst (v := (-1)) G dX10_shiftsOne_34 (by decide) ?_
        exact zv_iret G hr dX10_shiftsOne_35 ⟨wzAn_n (fun q => by first | exact f_1 q.1 | exact f_8 q.2.1 | exact f_28 (by rw [z_w]; have hL := z_lL; omega) | omega), rfl⟩
      · have k_16 := z_cne c_16 (a := sh.toInt) (b := 0) rfl rfl
        refine zv_iload (j := 4) G dX10_shiftsOne_19 rfl ?_
        refine zv_i2l G dX10_shiftsOne_21 ?_
        refine zv_ldc2 (v := -99) G dX10_shiftsOne_22 zm_1462 ?_
        refine zv_ldc2 (v := 99) G dX10_shiftsOne_25 zm_1330 ?_
        refine zv_callSi (as := [za_L sh.toInt64, za_L (-99), za_L 99]) G (zc_X10_in l E sh.toInt64 (-99) 99 σ0 ) zk_X10_in zm_1184 rfl ⟨(Nat.le_of_ble_eq_true rfl), (Nat.le_of_ble_eq_true rfl)⟩ ⟨Nat.zero_le _, Nat.zero_le _⟩ (Nat.le_of_ble_eq_true rfl) dX10_shiftsOne_28 (fun r_28 σ h_28 => ?_)
        obtain ⟨h_28, e9⟩ := h_28
        rw [e9]
        clear e9 σ
        refine zv_if_ne (tgt := 36) G dX10_shiftsOne_31 (by decide) (fun c_31 => ?_) (fun c_31 => ?_)
        · have t_28 := h_28.2.mp c_31
          have s9 := z_s99 t_28
          refine zv_aload_n (j := 1) G dX10_shiftsOne_36 rfl rfl ?_
          refine zv_iload_n (j := 2) G dX10_shiftsOne_37 rfl rfl ?_
          refine zv_iload_n (j := 3) G dX10_shiftsOne_38 rfl rfl ?_
          refine zv_iconst (v := 0) G dX10_shiftsOne_39 (by decide) ?_
          refine zv_bipush (v := 100) G dX10_shiftsOne_40 (by decide) ?_
          refine zv_callSi (as := [za_O 22 q, za_I t, za_I k, za_I 0, za_I 100]) G (zc_X10_rowsIn_at0 l E q t k (0 : Int32) (100 : Int32) σ0 t_1 t_8 h9 (by decide)) zk_X10_rowsIn zm_1382 rfl ⟨(Nat.le_of_ble_eq_true rfl), (Nat.le_of_ble_eq_true rfl)⟩ ⟨Nat.zero_le _, Nat.zero_le _⟩ (Nat.le_of_ble_eq_true rfl) dX10_shiftsOne_42 (fun r_42 σ h_42 => ?_)
          obtain ⟨h_42, e9⟩ := h_42
          rw [e9]
          clear e9 σ
          refine zv_istore (lv' := [(5, za_I r_42), (0, za_O 19 93), (1, za_O 22 q), (2, za_I t), (3, za_I k), (4, za_I sh)]) G dX10_shiftsOne_45 (by decide) rfl ?_
          refine zv_iload (j := 0) G dX10_shiftsOne_47 rfl ?_
          refine zv_if_ne (tgt := 55) G dX10_shiftsOne_49 (by decide) (fun c_49 => ?_) (fun c_49 => ?_)
          · exact absurd h_42 c_49
          · refine zv_bipush (v := (-2)) G dX10_shiftsOne_52 (by decide) ?_
            exact zv_iret G hr dX10_shiftsOne_54 ⟨wzAn_y ⟨t_1, t_8, k_16, s9.1, s9.2⟩, rfl⟩
        · have f_28 := fun q9 => (h_28.2.mpr q9) c_31
          refine zv_iconst (v := (-1)) G dX10_shiftsOne_34 (by decide) ?_
          exact zv_iret G hr dX10_shiftsOne_35 ⟨wzAn_n (fun q => by first | exact f_1 q.1 | exact f_8 q.2.1 | exact f_28 (by rw [z_w]; have hL := z_lL; omega) | omega), rfl⟩
set_option maxHeartbeats 4000000 in
set_option maxRecDepth 100000 in
theorem zc_X10_joinsAll_at0 (l : Launch) (E : za_E) (q : Nat) (t : Int32) (σ0 : za_S) (ht : 0 ≤ t.toInt ∧ t.toInt ≤ 1) (h9 : ∀ i, σ0.1 q i = 0) : zMi l E yX10_joinsAll cX10_joinsAll 6 (Option.some Jvm.ClassFile.FieldType.int) 5 112 [za_O 22 q, za_I t] σ0 (fun r σ' => r = 0 ∧ σ' = σ0) := by
  refine zMi_of [(0, za_O 22 q), (1, za_I t)] (by decide) rfl rfl (Nat.le_of_ble_eq_true rfl) ?_
  intro ho p e s m args below meth c G hr
  have h_q : za_kd q = 22 := za_okO (by decide) (List.forall_mem_cons.mp ho).1
  refine zv_iconst (v := 0) G dX10_joinsAll_0 (by decide) ?_
  refine zv_istore_n (lv' := [(2, za_I 0), (0, za_O 22 q), (1, za_I t)]) G dX10_joinsAll_1 rfl (by decide) rfl ?_
  refine zv_iconst (v := 0) G dX10_joinsAll_2 (by decide) ?_
  have J_4 : ∀ (n : Nat) (y3_4 : Int32) (i3_4 : 0 ≤ y3_4.toInt) (u3_4 : y3_4.toInt ≤ 10) (hn_4 : (2147483648 - y3_4.toInt).toNat < n), zV p l e (zRm 5 112) s m args below meth c E (za_A E) 6 0 0 (MQ below (va_Qi (fun r σ' => r = 0 ∧ σ' = σ0) (zB E) (za_A E)) args s 0 0 (za_A E)) 4 [(0, za_O 22 q), (1, za_I t), (2, za_I 0), (3, za_I y3_4)] [] σ0 := by
    intro n
    induction n with
    | zero => intro y3_4 i3_4 u3_4 hn; exact absurd hn (Nat.not_lt_zero _)
    | succ n ih_4 =>
      intro y3_4 i3_4 u3_4 hn_4
      refine zv_iload_n (j := 3) G dX10_joinsAll_4 rfl rfl ?_
      refine zv_bipush (v := 10) G dX10_joinsAll_5 (by decide) ?_
      refine zv_icmp_ge (tgt := 138) G dX10_joinsAll_7 (by decide) (fun c_7 => ?_) (fun c_7 => ?_)
      · have k_7 := z_cle c_7 (a := 10) (b := y3_4.toInt) rfl rfl
        refine zv_iload_n (j := 2) G dX10_joinsAll_138 rfl rfl ?_
        exact zv_iret G hr dX10_joinsAll_139 ⟨rfl, rfl⟩
      · have b_7 : 0 ≤ y3_4.toInt ∧ y3_4.toInt < 10 := ⟨i3_4, z_ltk c_7 rfl⟩
        have k_7 := z_cnle c_7 (a := 10) (b := y3_4.toInt) rfl rfl
        refine zv_iconst (v := 1) G dX10_joinsAll_10 (by decide) ?_
        have J_13 : ∀ (n : Nat) (y4_13 : Int32) (i4_13 : 0 ≤ y4_13.toInt) (u4_13 : y4_13.toInt ≤ 100) (hn_13 : (2147483648 - y4_13.toInt).toNat < n), zV p l e (zRm 5 112) s m args below meth c E (za_A E) 6 0 0 (MQ below (va_Qi (fun r σ' => r = 0 ∧ σ' = σ0) (zB E) (za_A E)) args s 0 0 (za_A E)) 13 [(0, za_O 22 q), (1, za_I t), (2, za_I 0), (3, za_I y3_4), (4, za_I y4_13)] [] σ0 := by
          intro n
          induction n with
          | zero => intro y4_13 i4_13 u4_13 hn; exact absurd hn (Nat.not_lt_zero _)
          | succ n ih_13 =>
            intro y4_13 i4_13 u4_13 hn_13
            refine zv_iload (j := 4) G dX10_joinsAll_13 rfl ?_
            refine zv_bipush (v := 100) G dX10_joinsAll_15 (by decide) ?_
            refine zv_icmp_ge (tgt := 132) G dX10_joinsAll_17 (by decide) (fun c_17 => ?_) (fun c_17 => ?_)
            · have k_17 := z_cle c_17 (a := 100) (b := y4_13.toInt) rfl rfl
              obtain ⟨x_132, e_132⟩ : ∃ y : Int32, y = y3_4 + 1 := ⟨_, rfl⟩
              refine zv_iinc (j := 3) (v := x_132) (lv' := [(3, za_I x_132), (0, za_O 22 q), (1, za_I t), (2, za_I 0), (4, za_I y4_13)]) G dX10_joinsAll_132 rfl (by rw [e_132]; rfl) (by decide) rfl ?_
              first | have q_132 := z_inc9 (by omega) e_132 | skip
              refine zv_goto (tgt := 4) G dX10_joinsAll_135 (by decide) ?_
              refine zv_sub [1, 2, 3, 0] (lv' := [(0, za_O 22 q), (1, za_I t), (2, za_I 0), (3, za_I x_132)]) rfl ?_
              exact ih_4 x_132 (by have := z_inc c_7 e_132; omega) (by have := z_inc9 (by omega) e_132; omega) (z_meas c_7 e_132 hn_4)
            · have b_17 : 0 ≤ y4_13.toInt ∧ y4_13.toInt < 100 := ⟨i4_13, z_ltk c_17 rfl⟩
              have k_17 := z_cnle c_17 (a := 100) (b := y4_13.toInt) rfl rfl
              refine zv_aload_n (j := 0) G dX10_joinsAll_20 rfl rfl ?_
              refine zv_iload_n (j := 1) G dX10_joinsAll_21 rfl rfl ?_
              refine zv_iload_n (j := 3) G dX10_joinsAll_22 rfl rfl ?_
              refine zv_iload (j := 4) G dX10_joinsAll_23 rfl ?_
              refine zv_callSi (as := [za_O 22 q, za_I t, za_I y3_4, za_I y4_13]) G (zc_X10_begins_at0 l E q t y3_4 y4_13 σ0 ht (by omega) h9) zk_X10_begins zm_1321 rfl ⟨(Nat.le_of_ble_eq_true rfl), (Nat.le_of_ble_eq_true rfl)⟩ ⟨Nat.zero_le _, Nat.zero_le _⟩ (Nat.le_of_ble_eq_true rfl) dX10_joinsAll_25 (fun r_25 σ h_25 => ?_)
              obtain ⟨h_25, e9⟩ := h_25
              rw [e9]
              clear e9 σ
              refine zv_if_eq (tgt := 90) G dX10_joinsAll_28 (by decide) (fun c_28 => ?_) (fun c_28 => ?_)
              · refine zv_iconst (v := 0) G dX10_joinsAll_90 (by decide) ?_
                refine zv_istore (lv' := [(5, za_I 0), (0, za_O 22 q), (1, za_I t), (2, za_I 0), (3, za_I y3_4), (4, za_I y4_13)]) G dX10_joinsAll_91 (by decide) rfl ?_
                refine zv_iload (j := 0) G dX10_joinsAll_93 rfl ?_
                refine zv_if_eq (tgt := 126) G dX10_joinsAll_95 (by decide) (fun c_95 => ?_) (fun c_95 => ?_)
                · have k_95 := z_ceq c_95 (a := 0) (b := 0) rfl rfl
                  obtain ⟨x_126, e_126⟩ : ∃ y : Int32, y = y4_13 + 1 := ⟨_, rfl⟩
                  refine zv_iinc (j := 5) (v := x_126) (lv' := [(4, za_I x_126), (5, za_I 0), (0, za_O 22 q), (1, za_I t), (2, za_I 0), (3, za_I y3_4)]) G dX10_joinsAll_126 rfl (by rw [e_126]; rfl) (by decide) rfl ?_
                  first | have q_126 := z_inc9 (by omega) e_126 | skip
                  refine zv_goto (tgt := 13) G dX10_joinsAll_129 (by decide) ?_
                  refine zv_sub [2, 3, 4, 5, 0] (lv' := [(0, za_O 22 q), (1, za_I t), (2, za_I 0), (3, za_I y3_4), (4, za_I x_126)]) rfl ?_
                  exact ih_13 x_126 (by have := z_inc c_17 e_126; omega) (by have := z_inc9 (by omega) e_126; omega) (z_meas c_17 e_126 hn_13)
                · exact absurd c_95 (by decide)
              · exact absurd h_25 c_28
        refine zv_istore (lv' := [(4, za_I 1), (0, za_O 22 q), (1, za_I t), (2, za_I 0), (3, za_I y3_4)]) G dX10_joinsAll_11 (by decide) rfl ?_
        refine zv_sub [1, 2, 3, 4, 0] (lv' := [(0, za_O 22 q), (1, za_I t), (2, za_I 0), (3, za_I y3_4), (4, za_I 1)]) rfl ?_
        exact J_13 _ (1 : Int32) (by decide) (by decide) (Nat.lt_succ_self _)
  refine zv_istore_n (lv' := [(3, za_I 0), (2, za_I 0), (0, za_O 22 q), (1, za_I t)]) G dX10_joinsAll_3 rfl (by decide) rfl ?_
  refine zv_sub [2, 3, 1, 0] (lv' := [(0, za_O 22 q), (1, za_I t), (2, za_I 0), (3, za_I 0)]) rfl ?_
  exact J_4 _ (0 : Int32) (by decide) (by decide) (Nat.lt_succ_self _)
set_option maxHeartbeats 4000000 in
set_option maxRecDepth 100000 in
theorem zc_X10_numberOf_at0 (l : Launch) (E : za_E) (q : Nat) (t : Int32) (k : Int32) (d : Int32) (σ : za_S) (ht : 0 ≤ t.toInt ∧ t.toInt ≤ 1) (hk : 0 ≤ k.toInt ∧ k.toInt ≤ 9) (h9 : ∀ k' d' : Int32, (0 ≤ k'.toInt ∧ k'.toInt ≤ 9) → (k'.toInt < k.toInt ∨ d'.toInt < d.toInt) → ¬ zbg (σ.1 q) t k' d') : zMi l E yX10_numberOf cX10_numberOf 7 (Option.some Jvm.ClassFile.FieldType.int) 5 112 [za_O 22 q, za_I t, za_I k, za_I d] σ (fun r σ' => (r = 0) ∧ σ' = σ) := by
  refine zMi_of [(0, za_O 22 q), (1, za_I t), (2, za_I k), (3, za_I d)] (by decide) rfl rfl (Nat.le_of_ble_eq_true rfl) ?_
  intro ho p e s m args below meth c G hr
  have h_q : za_kd q = 22 := za_okO (by decide) (List.forall_mem_cons.mp ho).1
  refine zv_iconst (v := 0) G dX10_numberOf_0 (by decide) ?_
  refine zv_istore (lv' := [(4, za_I 0), (0, za_O 22 q), (1, za_I t), (2, za_I k), (3, za_I d)]) G dX10_numberOf_1 (by decide) rfl ?_
  refine zv_iconst (v := 0) G dX10_numberOf_3 (by decide) ?_
  have J_6 : ∀ (n : Nat) (y4_6 : Int32) (y5_6 : Int32) (s_6 : y4_6 = 0) (l_6 : y5_6.toInt ≤ 10) (i5_6 : 0 ≤ y5_6.toInt) (hn_6 : (10 - y5_6.toInt).toNat < n), zV p l e (zRm 5 112) s m args below meth c E (za_A E) 7 0 0 (MQ below (va_Qi (fun r σ' => (r = 0) ∧ σ' = σ) (zB E) (za_A E)) args s 0 0 (za_A E)) 6 [(0, za_O 22 q), (1, za_I t), (2, za_I k), (3, za_I d), (4, za_I y4_6), (5, za_I y5_6)] [] σ := by
    intro n
    induction n with
    | zero => intro y4_6 y5_6 s_6 l_6 i5_6 hn; exact absurd hn (Nat.not_lt_zero _)
    | succ n ih_6 =>
      intro y4_6 y5_6 s_6 l_6 i5_6 hn_6
      refine zv_iload (j := 5) G dX10_numberOf_6 rfl ?_
      refine zv_iload_n (j := 2) G dX10_numberOf_8 rfl rfl ?_
      refine zv_icmp_gt (tgt := 71) G dX10_numberOf_9 (by decide) (fun c_9 => ?_) (fun c_9 => ?_)
      · have k_9 := z_clt c_9 (a := k.toInt) (b := y5_6.toInt) rfl rfl
        refine zv_iload (j := 4) G dX10_numberOf_71 rfl ?_
        exact zv_iret G hr dX10_numberOf_73 ⟨s_6, rfl⟩
      · have k_9 := z_cnlt c_9 (a := k.toInt) (b := y5_6.toInt) rfl rfl
        refine zv_iconst (v := 0) G dX10_numberOf_12 (by decide) ?_
        have J_15 : ∀ (n : Nat) (y4_15 : Int32) (y6_15 : Int32) (s_15 : y4_15 = 0) (i6_15 : 0 ≤ y6_15.toInt) (u6_15 : y6_15.toInt ≤ 100) (hn_15 : (2147483648 - y6_15.toInt).toNat < n), zV p l e (zRm 5 112) s m args below meth c E (za_A E) 7 0 0 (MQ below (va_Qi (fun r σ' => (r = 0) ∧ σ' = σ) (zB E) (za_A E)) args s 0 0 (za_A E)) 15 [(0, za_O 22 q), (1, za_I t), (2, za_I k), (3, za_I d), (4, za_I y4_15), (5, za_I y5_6), (6, za_I y6_15)] [] σ := by
          intro n
          induction n with
          | zero => intro y4_15 y6_15 s_15 i6_15 u6_15 hn; exact absurd hn (Nat.not_lt_zero _)
          | succ n ih_15 =>
            intro y4_15 y6_15 s_15 i6_15 u6_15 hn_15
            refine zv_iload (j := 6) G dX10_numberOf_15 rfl ?_
            refine zv_bipush (v := 100) G dX10_numberOf_17 (by decide) ?_
            refine zv_icmp_ge (tgt := 65) G dX10_numberOf_19 (by decide) (fun c_19 => ?_) (fun c_19 => ?_)
            · have k_19 := z_cle c_19 (a := 100) (b := y6_15.toInt) rfl rfl
              obtain ⟨x_65, e_65⟩ : ∃ y : Int32, y = y5_6 + 1 := ⟨_, rfl⟩
              refine zv_iinc (j := 5) (v := x_65) (lv' := [(5, za_I x_65), (0, za_O 22 q), (1, za_I t), (2, za_I k), (3, za_I d), (4, za_I y4_15), (6, za_I y6_15)]) G dX10_numberOf_65 rfl (by rw [e_65]; rfl) (by decide) rfl ?_
              first | have q_65 := z_inc9 (by omega) e_65 | skip
              refine zv_goto (tgt := 6) G dX10_numberOf_68 (by decide) ?_
              refine zv_sub [1, 2, 3, 4, 5, 0] (lv' := [(0, za_O 22 q), (1, za_I t), (2, za_I k), (3, za_I d), (4, za_I y4_15), (5, za_I x_65)]) rfl ?_
              exact ih_6 y4_15 x_65 s_15 (by omega) (by have := z_inc9 (by omega) e_65; omega) (by omega)
            · have b_19 : 0 ≤ y6_15.toInt ∧ y6_15.toInt < 100 := ⟨i6_15, z_ltk c_19 rfl⟩
              have k_19 := z_cnle c_19 (a := 100) (b := y6_15.toInt) rfl rfl
              refine zv_iload (j := 4) G dX10_numberOf_22 rfl ?_
              refine zv_iload (j := 5) G dX10_numberOf_24 rfl ?_
              refine zv_iload_n (j := 2) G dX10_numberOf_26 rfl rfl ?_
              refine zv_icmp_lt (tgt := 36) G dX10_numberOf_27 (by decide) (fun c_27 => ?_) (fun c_27 => ?_)
              · have k_27 := z_clt c_27 (a := y5_6.toInt) (b := k.toInt) rfl rfl
                refine zv_aload_n (j := 0) G dX10_numberOf_36 rfl rfl ?_
                refine zv_iload_n (j := 1) G dX10_numberOf_37 rfl rfl ?_
                refine zv_iload (j := 5) G dX10_numberOf_38 rfl ?_
                refine zv_iload (j := 6) G dX10_numberOf_40 rfl ?_
                refine zv_callSi (as := [za_O 22 q, za_I t, za_I y5_6, za_I y6_15]) G (zc_X10_begins l E q t y5_6 y6_15 σ ht (by omega)) zk_X10_begins zm_1321 rfl ⟨(Nat.le_of_ble_eq_true rfl), (Nat.le_of_ble_eq_true rfl)⟩ ⟨Nat.zero_le _, Nat.zero_le _⟩ (Nat.le_of_ble_eq_true rfl) dX10_numberOf_42 (fun r_42 σ h_42 => ?_)
                obtain ⟨h_42, rfl⟩ := h_42
                refine zv_if_eq (tgt := 52) G dX10_numberOf_45 (by decide) (fun c_45 => ?_) (fun c_45 => ?_)
                · have f_42 := fun q9 => (h_42.2.mpr q9) c_45
                  refine zv_iconst (v := 0) G dX10_numberOf_52 (by decide) ?_
                  refine zv_callSi (as := [za_I 0]) G (zc_X10_flag_at0 l E  σ ) zk_X10_flag zm_1355 rfl ⟨(Nat.le_of_ble_eq_true rfl), (Nat.le_of_ble_eq_true rfl)⟩ ⟨Nat.zero_le _, Nat.zero_le _⟩ (Nat.le_of_ble_eq_true rfl) dX10_numberOf_53 (fun r_53 σ h_53 => ?_)
                  obtain ⟨h_53, rfl⟩ := h_53
                  subst h_53
                  refine zv_iadd G dX10_numberOf_56 ?_
                  refine zv_top (fun x_57 e_57 => ?_)
                  first | have q_57 := z_addf e_57 (a := y4_15.toInt) (b := 0) rfl rfl (by omega) (by omega) | skip
                  refine zv_istore (lv' := [(4, za_I x_57), (0, za_O 22 q), (1, za_I t), (2, za_I k), (3, za_I d), (5, za_I y5_6), (6, za_I y6_15)]) G dX10_numberOf_57 (by decide) rfl ?_
                  obtain ⟨x_59, e_59⟩ : ∃ y : Int32, y = y6_15 + 1 := ⟨_, rfl⟩
                  refine zv_iinc (j := 6) (v := x_59) (lv' := [(6, za_I x_59), (4, za_I x_57), (0, za_O 22 q), (1, za_I t), (2, za_I k), (3, za_I d), (5, za_I y5_6)]) G dX10_numberOf_59 rfl (by rw [e_59]; rfl) (by decide) rfl ?_
                  first | have q_59 := z_inc9 (by omega) e_59 | skip
                  refine zv_goto (tgt := 15) G dX10_numberOf_62 (by decide) ?_
                  refine zv_sub [2, 3, 4, 5, 1, 6, 0] (lv' := [(0, za_O 22 q), (1, za_I t), (2, za_I k), (3, za_I d), (4, za_I x_57), (5, za_I y5_6), (6, za_I x_59)]) rfl ?_
                  exact ih_15 x_57 x_59 (by rw [e_57, s_15]; decide) (by have := z_inc c_19 e_59; omega) (by have := z_inc9 (by omega) e_59; omega) (z_meas c_19 e_59 hn_15)
                · exact absurd (h_42.2.mp c_45) (h9 _ _ (by omega) (by omega))
              · have k_27 := z_cnlt c_27 (a := y5_6.toInt) (b := k.toInt) rfl rfl
                refine zv_iload (j := 6) G dX10_numberOf_30 rfl ?_
                refine zv_iload_n (j := 3) G dX10_numberOf_32 rfl rfl ?_
                refine zv_icmp_ge (tgt := 52) G dX10_numberOf_33 (by decide) (fun c_33 => ?_) (fun c_33 => ?_)
                · have k_33 := z_cle c_33 (a := d.toInt) (b := y6_15.toInt) rfl rfl
                  refine zv_iconst (v := 0) G dX10_numberOf_52 (by decide) ?_
                  refine zv_callSi (as := [za_I 0]) G (zc_X10_flag_at0 l E  σ ) zk_X10_flag zm_1355 rfl ⟨(Nat.le_of_ble_eq_true rfl), (Nat.le_of_ble_eq_true rfl)⟩ ⟨Nat.zero_le _, Nat.zero_le _⟩ (Nat.le_of_ble_eq_true rfl) dX10_numberOf_53 (fun r_53 σ h_53 => ?_)
                  obtain ⟨h_53, rfl⟩ := h_53
                  subst h_53
                  refine zv_iadd G dX10_numberOf_56 ?_
                  refine zv_top (fun x_57 e_57 => ?_)
                  first | have q_57 := z_addf e_57 (a := y4_15.toInt) (b := 0) rfl rfl (by omega) (by omega) | skip
                  refine zv_istore (lv' := [(4, za_I x_57), (0, za_O 22 q), (1, za_I t), (2, za_I k), (3, za_I d), (5, za_I y5_6), (6, za_I y6_15)]) G dX10_numberOf_57 (by decide) rfl ?_
                  obtain ⟨x_59, e_59⟩ : ∃ y : Int32, y = y6_15 + 1 := ⟨_, rfl⟩
                  refine zv_iinc (j := 6) (v := x_59) (lv' := [(6, za_I x_59), (4, za_I x_57), (0, za_O 22 q), (1, za_I t), (2, za_I k), (3, za_I d), (5, za_I y5_6)]) G dX10_numberOf_59 rfl (by rw [e_59]; rfl) (by decide) rfl ?_
                  first | have q_59 := z_inc9 (by omega) e_59 | skip
                  refine zv_goto (tgt := 15) G dX10_numberOf_62 (by decide) ?_
                  refine zv_sub [2, 3, 4, 5, 1, 6, 0] (lv' := [(0, za_O 22 q), (1, za_I t), (2, za_I k), (3, za_I d), (4, za_I x_57), (5, za_I y5_6), (6, za_I x_59)]) rfl ?_
                  exact ih_15 x_57 x_59 (by rw [e_57, s_15]; decide) (by have := z_inc c_19 e_59; omega) (by have := z_inc9 (by omega) e_59; omega) (z_meas c_19 e_59 hn_15)
                · have k_33 := z_cnle c_33 (a := d.toInt) (b := y6_15.toInt) rfl rfl
                  refine zv_aload_n (j := 0) G dX10_numberOf_36 rfl rfl ?_
                  refine zv_iload_n (j := 1) G dX10_numberOf_37 rfl rfl ?_
                  refine zv_iload (j := 5) G dX10_numberOf_38 rfl ?_
                  refine zv_iload (j := 6) G dX10_numberOf_40 rfl ?_
                  refine zv_callSi (as := [za_O 22 q, za_I t, za_I y5_6, za_I y6_15]) G (zc_X10_begins l E q t y5_6 y6_15 σ ht (by omega)) zk_X10_begins zm_1321 rfl ⟨(Nat.le_of_ble_eq_true rfl), (Nat.le_of_ble_eq_true rfl)⟩ ⟨Nat.zero_le _, Nat.zero_le _⟩ (Nat.le_of_ble_eq_true rfl) dX10_numberOf_42 (fun r_42 σ h_42 => ?_)
                  obtain ⟨h_42, rfl⟩ := h_42
                  refine zv_if_eq (tgt := 52) G dX10_numberOf_45 (by decide) (fun c_45 => ?_) (fun c_45 => ?_)
                  · have f_42 := fun q9 => (h_42.2.mpr q9) c_45
                    refine zv_iconst (v := 0) G dX10_numberOf_52 (by decide) ?_
                    refine zv_callSi (as := [za_I 0]) G (zc_X10_flag_at0 l E  σ ) zk_X10_flag zm_1355 rfl ⟨(Nat.le_of_ble_eq_true rfl), (Nat.le_of_ble_eq_true rfl)⟩ ⟨Nat.zero_le _, Nat.zero_le _⟩ (Nat.le_of_ble_eq_true rfl) dX10_numberOf_53 (fun r_53 σ h_53 => ?_)
                    obtain ⟨h_53, rfl⟩ := h_53
                    subst h_53
                    refine zv_iadd G dX10_numberOf_56 ?_
                    refine zv_top (fun x_57 e_57 => ?_)
                    first | have q_57 := z_addf e_57 (a := y4_15.toInt) (b := 0) rfl rfl (by omega) (by omega) | skip
                    refine zv_istore (lv' := [(4, za_I x_57), (0, za_O 22 q), (1, za_I t), (2, za_I k), (3, za_I d), (5, za_I y5_6), (6, za_I y6_15)]) G dX10_numberOf_57 (by decide) rfl ?_
                    obtain ⟨x_59, e_59⟩ : ∃ y : Int32, y = y6_15 + 1 := ⟨_, rfl⟩
                    refine zv_iinc (j := 6) (v := x_59) (lv' := [(6, za_I x_59), (4, za_I x_57), (0, za_O 22 q), (1, za_I t), (2, za_I k), (3, za_I d), (5, za_I y5_6)]) G dX10_numberOf_59 rfl (by rw [e_59]; rfl) (by decide) rfl ?_
                    first | have q_59 := z_inc9 (by omega) e_59 | skip
                    refine zv_goto (tgt := 15) G dX10_numberOf_62 (by decide) ?_
                    refine zv_sub [2, 3, 4, 5, 1, 6, 0] (lv' := [(0, za_O 22 q), (1, za_I t), (2, za_I k), (3, za_I d), (4, za_I x_57), (5, za_I y5_6), (6, za_I x_59)]) rfl ?_
                    exact ih_15 x_57 x_59 (by rw [e_57, s_15]; decide) (by have := z_inc c_19 e_59; omega) (by have := z_inc9 (by omega) e_59; omega) (z_meas c_19 e_59 hn_15)
                  · exact absurd (h_42.2.mp c_45) (h9 _ _ (by omega) (by omega))
        refine zv_istore (lv' := [(6, za_I 0), (0, za_O 22 q), (1, za_I t), (2, za_I k), (3, za_I d), (4, za_I y4_6), (5, za_I y5_6)]) G dX10_numberOf_13 (by decide) rfl ?_
        refine zv_sub [1, 2, 3, 4, 5, 6, 0] (lv' := [(0, za_O 22 q), (1, za_I t), (2, za_I k), (3, za_I d), (4, za_I y4_6), (5, za_I y5_6), (6, za_I 0)]) rfl ?_
        exact J_15 _ y4_6 (0 : Int32) s_6 (by decide) (by decide) (Nat.lt_succ_self _)
  refine zv_istore (lv' := [(5, za_I 0), (4, za_I 0), (0, za_O 22 q), (1, za_I t), (2, za_I k), (3, za_I d)]) G dX10_numberOf_4 (by decide) rfl ?_
  refine zv_sub [2, 3, 4, 5, 1, 0] (lv' := [(0, za_O 22 q), (1, za_I t), (2, za_I k), (3, za_I d), (4, za_I 0), (5, za_I 0)]) rfl ?_
  exact J_6 _ (0 : Int32) (0 : Int32) rfl (by decide) (by decide) (Nat.lt_succ_self _)
set_option maxHeartbeats 4000000 in
set_option maxRecDepth 100000 in
theorem zc_X10_addsOne_at0 (l : Launch) (E : za_E) (q : Nat) (t : Int32) (k : Int32) (v : Int32) (fd : Int32) (td : Int32) (σ0 : za_S) (hq : q ≠ 101 ∧ q ≠ 93) (h9 : ∀ i, σ0.1 q i = 0) : zMi l E yX10_addsOne cX10_addsOne 8 (Option.some Jvm.ClassFile.FieldType.int) 7 158 [za_O 19 93, za_O 22 q, za_I t, za_I k, za_I v, za_I fd, za_I td] σ0 (fun r σ' => wzAn ((0 ≤ t.toInt ∧ t.toInt ≤ 1) ∧ (0 ≤ k.toInt ∧ k.toInt ≤ 9) ∧ (0 ≤ v.toInt ∧ v.toInt ≤ 99) ∧ (0 ≤ fd.toInt ∧ fd.toInt ≤ 99) ∧ fd.toInt < td.toInt ∧ td.toInt ≤ 100) 0 (-1) r ∧ σ'.1 93 17 = σ0.1 93 17) := by
  refine zMi_of [(0, za_O 19 93), (1, za_O 22 q), (2, za_I t), (3, za_I k), (4, za_I v), (5, za_I fd), (6, za_I td)] (by decide) rfl rfl (Nat.le_of_ble_eq_true rfl) ?_
  intro ho p e s m args below meth c G hr
  have h_q : za_kd q = 22 := za_okO (by decide) (List.forall_mem_cons.mp (List.forall_mem_cons.mp ho).2).1
  refine zv_gen (R9 := (zfx 101 σ0)) (zfx_r 101 σ0) (fun σ hz => ?_)
  refine zv_iload_n (j := 2) G dX10_addsOne_0 rfl rfl ?_
  refine zv_callSi (as := [za_I t]) G (zc_X10_isTable l E t σ ) zk_X10_isTable zm_1313 rfl ⟨(Nat.le_of_ble_eq_true rfl), (Nat.le_of_ble_eq_true rfl)⟩ ⟨Nat.zero_le _, Nat.zero_le _⟩ (Nat.le_of_ble_eq_true rfl) dX10_addsOne_1 (fun r_1 σ h_1 => ?_)
  obtain ⟨h_1, rfl⟩ := h_1
  refine zv_if_eq (tgt := 37) G dX10_addsOne_4 (by decide) (fun c_4 => ?_) (fun c_4 => ?_)
  · have f_1 := fun q9 => (h_1.2.mpr q9) c_4
    refine zv_iconst (v := (-1)) G dX10_addsOne_37 (by decide) ?_
    exact zv_iret G hr dX10_addsOne_38 ⟨(wzAn_n (fun q => by first | exact f_1 (by first | omega | (rw [z_w]; have hL := z_lL; omega)) | exact f_8 (by first | omega | (rw [z_w]; have hL := z_lL; omega)) | exact f_21 (by first | omega | (rw [z_w]; have hL := z_lL; omega)) | exact f_31 (by first | omega | (rw [z_w]; have hL := z_lL; omega)))), hz.2.2 17 (by decide) (by decide)⟩
  · have t_1 := h_1.2.mp c_4
    refine zv_iload_n (j := 3) G dX10_addsOne_7 rfl rfl ?_
    refine zv_callSi (as := [za_I k]) G (zc_X10_isKey l E k σ ) zk_X10_isKey zm_1375 rfl ⟨(Nat.le_of_ble_eq_true rfl), (Nat.le_of_ble_eq_true rfl)⟩ ⟨Nat.zero_le _, Nat.zero_le _⟩ (Nat.le_of_ble_eq_true rfl) dX10_addsOne_8 (fun r_8 σ h_8 => ?_)
    obtain ⟨h_8, rfl⟩ := h_8
    refine zv_if_eq (tgt := 37) G dX10_addsOne_11 (by decide) (fun c_11 => ?_) (fun c_11 => ?_)
    · have f_8 := fun q9 => (h_8.2.mpr q9) c_11
      refine zv_iconst (v := (-1)) G dX10_addsOne_37 (by decide) ?_
      exact zv_iret G hr dX10_addsOne_38 ⟨(wzAn_n (fun q => by first | exact f_1 (by first | omega | (rw [z_w]; have hL := z_lL; omega)) | exact f_8 (by first | omega | (rw [z_w]; have hL := z_lL; omega)) | exact f_21 (by first | omega | (rw [z_w]; have hL := z_lL; omega)) | exact f_31 (by first | omega | (rw [z_w]; have hL := z_lL; omega)))), hz.2.2 17 (by decide) (by decide)⟩
    · have t_8 := h_8.2.mp c_11
      refine zv_iload (j := 4) G dX10_addsOne_14 rfl ?_
      refine zv_i2l G dX10_addsOne_16 ?_
      refine zv_lconst (v := 0) G dX10_addsOne_17 (by decide) ?_
      refine zv_ldc2 (v := 99) G dX10_addsOne_18 zm_1330 ?_
      refine zv_callSi (as := [za_L v.toInt64, za_L 0, za_L 99]) G (zc_X10_in l E v.toInt64 0 99 σ ) zk_X10_in zm_1184 rfl ⟨(Nat.le_of_ble_eq_true rfl), (Nat.le_of_ble_eq_true rfl)⟩ ⟨Nat.zero_le _, Nat.zero_le _⟩ (Nat.le_of_ble_eq_true rfl) dX10_addsOne_21 (fun r_21 σ h_21 => ?_)
      obtain ⟨h_21, rfl⟩ := h_21
      refine zv_if_eq (tgt := 37) G dX10_addsOne_24 (by decide) (fun c_24 => ?_) (fun c_24 => ?_)
      · have f_21 := fun q9 => (h_21.2.mpr q9) c_24
        refine zv_iconst (v := (-1)) G dX10_addsOne_37 (by decide) ?_
        exact zv_iret G hr dX10_addsOne_38 ⟨(wzAn_n (fun q => by first | exact f_1 (by first | omega | (rw [z_w]; have hL := z_lL; omega)) | exact f_8 (by first | omega | (rw [z_w]; have hL := z_lL; omega)) | exact f_21 (by first | omega | (rw [z_w]; have hL := z_lL; omega)) | exact f_31 (by first | omega | (rw [z_w]; have hL := z_lL; omega)))), hz.2.2 17 (by decide) (by decide)⟩
      · have t_21 := h_21.2.mp c_24
        have v9 := z_v99 t_21
        refine zv_iload (j := 5) G dX10_addsOne_27 rfl ?_
        refine zv_iload (j := 6) G dX10_addsOne_29 rfl ?_
        refine zv_callSi (as := [za_I fd, za_I td]) G (zc_X10_isPeriod l E fd td σ ) zk_X10_isPeriod zm_1379 rfl ⟨(Nat.le_of_ble_eq_true rfl), (Nat.le_of_ble_eq_true rfl)⟩ ⟨Nat.zero_le _, Nat.zero_le _⟩ (Nat.le_of_ble_eq_true rfl) dX10_addsOne_31 (fun r_31 σ h_31 => ?_)
        obtain ⟨h_31, rfl⟩ := h_31
        refine zv_if_ne (tgt := 39) G dX10_addsOne_34 (by decide) (fun c_34 => ?_) (fun c_34 => ?_)
        · have t_31 := h_31.2.mp c_34
          refine zv_aload_n (j := 1) G dX10_addsOne_39 rfl rfl ?_
          refine zv_iload_n (j := 2) G dX10_addsOne_40 rfl rfl ?_
          refine zv_iload_n (j := 3) G dX10_addsOne_41 rfl rfl ?_
          refine zv_iload (j := 5) G dX10_addsOne_42 rfl ?_
          refine zv_iload (j := 6) G dX10_addsOne_44 rfl ?_
          refine zv_callSi (as := [za_O 22 q, za_I t, za_I k, za_I fd, za_I td]) G (zc_X10_rowsIn_at0 l E q t k fd td σ t_1 t_8 (by rw [zfx_q hq hz]; exact h9) (by omega)) zk_X10_rowsIn zm_1382 rfl ⟨(Nat.le_of_ble_eq_true rfl), (Nat.le_of_ble_eq_true rfl)⟩ ⟨Nat.zero_le _, Nat.zero_le _⟩ (Nat.le_of_ble_eq_true rfl) dX10_addsOne_46 (fun r_46 σ h_46 => ?_)
          obtain ⟨h_46, rfl⟩ := h_46
          subst h_46
          refine zv_if_le (tgt := 55) G dX10_addsOne_49 (by decide) (fun c_49 => ?_) (fun c_49 => ?_)
          · have k_49 := z_cle c_49 (a := 0) (b := 0) rfl rfl
            refine zv_aload_n (j := 1) G dX10_addsOne_55 rfl rfl ?_
            refine zv_aload_n (j := 0) G dX10_addsOne_56 rfl rfl ?_
            refine zg_X10_124 G dX10_addsOne_57 ?_
            refine zv_callSv (as := [za_O 22 q, za_O 22 101]) G (zc_X10_copiesTo l E q 101 σ ) zk_X10_copiesTo zm_1385 rfl ⟨(Nat.le_of_ble_eq_true rfl), (Nat.le_of_ble_eq_true rfl)⟩ ⟨Nat.zero_le _, Nat.zero_le _⟩ (Nat.le_of_ble_eq_true rfl) dX10_addsOne_60 (fun σ h_60 => ?_)
            have hz : wzlx q t k v fd fd σ0 σ := wzlx_0 hq hz h_60 t_1 t_8
            refine zv_iload (j := 5) G dX10_addsOne_63 rfl ?_
            have J_67 : ∀ (n : Nat) (y7_67 : Int32) (σ : za_S) (hz : wzlx q t k v fd y7_67 σ0 σ) (g_67 : fd.toInt ≤ y7_67.toInt ∧ y7_67.toInt ≤ td.toInt) (i7_67 : 0 ≤ y7_67.toInt) (hn_67 : (2147483648 - y7_67.toInt).toNat < n), zV p l e (zRm 7 158) s m args below meth c E (za_A E) 8 0 0 (MQ below (va_Qi (fun r σ' => wzAn ((0 ≤ t.toInt ∧ t.toInt ≤ 1) ∧ (0 ≤ k.toInt ∧ k.toInt ≤ 9) ∧ (0 ≤ v.toInt ∧ v.toInt ≤ 99) ∧ (0 ≤ fd.toInt ∧ fd.toInt ≤ 99) ∧ fd.toInt < td.toInt ∧ td.toInt ≤ 100) 0 (-1) r ∧ σ'.1 93 17 = σ0.1 93 17) (zB E) (za_A E)) args s 0 0 (za_A E)) 67 [(0, za_O 19 93), (1, za_O 22 q), (2, za_I t), (3, za_I k), (4, za_I v), (5, za_I fd), (6, za_I td), (7, za_I y7_67)] [] σ := by
              intro n
              induction n with
              | zero => intro y7_67 σ hz g_67 i7_67 hn; exact absurd hn (Nat.not_lt_zero _)
              | succ n ih_67 =>
                intro y7_67 σ hz g_67 i7_67 hn_67
                refine zv_iload (j := 7) G dX10_addsOne_67 rfl ?_
                refine zv_iload (j := 6) G dX10_addsOne_69 rfl ?_
                refine zv_icmp_ge (tgt := 107) G dX10_addsOne_71 (by decide) (fun c_71 => ?_) (fun c_71 => ?_)
                · have k_71 := z_cle c_71 (a := td.toInt) (b := y7_67.toInt) rfl rfl
                  have hG9 := wzn_b h9 t_1 t_8 v9 t_31 (wzlx_e (m := td) hz (by omega)).2
                  refine zv_aload_n (j := 0) G dX10_addsOne_107 rfl rfl ?_
                  refine zv_aload_n (j := 1) G dX10_addsOne_108 rfl rfl ?_
                  refine zv_aload_n (j := 0) G dX10_addsOne_109 rfl rfl ?_
                  refine zg_X10_124 G dX10_addsOne_110 ?_
                  refine zv_iload_n (j := 2) G dX10_addsOne_113 rfl rfl ?_
                  refine zv_iload_n (j := 3) G dX10_addsOne_114 rfl rfl ?_
                  refine zv_iload (j := 5) G dX10_addsOne_115 rfl ?_
                  refine zv_callSi (as := [za_O 22 101, za_I t, za_I k, za_I fd]) G (zc_X10_numberOf_at0 l E 101 t k fd σ t_1 t_8 hG9.2) zk_X10_numberOf zm_1388 rfl ⟨(Nat.le_of_ble_eq_true rfl), (Nat.le_of_ble_eq_true rfl)⟩ ⟨Nat.zero_le _, Nat.zero_le _⟩ (Nat.le_of_ble_eq_true rfl) dX10_addsOne_117 (fun r_117 σ h_117 => ?_)
                  obtain ⟨h_117, rfl⟩ := h_117
                  refine zv_callVi (as := [za_O 22 q, za_I r_117]) G (by decide) rfl rfl (zc_X10_settles_atx l E q r_117 σ ) zk_X10_settles zm_1391 rfl ⟨(Nat.le_of_ble_eq_true rfl), (Nat.le_of_ble_eq_true rfl)⟩ ⟨Nat.zero_le _, Nat.zero_le _⟩ (Nat.le_of_ble_eq_true rfl) dX10_addsOne_120 (fun r_120 σ h_120 => ?_)
                  have k120 := h_120
                  have hz := (wzfr9_s hq rfl hz.1 h_120).1
                  exact zv_iret G hr dX10_addsOne_123 ⟨wzAn_e ⟨t_1, t_8, v9, t_31⟩ (wzse0 hG9.1 h_117 k120), hz.2.2 17 (by decide) (by decide)⟩
                · have k_71 := z_cnle c_71 (a := td.toInt) (b := y7_67.toInt) rfl rfl
                  refine zv_aload_n (j := 0) G dX10_addsOne_74 rfl rfl ?_
                  refine zg_X10_124 G dX10_addsOne_75 ?_
                  refine zv_iload_n (j := 2) G dX10_addsOne_78 rfl rfl ?_
                  refine zv_iload_n (j := 3) G dX10_addsOne_79 rfl rfl ?_
                  refine zv_iload (j := 7) G dX10_addsOne_80 rfl ?_
                  refine zv_iload (j := 4) G dX10_addsOne_82 rfl ?_
                  refine zv_bipush (v := 10) G dX10_addsOne_84 (by decide) ?_
                  refine zv_iload (j := 7) G dX10_addsOne_86 rfl ?_
                  refine zv_iload (j := 5) G dX10_addsOne_88 rfl ?_
                  refine zv_icmp_ne (tgt := 97) G dX10_addsOne_90 (by decide) (fun c_90 => ?_) (fun c_90 => ?_)
                  · have k_90 := z_cne c_90 (a := y7_67.toInt) (b := fd.toInt) rfl rfl
                    refine zv_iconst (v := 0) G dX10_addsOne_97 (by decide) ?_
                    refine zv_callSv (as := [za_O 22 101, za_I t, za_I k, za_I y7_67, za_I v, za_I 10, za_I 0]) G (zc_X10_lays l E 101 t k y7_67 v (10 : Int32) (0 : Int32) σ (by first | assumption | decide | omega) (by first | assumption | decide | omega) (by first | assumption | decide | omega)) zk_X10_lays zm_1360 rfl ⟨(Nat.le_of_ble_eq_true rfl), (Nat.le_of_ble_eq_true rfl)⟩ ⟨Nat.zero_le _, Nat.zero_le _⟩ (Nat.le_of_ble_eq_true rfl) dX10_addsOne_98 (fun σ h_98 => ?_)
                    have hz : wzlx q t k v fd (y7_67 + 1) σ0 σ := wzlx_s t_1 t_8 v9 (by omega) hz (by first | exact Or.inl ⟨rfl, k_90⟩ | exact Or.inr ⟨rfl, k_90⟩) h_98 (z_inc9 (by omega) rfl)
                    obtain ⟨x_101, e_101⟩ : ∃ y : Int32, y = y7_67 + 1 := ⟨_, rfl⟩
                    refine zv_iinc (j := 7) (v := x_101) (lv' := [(7, za_I x_101), (0, za_O 19 93), (1, za_O 22 q), (2, za_I t), (3, za_I k), (4, za_I v), (5, za_I fd), (6, za_I td)]) G dX10_addsOne_101 rfl (by rw [e_101]; rfl) (by decide) rfl ?_
                    first | have q_101 := z_inc9 (by omega) e_101 | skip
                    refine zv_goto (tgt := 67) G dX10_addsOne_104 (by decide) ?_
                    refine zv_sub [1, 2, 3, 4, 5, 6, 7, 0] (lv' := [(0, za_O 19 93), (1, za_O 22 q), (2, za_I t), (3, za_I k), (4, za_I v), (5, za_I fd), (6, za_I td), (7, za_I x_101)]) rfl ?_
                    exact ih_67 x_101 σ (wzlx_e hz (by rw [z_inc9 (by omega) rfl]; omega)) (by omega) (by have := z_inc c_71 e_101; omega) (z_meas c_71 e_101 hn_67)
                  · have k_90 := z_ceq c_90 (a := y7_67.toInt) (b := fd.toInt) rfl rfl
                    refine zv_iconst (v := 1) G dX10_addsOne_93 (by decide) ?_
                    refine zv_goto (tgt := 98) G dX10_addsOne_94 (by decide) ?_
                    refine zv_callSv (as := [za_O 22 101, za_I t, za_I k, za_I y7_67, za_I v, za_I 10, za_I 1]) G (zc_X10_lays l E 101 t k y7_67 v (10 : Int32) (1 : Int32) σ (by first | assumption | decide | omega) (by first | assumption | decide | omega) (by first | assumption | decide | omega)) zk_X10_lays zm_1360 rfl ⟨(Nat.le_of_ble_eq_true rfl), (Nat.le_of_ble_eq_true rfl)⟩ ⟨Nat.zero_le _, Nat.zero_le _⟩ (Nat.le_of_ble_eq_true rfl) dX10_addsOne_98 (fun σ h_98 => ?_)
                    have hz : wzlx q t k v fd (y7_67 + 1) σ0 σ := wzlx_s t_1 t_8 v9 (by omega) hz (by first | exact Or.inl ⟨rfl, k_90⟩ | exact Or.inr ⟨rfl, k_90⟩) h_98 (z_inc9 (by omega) rfl)
                    obtain ⟨x_101, e_101⟩ : ∃ y : Int32, y = y7_67 + 1 := ⟨_, rfl⟩
                    refine zv_iinc (j := 7) (v := x_101) (lv' := [(7, za_I x_101), (0, za_O 19 93), (1, za_O 22 q), (2, za_I t), (3, za_I k), (4, za_I v), (5, za_I fd), (6, za_I td)]) G dX10_addsOne_101 rfl (by rw [e_101]; rfl) (by decide) rfl ?_
                    first | have q_101 := z_inc9 (by omega) e_101 | skip
                    refine zv_goto (tgt := 67) G dX10_addsOne_104 (by decide) ?_
                    refine zv_sub [1, 2, 3, 4, 5, 6, 7, 0] (lv' := [(0, za_O 19 93), (1, za_O 22 q), (2, za_I t), (3, za_I k), (4, za_I v), (5, za_I fd), (6, za_I td), (7, za_I x_101)]) rfl ?_
                    exact ih_67 x_101 σ (wzlx_e hz (by rw [z_inc9 (by omega) rfl]; omega)) (by omega) (by have := z_inc c_71 e_101; omega) (z_meas c_71 e_101 hn_67)
            refine zv_istore (lv' := [(7, za_I fd), (0, za_O 19 93), (1, za_O 22 q), (2, za_I t), (3, za_I k), (4, za_I v), (5, za_I fd), (6, za_I td)]) G dX10_addsOne_65 (by decide) rfl ?_
            refine zv_sub [1, 2, 3, 4, 5, 6, 7, 0] (lv' := [(0, za_O 19 93), (1, za_O 22 q), (2, za_I t), (3, za_I k), (4, za_I v), (5, za_I fd), (6, za_I td), (7, za_I fd)]) rfl ?_
            exact J_67 _ fd σ hz (by omega) (by first | assumption | omega) (Nat.lt_succ_self _)
          · exact absurd c_49 (by decide)
        · have f_31 := fun q9 => (h_31.2.mpr q9) c_34
          refine zv_iconst (v := (-1)) G dX10_addsOne_37 (by decide) ?_
          exact zv_iret G hr dX10_addsOne_38 ⟨(wzAn_n (fun q => by first | exact f_1 (by first | omega | (rw [z_w]; have hL := z_lL; omega)) | exact f_8 (by first | omega | (rw [z_w]; have hL := z_lL; omega)) | exact f_21 (by first | omega | (rw [z_w]; have hL := z_lL; omega)) | exact f_31 (by first | omega | (rw [z_w]; have hL := z_lL; omega)))), hz.2.2 17 (by decide) (by decide)⟩
set_option maxHeartbeats 4000000 in
set_option maxRecDepth 100000 in
theorem zc_X10_adds_at0 (l : Launch) (E : za_E) (t : Int32) (k : Int32) (v : Int32) (fd : Int32) (td : Int32) (σ0 : za_S) (h0 : wzZ σ0) : zMi l E yX10_adds cX10_adds 6 (Option.some Jvm.ClassFile.FieldType.int) 8 185 [za_O 19 93, za_I t, za_I k, za_I v, za_I fd, za_I td] σ0 (fun r σ' => wzAn ((0 ≤ t.toInt ∧ t.toInt ≤ 1) ∧ (0 ≤ k.toInt ∧ k.toInt ≤ 9) ∧ (0 ≤ v.toInt ∧ v.toInt ≤ 99) ∧ (0 ≤ fd.toInt ∧ fd.toInt ≤ 99) ∧ fd.toInt < td.toInt ∧ td.toInt ≤ 100) 0 (-1) r) := by
  refine zMi_of [(0, za_O 19 93), (1, za_I t), (2, za_I k), (3, za_I v), (4, za_I fd), (5, za_I td)] (by decide) rfl rfl (Nat.le_of_ble_eq_true rfl) ?_
  intro ho p e s m args below meth c G hr
  refine zv_gen (R9 := wzZ) h0 (fun σ hz => ?_)
  refine zv_aload_n (j := 0) G dX10_adds_0 rfl rfl ?_
  refine zv_iconst (v := 0) G dX10_adds_1 (by decide) ?_
  refine zp_X10_3 G dX10_adds_2 ?_
  refine zv_gen (R9 := wzZ) (wzZ_w hz) (fun σ hz => ?_)
  refine zv_aload_n (j := 0) G dX10_adds_5 rfl rfl ?_
  refine zv_callVv (as := []) G (by decide) rfl rfl (zc_X10_putsBy l E  σ (by rw [hz 93 (by decide) 17]; decide)) zk_X10_putsBy zm_1367 rfl ⟨(Nat.le_of_ble_eq_true rfl), (Nat.le_of_ble_eq_true rfl)⟩ ⟨Nat.zero_le _, Nat.zero_le _⟩ (Nat.le_of_ble_eq_true rfl) dX10_adds_6 (fun σ h_6 => ?_)
  have hz := wzZ_rw hz h_6
  refine zv_aload_n (j := 0) G dX10_adds_9 rfl rfl ?_
  refine zv_aload_n (j := 0) G dX10_adds_10 rfl rfl ?_
  refine zv_aload_n (j := 0) G dX10_adds_11 rfl rfl ?_
  refine zg_X10_118 G dX10_adds_12 ?_
  refine zv_iload_n (j := 1) G dX10_adds_15 rfl rfl ?_
  refine zv_iload_n (j := 2) G dX10_adds_16 rfl rfl ?_
  refine zv_iload_n (j := 3) G dX10_adds_17 rfl rfl ?_
  refine zv_iload (j := 4) G dX10_adds_18 rfl ?_
  refine zv_iload (j := 5) G dX10_adds_20 rfl ?_
  refine zv_callVi (as := [za_O 22 99, za_I t, za_I k, za_I v, za_I fd, za_I td]) G (by decide) rfl rfl (zc_X10_addsOne_at0 l E 99 t k v fd td σ (by decide) (wzN9 hz)) zk_X10_addsOne zm_1371 rfl ⟨(Nat.le_of_ble_eq_true rfl), (Nat.le_of_ble_eq_true rfl)⟩ ⟨Nat.zero_le _, Nat.zero_le _⟩ (Nat.le_of_ble_eq_true rfl) dX10_adds_22 (fun r_22 σ h_22 => ?_)
  have z8 := hz 93 (by decide) 17
  have z9 := h_22
  refine zv_callVi (as := [za_I r_22]) G (by decide) rfl rfl (zc_X10_counted_at0 l E r_22 σ (fun _ => z9.2.trans z8)) zk_X10_counted zm_1395 rfl ⟨(Nat.le_of_ble_eq_true rfl), (Nat.le_of_ble_eq_true rfl)⟩ ⟨Nat.zero_le _, Nat.zero_le _⟩ (Nat.le_of_ble_eq_true rfl) dX10_adds_25 (fun r_25 σ h_25 => ?_)
  have y9 := h_25
  exact zv_iret G hr dX10_adds_28 (by rw [y9]; exact z9.1)
set_option maxHeartbeats 4000000 in
set_option maxRecDepth 100000 in
theorem zc_X10_sets_at0 (l : Launch) (E : za_E) (t : Int32) (k : Int32) (v : Int32) (fd : Int32) (td : Int32) (σ0 : za_S) (h0 : wzZ σ0) : zMi l E yX10_sets cX10_sets 6 (Option.some Jvm.ClassFile.FieldType.int) 7 174 [za_O 19 93, za_I t, za_I k, za_I v, za_I fd, za_I td] σ0 (fun r σ' => wzAn ((0 ≤ t.toInt ∧ t.toInt ≤ 1) ∧ (0 ≤ k.toInt ∧ k.toInt ≤ 9) ∧ (0 ≤ v.toInt ∧ v.toInt ≤ 99) ∧ (0 ≤ fd.toInt ∧ fd.toInt ≤ 99) ∧ fd.toInt < td.toInt ∧ td.toInt ≤ 100) (-2) (-1) r) := by
  refine zMi_of [(0, za_O 19 93), (1, za_I t), (2, za_I k), (3, za_I v), (4, za_I fd), (5, za_I td)] (by decide) rfl rfl (Nat.le_of_ble_eq_true rfl) ?_
  intro ho p e s m args below meth c G hr
  refine zv_gen (R9 := wzZ) h0 (fun σ hz => ?_)
  refine zv_aload_n (j := 0) G dX10_sets_0 rfl rfl ?_
  refine zv_iconst (v := 0) G dX10_sets_1 (by decide) ?_
  refine zp_X10_3 G dX10_sets_2 ?_
  refine zv_gen (R9 := wzZ) (wzZ_w hz) (fun σ hz => ?_)
  refine zv_aload_n (j := 0) G dX10_sets_5 rfl rfl ?_
  refine zv_callVv (as := []) G (by decide) rfl rfl (zc_X10_putsBy l E  σ (by rw [hz 93 (by decide) 17]; decide)) zk_X10_putsBy zm_1367 rfl ⟨(Nat.le_of_ble_eq_true rfl), (Nat.le_of_ble_eq_true rfl)⟩ ⟨Nat.zero_le _, Nat.zero_le _⟩ (Nat.le_of_ble_eq_true rfl) dX10_sets_6 (fun σ h_6 => ?_)
  have hz := wzZ_rw hz h_6
  refine zv_aload_n (j := 0) G dX10_sets_9 rfl rfl ?_
  refine zv_aload_n (j := 0) G dX10_sets_10 rfl rfl ?_
  refine zv_aload_n (j := 0) G dX10_sets_11 rfl rfl ?_
  refine zg_X10_118 G dX10_sets_12 ?_
  refine zv_iload_n (j := 1) G dX10_sets_15 rfl rfl ?_
  refine zv_iload_n (j := 2) G dX10_sets_16 rfl rfl ?_
  refine zv_iload_n (j := 3) G dX10_sets_17 rfl rfl ?_
  refine zv_iload (j := 4) G dX10_sets_18 rfl ?_
  refine zv_iload (j := 5) G dX10_sets_20 rfl ?_
  refine zv_callVi (as := [za_O 22 99, za_I t, za_I k, za_I v, za_I fd, za_I td]) G (by decide) rfl rfl (zc_X10_setsOne_at0 l E 99 t k v fd td σ (by decide) (wzN9 hz)) zk_X10_setsOne zm_1407 rfl ⟨(Nat.le_of_ble_eq_true rfl), (Nat.le_of_ble_eq_true rfl)⟩ ⟨Nat.zero_le _, Nat.zero_le _⟩ (Nat.le_of_ble_eq_true rfl) dX10_sets_22 (fun r_22 σ h_22 => ?_)
  have z9 := h_22
  refine zv_iload_n (j := 1) G dX10_sets_25 rfl rfl ?_
  refine zv_callVi (as := [za_I r_22, za_I t]) G (by decide) rfl rfl (zc_X10_rowsThen_at0 l E r_22 t σ (wzlt0 z9.1)) zk_X10_rowsThen zm_1418 rfl ⟨(Nat.le_of_ble_eq_true rfl), (Nat.le_of_ble_eq_true rfl)⟩ ⟨Nat.zero_le _, Nat.zero_le _⟩ (Nat.le_of_ble_eq_true rfl) dX10_sets_26 (fun r_26 σ h_26 => ?_)
  have y9 := h_26
  exact zv_iret G hr dX10_sets_29 (by rw [y9]; exact z9.1)
set_option maxHeartbeats 4000000 in
set_option maxRecDepth 100000 in
theorem zc_X10_refers_at0 (l : Launch) (E : za_E) (k : Int32) (v : Int32) (fd : Int32) (td : Int32) (σ0 : za_S) (h0 : wzZ σ0) : zMi l E yX10_refers cX10_refers 5 (Option.some Jvm.ClassFile.FieldType.int) 7 173 [za_O 19 93, za_I k, za_I v, za_I fd, za_I td] σ0 (fun r σ' => wzAn ((0 ≤ k.toInt ∧ k.toInt ≤ 9) ∧ (0 ≤ v.toInt ∧ v.toInt ≤ 10) ∧ (0 ≤ fd.toInt ∧ fd.toInt ≤ 99) ∧ fd.toInt < td.toInt ∧ td.toInt ≤ 100) (-2) (-1) r) := by
  refine zMi_of [(0, za_O 19 93), (1, za_I k), (2, za_I v), (3, za_I fd), (4, za_I td)] (by decide) rfl rfl (Nat.le_of_ble_eq_true rfl) ?_
  intro ho p e s m args below meth c G hr
  refine zv_gen (R9 := wzZ) h0 (fun σ hz => ?_)
  refine zv_aload_n (j := 0) G dX10_refers_0 rfl rfl ?_
  refine zv_iconst (v := 0) G dX10_refers_1 (by decide) ?_
  refine zp_X10_3 G dX10_refers_2 ?_
  refine zv_gen (R9 := wzZ) (wzZ_w hz) (fun σ hz => ?_)
  refine zv_aload_n (j := 0) G dX10_refers_5 rfl rfl ?_
  refine zv_callVv (as := []) G (by decide) rfl rfl (zc_X10_putsBy l E  σ (by rw [hz 93 (by decide) 17]; decide)) zk_X10_putsBy zm_1367 rfl ⟨(Nat.le_of_ble_eq_true rfl), (Nat.le_of_ble_eq_true rfl)⟩ ⟨Nat.zero_le _, Nat.zero_le _⟩ (Nat.le_of_ble_eq_true rfl) dX10_refers_6 (fun σ h_6 => ?_)
  have hz := wzZ_rw hz h_6
  refine zv_aload_n (j := 0) G dX10_refers_9 rfl rfl ?_
  refine zv_aload_n (j := 0) G dX10_refers_10 rfl rfl ?_
  refine zv_aload_n (j := 0) G dX10_refers_11 rfl rfl ?_
  refine zg_X10_118 G dX10_refers_12 ?_
  refine zv_iload_n (j := 1) G dX10_refers_15 rfl rfl ?_
  refine zv_iload_n (j := 2) G dX10_refers_16 rfl rfl ?_
  refine zv_iload_n (j := 3) G dX10_refers_17 rfl rfl ?_
  refine zv_iload (j := 4) G dX10_refers_18 rfl ?_
  refine zv_callVi (as := [za_O 22 99, za_I k, za_I v, za_I fd, za_I td]) G (by decide) rfl rfl (zc_X10_refersOne_at0 l E 99 k v fd td σ (by decide) (wzN9 hz)) zk_X10_refersOne zm_1430 rfl ⟨(Nat.le_of_ble_eq_true rfl), (Nat.le_of_ble_eq_true rfl)⟩ ⟨Nat.zero_le _, Nat.zero_le _⟩ (Nat.le_of_ble_eq_true rfl) dX10_refers_20 (fun r_20 σ h_20 => ?_)
  have z9 := h_20
  refine zv_iconst (v := 0) G dX10_refers_23 (by decide) ?_
  refine zv_callVi (as := [za_I r_20, za_I 0]) G (by decide) rfl rfl (zc_X10_rowsThen_at0 l E r_20 (0 : Int32) σ (wzlt0 z9.1)) zk_X10_rowsThen zm_1418 rfl ⟨(Nat.le_of_ble_eq_true rfl), (Nat.le_of_ble_eq_true rfl)⟩ ⟨Nat.zero_le _, Nat.zero_le _⟩ (Nat.le_of_ble_eq_true rfl) dX10_refers_24 (fun r_24 σ h_24 => ?_)
  have y9 := h_24
  exact zv_iret G hr dX10_refers_27 (by rw [y9]; exact z9.1)
set_option maxHeartbeats 4000000 in
set_option maxRecDepth 100000 in
theorem zc_X10_cuts_at0 (l : Launch) (E : za_E) (t : Int32) (k : Int32) (fd : Int32) (td : Int32) (σ0 : za_S) (h0 : wzZ σ0) : zMi l E yX10_cuts cX10_cuts 6 (Option.some Jvm.ClassFile.FieldType.int) 6 141 [za_O 19 93, za_I t, za_I k, za_I fd, za_I td] σ0 (fun r σ' => wzAn ((0 ≤ t.toInt ∧ t.toInt ≤ 1) ∧ (0 ≤ k.toInt ∧ k.toInt ≤ 9) ∧ (0 ≤ fd.toInt ∧ fd.toInt ≤ 99) ∧ fd.toInt < td.toInt ∧ td.toInt ≤ 100) (-2) (-1) r) := by
  refine zMi_of [(0, za_O 19 93), (1, za_I t), (2, za_I k), (3, za_I fd), (4, za_I td)] (by decide) rfl rfl (Nat.le_of_ble_eq_true rfl) ?_
  intro ho p e s m args below meth c G hr
  refine zv_gen (R9 := wzZ) h0 (fun σ hz => ?_)
  refine zv_aload_n (j := 0) G dX10_cuts_0 rfl rfl ?_
  refine zv_iconst (v := 0) G dX10_cuts_1 (by decide) ?_
  refine zp_X10_3 G dX10_cuts_2 ?_
  refine zv_gen (R9 := wzZ) (wzZ_w hz) (fun σ hz => ?_)
  refine zv_aload_n (j := 0) G dX10_cuts_5 rfl rfl ?_
  refine zv_callVv (as := []) G (by decide) rfl rfl (zc_X10_putsBy l E  σ (by rw [hz 93 (by decide) 17]; decide)) zk_X10_putsBy zm_1367 rfl ⟨(Nat.le_of_ble_eq_true rfl), (Nat.le_of_ble_eq_true rfl)⟩ ⟨Nat.zero_le _, Nat.zero_le _⟩ (Nat.le_of_ble_eq_true rfl) dX10_cuts_6 (fun σ h_6 => ?_)
  have hz := wzZ_rw hz h_6
  refine zv_aload_n (j := 0) G dX10_cuts_9 rfl rfl ?_
  refine zv_aload_n (j := 0) G dX10_cuts_10 rfl rfl ?_
  refine zg_X10_118 G dX10_cuts_11 ?_
  refine zv_iload_n (j := 1) G dX10_cuts_14 rfl rfl ?_
  refine zv_iload_n (j := 2) G dX10_cuts_15 rfl rfl ?_
  refine zv_iload_n (j := 3) G dX10_cuts_16 rfl rfl ?_
  refine zv_iload (j := 4) G dX10_cuts_17 rfl ?_
  refine zv_callVi (as := [za_O 22 99, za_I t, za_I k, za_I fd, za_I td]) G (by decide) rfl rfl (zc_X10_cutsOne_at0 l E 99 t k fd td σ (by decide) (wzN9 hz)) zk_X10_cutsOne zm_1442 rfl ⟨(Nat.le_of_ble_eq_true rfl), (Nat.le_of_ble_eq_true rfl)⟩ ⟨Nat.zero_le _, Nat.zero_le _⟩ (Nat.le_of_ble_eq_true rfl) dX10_cuts_19 (fun r_19 σ h_19 => ?_)
  have z9 := h_19
  refine zv_istore (lv' := [(5, za_I r_19), (0, za_O 19 93), (1, za_I t), (2, za_I k), (3, za_I fd), (4, za_I td)]) G dX10_cuts_22 (by decide) rfl ?_
  refine zv_iload (j := 0) G dX10_cuts_24 rfl ?_
  refine zv_if_ge (tgt := 32) G dX10_cuts_26 (by decide) (fun c_26 => ?_) (fun c_26 => ?_)
  · exact absurd (z_cle c_26 (a := 0) (b := r_19.toInt) rfl rfl) (by have h8 := wzlt0 z9.1; omega)
  · have k_26 := z_cnle c_26 (a := 0) (b := r_19.toInt) rfl rfl
    refine zv_iload (j := 0) G dX10_cuts_29 rfl ?_
    exact zv_iret G hr dX10_cuts_31 z9.1
set_option maxHeartbeats 4000000 in
set_option maxRecDepth 100000 in
theorem zc_X10_shifts_at0 (l : Launch) (E : za_E) (t : Int32) (k : Int32) (sh : Int32) (σ0 : za_S) (h0 : wzZ σ0) : zMi l E yX10_shifts cX10_shifts 4 (Option.some Jvm.ClassFile.FieldType.int) 6 142 [za_O 19 93, za_I t, za_I k, za_I sh] σ0 (fun r σ' => wzAn ((0 ≤ t.toInt ∧ t.toInt ≤ 1) ∧ (0 ≤ k.toInt ∧ k.toInt ≤ 9) ∧ ¬ sh.toInt = 0 ∧ -99 ≤ sh.toInt ∧ sh.toInt ≤ 99) (-2) (-1) r) := by
  refine zMi_of [(0, za_O 19 93), (1, za_I t), (2, za_I k), (3, za_I sh)] (by decide) rfl rfl (Nat.le_of_ble_eq_true rfl) ?_
  intro ho p e s m args below meth c G hr
  refine zv_gen (R9 := wzZ) h0 (fun σ hz => ?_)
  refine zv_aload_n (j := 0) G dX10_shifts_0 rfl rfl ?_
  refine zv_iconst (v := 0) G dX10_shifts_1 (by decide) ?_
  refine zp_X10_3 G dX10_shifts_2 ?_
  refine zv_gen (R9 := wzZ) (wzZ_w hz) (fun σ hz => ?_)
  refine zv_aload_n (j := 0) G dX10_shifts_5 rfl rfl ?_
  refine zv_callVv (as := []) G (by decide) rfl rfl (zc_X10_putsBy l E  σ (by rw [hz 93 (by decide) 17]; decide)) zk_X10_putsBy zm_1367 rfl ⟨(Nat.le_of_ble_eq_true rfl), (Nat.le_of_ble_eq_true rfl)⟩ ⟨Nat.zero_le _, Nat.zero_le _⟩ (Nat.le_of_ble_eq_true rfl) dX10_shifts_6 (fun σ h_6 => ?_)
  have hz := wzZ_rw hz h_6
  refine zv_aload_n (j := 0) G dX10_shifts_9 rfl rfl ?_
  refine zv_aload_n (j := 0) G dX10_shifts_10 rfl rfl ?_
  refine zv_aload_n (j := 0) G dX10_shifts_11 rfl rfl ?_
  refine zg_X10_118 G dX10_shifts_12 ?_
  refine zv_iload_n (j := 1) G dX10_shifts_15 rfl rfl ?_
  refine zv_iload_n (j := 2) G dX10_shifts_16 rfl rfl ?_
  refine zv_iload_n (j := 3) G dX10_shifts_17 rfl rfl ?_
  refine zv_callVi (as := [za_O 22 99, za_I t, za_I k, za_I sh]) G (by decide) rfl rfl (zc_X10_shiftsOne_at0 l E 99 t k sh σ (by decide) (wzN9 hz)) zk_X10_shiftsOne zm_1458 rfl ⟨(Nat.le_of_ble_eq_true rfl), (Nat.le_of_ble_eq_true rfl)⟩ ⟨Nat.zero_le _, Nat.zero_le _⟩ (Nat.le_of_ble_eq_true rfl) dX10_shifts_18 (fun r_18 σ h_18 => ?_)
  have z9 := h_18
  refine zv_callVi (as := [za_I r_18]) G (by decide) rfl rfl (zc_X10_counted_at0 l E r_18 σ (fun q => absurd q (by have h8 := wzlt0 z9.1; omega))) zk_X10_counted zm_1395 rfl ⟨(Nat.le_of_ble_eq_true rfl), (Nat.le_of_ble_eq_true rfl)⟩ ⟨Nat.zero_le _, Nat.zero_le _⟩ (Nat.le_of_ble_eq_true rfl) dX10_shifts_21 (fun r_21 σ h_21 => ?_)
  have y9 := h_21
  exact zv_iret G hr dX10_shifts_24 (by rw [y9]; exact z9.1)
set_option maxHeartbeats 4000000 in
set_option maxRecDepth 100000 in
theorem zc_X10_joins_at0 (l : Launch) (E : za_E) (t : Int32) (σ0 : za_S) (h0 : wzZ σ0) : zMi l E yX10_joins cX10_joins 2 (Option.some Jvm.ClassFile.FieldType.int) 6 137 [za_O 19 93, za_I t] σ0 (fun r σ' => wzAn ((0 ≤ t.toInt ∧ t.toInt ≤ 1)) 0 (-1) r) := by
  refine zMi_of [(0, za_O 19 93), (1, za_I t)] (by decide) rfl rfl (Nat.le_of_ble_eq_true rfl) ?_
  intro ho p e s m args below meth c G hr
  refine zv_gen (R9 := wzZ) h0 (fun σ hz => ?_)
  refine zv_aload_n (j := 0) G dX10_joins_0 rfl rfl ?_
  refine zv_iconst (v := 0) G dX10_joins_1 (by decide) ?_
  refine zp_X10_3 G dX10_joins_2 ?_
  refine zv_gen (R9 := wzZ) (wzZ_w hz) (fun σ hz => ?_)
  refine zv_iload_n (j := 1) G dX10_joins_5 rfl rfl ?_
  refine zv_callSi (as := [za_I t]) G (zc_X10_isTable l E t σ ) zk_X10_isTable zm_1313 rfl ⟨(Nat.le_of_ble_eq_true rfl), (Nat.le_of_ble_eq_true rfl)⟩ ⟨Nat.zero_le _, Nat.zero_le _⟩ (Nat.le_of_ble_eq_true rfl) dX10_joins_6 (fun r_6 σ h_6 => ?_)
  obtain ⟨h_6, rfl⟩ := h_6
  refine zv_if_ne (tgt := 14) G dX10_joins_9 (by decide) (fun c_9 => ?_) (fun c_9 => ?_)
  · have t_6 := h_6.2.mp c_9
    refine zv_aload_n (j := 0) G dX10_joins_14 rfl rfl ?_
    refine zv_callVv (as := []) G (by decide) rfl rfl (zc_X10_putsBy l E  σ (by rw [hz 93 (by decide) 17]; decide)) zk_X10_putsBy zm_1367 rfl ⟨(Nat.le_of_ble_eq_true rfl), (Nat.le_of_ble_eq_true rfl)⟩ ⟨Nat.zero_le _, Nat.zero_le _⟩ (Nat.le_of_ble_eq_true rfl) dX10_joins_15 (fun σ h_15 => ?_)
    have hz := wzZ_rw hz h_15
    refine zv_aload_n (j := 0) G dX10_joins_18 rfl rfl ?_
    refine zv_aload_n (j := 0) G dX10_joins_19 rfl rfl ?_
    refine zg_X10_118 G dX10_joins_20 ?_
    refine zv_iload_n (j := 1) G dX10_joins_23 rfl rfl ?_
    refine zv_callSi (as := [za_O 22 99, za_I t]) G (zc_X10_joinsAll_at0 l E 99 t σ t_6 (wzN9 hz)) zk_X10_joinsAll zm_1467 rfl ⟨(Nat.le_of_ble_eq_true rfl), (Nat.le_of_ble_eq_true rfl)⟩ ⟨Nat.zero_le _, Nat.zero_le _⟩ (Nat.le_of_ble_eq_true rfl) dX10_joins_24 (fun r_24 σ h_24 => ?_)
    have z8 := hz 93 (by decide) 17
    have z9 := h_24.1
    rw [← h_24.2] at z8
    refine zv_callVi (as := [za_I r_24]) G (by decide) rfl rfl (zc_X10_keeps_at0 l E r_24 σ z8) zk_X10_keeps zm_1399 rfl ⟨(Nat.le_of_ble_eq_true rfl), (Nat.le_of_ble_eq_true rfl)⟩ ⟨Nat.zero_le _, Nat.zero_le _⟩ (Nat.le_of_ble_eq_true rfl) dX10_joins_27 (fun r_27 σ h_27 => ?_)
    have y9 := h_27
    exact zv_iret G hr dX10_joins_30 (wzAn_e t_6 (y9.trans z9))
  · have f_6 := fun q9 => (h_6.2.mpr q9) c_9
    refine zv_iconst (v := (-1)) G dX10_joins_12 (by decide) ?_
    exact zv_iret G hr dX10_joins_13 (wzAn_n (fun q => by first | exact f_6 (by omega)))
set_option maxHeartbeats 4000000 in
set_option maxRecDepth 100000 in
theorem zc_X10_way_at0 (l : Launch) (E : za_E) (v : Int32) (σ0 : za_S) (h0 : wzZ σ0) : zMi l E yX10_way cX10_way 2 (Option.some Jvm.ClassFile.FieldType.int) 3 68 [za_O 19 93, za_I v] σ0 (fun r σ' => wzWy v.toInt r) := by
  refine zMi_of [(0, za_O 19 93), (1, za_I v)] (by decide) rfl rfl (Nat.le_of_ble_eq_true rfl) ?_
  intro ho p e s m args below meth c G hr
  refine zv_gen (R9 := wzZ) h0 (fun σ hz => ?_)
  refine zv_aload_n (j := 0) G dX10_way_0 rfl rfl ?_
  refine zv_iconst (v := 0) G dX10_way_1 (by decide) ?_
  refine zp_X10_3 G dX10_way_2 ?_
  refine zv_gen (R9 := wzZ) (wzZ_w hz) (fun σ hz => ?_)
  refine zv_aload_n (j := 0) G dX10_way_5 rfl rfl ?_
  refine zv_callVv (as := []) G (by decide) rfl rfl (zc_X10_putsBy l E  σ (by rw [hz 93 (by decide) 17]; decide)) zk_X10_putsBy zm_1367 rfl ⟨(Nat.le_of_ble_eq_true rfl), (Nat.le_of_ble_eq_true rfl)⟩ ⟨Nat.zero_le _, Nat.zero_le _⟩ (Nat.le_of_ble_eq_true rfl) dX10_way_6 (fun σ h_6 => ?_)
  have hz := wzZ_rw hz h_6
  refine zv_aload_n (j := 0) G dX10_way_9 rfl rfl ?_
  refine zv_aload_n (j := 0) G dX10_way_10 rfl rfl ?_
  refine zg_X10_118 G dX10_way_11 ?_
  refine zv_iload_n (j := 1) G dX10_way_14 rfl rfl ?_
  refine zv_callSi (as := [za_O 22 99, za_I v]) G (zc_X10_wayIs_at0 l E 99 v σ (hz 99 (by decide) _)) zk_X10_wayIs zm_1474 rfl ⟨(Nat.le_of_ble_eq_true rfl), (Nat.le_of_ble_eq_true rfl)⟩ ⟨Nat.zero_le _, Nat.zero_le _⟩ (Nat.le_of_ble_eq_true rfl) dX10_way_15 (fun r_15 σ h_15 => ?_)
  have z8 := hz 93 (by decide) 17
  have z9 := h_15
  refine zv_callVi (as := [za_I r_15]) G (by decide) rfl rfl (zc_X10_counted_at0 l E r_15 σ (fun _ => (z9.2 93 17 (by decide)).trans z8)) zk_X10_counted zm_1395 rfl ⟨(Nat.le_of_ble_eq_true rfl), (Nat.le_of_ble_eq_true rfl)⟩ ⟨Nat.zero_le _, Nat.zero_le _⟩ (Nat.le_of_ble_eq_true rfl) dX10_way_18 (fun r_18 σ h_18 => ?_)
  have y9 := h_18
  exact zv_iret G hr dX10_way_21 (by rw [y9]; exact z9.1)
set_option maxHeartbeats 4000000 in
set_option maxRecDepth 100000 in
theorem zc_X10_reads_at0 (l : Launch) (E : za_E) (a : Int32) (σ0 : za_S) (h0 : wzZ σ0) (ha : 0 ≤ a.toInt) : zMi l E yX10_reads cX10_reads 3 (Option.some Jvm.ClassFile.FieldType.int) 1 21 [za_O 19 93, za_I a] σ0 (fun r σ' => r = 0 ∧ wzZ σ') := by
  refine zMi_of [(0, za_O 19 93), (1, za_I a)] (by decide) rfl rfl (Nat.le_of_ble_eq_true rfl) ?_
  intro ho p e s m args below meth c G hr
  refine zv_gen (R9 := wzZ) h0 (fun σ hz => ?_)
  refine zv_aload_n (j := 0) G dX10_reads_0 rfl rfl ?_
  refine zg_X10_18 G dX10_reads_1 ?_
  refine zv_top (fun x_4 e_4 => ?_)
  refine zv_istore_n (lv' := [(2, za_I x_4), (0, za_O 19 93), (1, za_I a)]) G dX10_reads_4 rfl (by decide) rfl ?_
  have x4 : x_4 = 0 := e_4.trans (hz 93 (by decide) 4)
  refine zv_aload_n (j := 1) G dX10_reads_5 rfl rfl ?_
  refine zv_iconst (v := 0) G dX10_reads_6 (by decide) ?_
  refine zp_X10_18 G dX10_reads_7 ?_
  refine zv_gen (R9 := wzZ) (wzZ_w hz) (fun σ hz => ?_)
  refine zv_aload_n (j := 1) G dX10_reads_10 rfl rfl ?_
  refine zv_iconst (v := 0) G dX10_reads_11 (by decide) ?_
  refine zp_X10_29 G dX10_reads_12 ?_
  refine zv_gen (R9 := wzZ) (wzZ_w hz) (fun σ hz => ?_)
  refine zv_aload_n (j := 1) G dX10_reads_15 rfl rfl ?_
  refine zv_iconst (v := 0) G dX10_reads_16 (by decide) ?_
  refine zp_X10_32 G dX10_reads_17 ?_
  refine zv_gen (R9 := wzZ) (wzZ_w hz) (fun σ hz => ?_)
  refine zv_aload_n (j := 1) G dX10_reads_20 rfl rfl ?_
  refine zv_iload_n (j := 0) G dX10_reads_21 rfl rfl ?_
  refine zv_iload_n (j := 2) G dX10_reads_22 rfl rfl ?_
  refine zv_mmin G zm_1358 zm_392 zm_147 zm_393 (Nat.le_of_ble_eq_true rfl) (Nat.le_of_ble_eq_true rfl) (Nat.zero_le _) (Nat.zero_le _) dX10_reads_23 ?_
  refine zv_top (fun x_23 e_23 => ?_)
  refine zp_X10_41 G dX10_reads_26 ?_
  refine zv_gen (R9 := wzZ) (wzZ_x hz (wz_mn0 e_23 x4 ha)) (fun σ hz => ?_)
  refine zv_iload_n (j := 0) G dX10_reads_29 rfl rfl ?_
  exact zv_iret G hr dX10_reads_30 ⟨x4, hz⟩
set_option maxHeartbeats 4000000 in
set_option maxRecDepth 100000 in
theorem zc_X10_takes_at0 (l : Launch) (E : za_E) (a : Int32) (σ0 : za_S) (h0 : wzZ σ0) : zMi l E yX10_takes cX10_takes 3 (Option.some Jvm.ClassFile.FieldType.boolean) 2 41 [za_O 19 93, za_I a] σ0 (fun r σ' => r = 0 ∧ wzZ σ') := by
  refine zMi_of [(0, za_O 19 93), (1, za_I a)] (by decide) rfl rfl (Nat.le_of_ble_eq_true rfl) ?_
  intro ho p e s m args below meth c G hr
  refine zv_gen (R9 := wzZ) h0 (fun σ hz => ?_)
  refine zv_aload_n (j := 0) G dX10_takes_0 rfl rfl ?_
  refine zg_X10_29 G dX10_takes_1 ?_
  refine zv_aload_n (j := 0) G dX10_takes_4 rfl rfl ?_
  refine zg_X10_41 G dX10_takes_5 ?_
  refine zv_icmp_ge (tgt := 28) G dX10_takes_8 (by decide) (fun c_8 => ?_) (fun c_8 => ?_)
  · have k_8 := z_cle c_8 (a := (σ.1 93 6).toInt) (b := (σ.1 93 5).toInt) rfl rfl
    refine zv_iconst (v := 0) G dX10_takes_28 (by decide) ?_
    refine zv_istore_n (lv' := [(2, za_I 0), (0, za_O 19 93), (1, za_I a)]) G dX10_takes_29 rfl (by decide) rfl ?_
    refine zv_aload_n (j := 1) G dX10_takes_30 rfl rfl ?_
    refine zv_dupO G dX10_takes_31 ?_
    refine zg_X10_29 G dX10_takes_32 ?_
    refine zv_iload_n (j := 0) G dX10_takes_35 rfl rfl ?_
    refine zv_callSi (as := [za_I 0]) G (zc_X10_flag_at0 l E  σ ) zk_X10_flag zm_1355 rfl ⟨(Nat.le_of_ble_eq_true rfl), (Nat.le_of_ble_eq_true rfl)⟩ ⟨Nat.zero_le _, Nat.zero_le _⟩ (Nat.le_of_ble_eq_true rfl) dX10_takes_36 (fun r_36 σ h_36 => ?_)
    obtain ⟨h_36, rfl⟩ := h_36
    subst h_36
    refine zv_iadd G dX10_takes_39 ?_
    refine zp_X10_29 G dX10_takes_40 ?_
    refine zv_gen (R9 := wzZ) (wzZ_x hz (by rw [hz 93 (by decide) 5]; decide)) (fun σ hz => ?_)
    refine zv_iload_n (j := 0) G dX10_takes_43 rfl rfl ?_
    exact zv_zret G hr dX10_takes_44 (by decide) ⟨rfl, hz⟩
  · exact absurd (show (σ.1 93 6) ≤ (σ.1 93 5) by rw [hz 93 (by decide) 5, hz 93 (by decide) 6]; decide) c_8
set_option maxHeartbeats 4000000 in
set_option maxRecDepth 100000 in
theorem zc_X10_isDigit_at0 (l : Launch) (E : za_E)  (σ : za_S) (h0 : wzZ σ) : zMi l E yX10_isDigit cX10_isDigit 1 (Option.some Jvm.ClassFile.FieldType.boolean) 1 21 [za_O 19 93] σ (fun r σ' => (r = 0) ∧ σ' = σ) := by
  refine zMi_of [(0, za_O 19 93)] (by decide) rfl rfl (Nat.le_of_ble_eq_true rfl) ?_
  intro ho p e s m args below meth c G hr
  refine zv_aload_n (j := 0) G dX10_isDigit_0 rfl rfl ?_
  refine zg_X10_29 G dX10_isDigit_1 ?_
  refine zv_aload_n (j := 0) G dX10_isDigit_4 rfl rfl ?_
  refine zg_X10_41 G dX10_isDigit_5 ?_
  refine zv_icmp_ge (tgt := 37) G dX10_isDigit_8 (by decide) (fun c_8 => ?_) (fun c_8 => ?_)
  · have k_8 := z_cle c_8 (a := (σ.1 93 6).toInt) (b := (σ.1 93 5).toInt) rfl rfl
    refine zv_iconst (v := 0) G dX10_isDigit_37 (by decide) ?_
    exact zv_zret G hr dX10_isDigit_38 (by decide) ⟨rfl, rfl⟩
  · exact absurd (show (σ.1 93 6) ≤ (σ.1 93 5) by rw [h0 93 (by decide) 5, h0 93 (by decide) 6]; decide) c_8
set_option maxHeartbeats 4000000 in
set_option maxRecDepth 100000 in
theorem zc_X10_takesOf_at0 (l : Launch) (E : za_E) (a : Nat) (σ : za_S) (h0 : wzZ σ) : zMi l E yX10_takesOf cX10_takesOf 3 (Option.some Jvm.ClassFile.FieldType.int) 3 61 [za_O 19 93, za_O 50 a] σ (fun r σ' => (r = (-1)) ∧ σ' = σ) := by
  refine zMi_of [(0, za_O 19 93), (1, za_O 50 a)] (by decide) rfl rfl (Nat.le_of_ble_eq_true rfl) ?_
  intro ho p e s m args below meth c G hr
  refine zv_iconst (v := 0) G dX10_takesOf_0 (by decide) ?_
  refine zv_istore_n (lv' := [(2, za_I 0), (0, za_O 19 93), (1, za_O 50 a)]) G dX10_takesOf_1 rfl (by decide) rfl ?_
  refine zv_iload_n (j := 0) G dX10_takesOf_2 rfl rfl ?_
  refine zv_aload_n (j := 2) G dX10_takesOf_3 rfl rfl ?_
  refine zv_callTi (as := []) G (zc_J0_length_8abf5 l E a σ ) zk_J0_length_8abf5 zm_1495 rfl ⟨(Nat.le_of_ble_eq_true rfl), (Nat.le_of_ble_eq_true rfl)⟩ ⟨Nat.zero_le _, Nat.zero_le _⟩ (Nat.le_of_ble_eq_true rfl) dX10_takesOf_4 (fun r_4 σ h_4 => ?_)
  obtain ⟨h_4, rfl⟩ := h_4
  refine zv_icmp_ge (tgt := 56) G dX10_takesOf_7 (by decide) (fun c_7 => ?_) (fun c_7 => ?_)
  · have k_7 := z_cle c_7 (a := r_4.toInt) (b := 0) rfl rfl
    refine zv_iconst (v := (-1)) G dX10_takesOf_56 (by decide) ?_
    exact zv_iret G hr dX10_takesOf_57 ⟨rfl, rfl⟩
  · have k_7 := z_cnle c_7 (a := r_4.toInt) (b := 0) rfl rfl
    refine zv_aload_n (j := 1) G dX10_takesOf_10 rfl rfl ?_
    refine zg_X10_29 G dX10_takesOf_11 ?_
    refine zv_aload_n (j := 1) G dX10_takesOf_14 rfl rfl ?_
    refine zg_X10_41 G dX10_takesOf_15 ?_
    refine zv_icmp_ge (tgt := 56) G dX10_takesOf_18 (by decide) (fun c_18 => ?_) (fun c_18 => ?_)
    · have k_18 := z_cle c_18 (a := (σ.1 93 6).toInt) (b := (σ.1 93 5).toInt) rfl rfl
      refine zv_iconst (v := (-1)) G dX10_takesOf_56 (by decide) ?_
      exact zv_iret G hr dX10_takesOf_57 ⟨rfl, rfl⟩
    · exact absurd (show (σ.1 93 6) ≤ (σ.1 93 5) by rw [h0 93 (by decide) 5, h0 93 (by decide) 6]; decide) c_18
set_option maxHeartbeats 4000000 in
set_option maxRecDepth 100000 in
theorem zc_X10_readsThing_at0 (l : Launch) (E : za_E)  (σ0 : za_S) (h0 : wzZ σ0) : zMi l E yX10_readsThing cX10_readsThing 2 (Option.some Jvm.ClassFile.FieldType.boolean) 4 83 [za_O 19 93] σ0 (fun r σ' => r = 0 ∧ wzZ σ') := by
  refine zMi_of [(0, za_O 19 93)] (by decide) rfl rfl (Nat.le_of_ble_eq_true rfl) ?_
  intro ho p e s m args below meth c G hr
  refine zv_gen (R9 := wzZ) h0 (fun σ hz => ?_)
  refine zv_aload_n (j := 0) G dX10_readsThing_0 rfl rfl ?_
  refine zv_bipush (v := 45) G dX10_readsThing_1 (by decide) ?_
  refine zv_callVi (as := [za_I 45]) G (by decide) rfl rfl (zc_X10_takes_at0 l E (45 : Int32) σ hz) zk_X10_takes zm_1650 rfl ⟨(Nat.le_of_ble_eq_true rfl), (Nat.le_of_ble_eq_true rfl)⟩ ⟨Nat.zero_le _, Nat.zero_le _⟩ (Nat.le_of_ble_eq_true rfl) dX10_readsThing_3 (fun r_3 σ h_3 => ?_)
  have a_3 := h_3.1
  have hz := h_3.2
  refine zv_if_eq (tgt := 23) G dX10_readsThing_6 (by decide) (fun c_6 => ?_) (fun c_6 => ?_)
  · refine zv_aload_n (j := 0) G dX10_readsThing_23 rfl rfl ?_
    refine zv_callVi (as := []) G (by decide) rfl rfl (zc_X10_isDigit_at0 l E  σ hz) zk_X10_isDigit zm_1514 rfl ⟨(Nat.le_of_ble_eq_true rfl), (Nat.le_of_ble_eq_true rfl)⟩ ⟨Nat.zero_le _, Nat.zero_le _⟩ (Nat.le_of_ble_eq_true rfl) dX10_readsThing_24 (fun r_24 σ h_24 => ?_)
    obtain ⟨h_24, rfl⟩ := h_24
    subst h_24
    refine zv_if_eq (tgt := 41) G dX10_readsThing_27 (by decide) (fun c_27 => ?_) (fun c_27 => ?_)
    · have k_27 := z_ceq c_27 (a := 0) (b := 0) rfl rfl
      refine zv_aload_n (j := 0) G dX10_readsThing_41 rfl rfl ?_
      refine zv_lds (q := 15) (tx := "kvrftli") G (by decide +kernel) (by decide) dX10_readsThing_42 ?_
      refine zv_callVi (as := [za_O 50 15]) G (by decide) rfl rfl (zc_X10_takesOf_at0 l E 15 σ hz) zk_X10_takesOf zm_1491 rfl ⟨(Nat.le_of_ble_eq_true rfl), (Nat.le_of_ble_eq_true rfl)⟩ ⟨Nat.zero_le _, Nat.zero_le _⟩ (Nat.le_of_ble_eq_true rfl) dX10_readsThing_44 (fun r_44 σ h_44 => ?_)
      obtain ⟨h_44, rfl⟩ := h_44
      subst h_44
      refine zv_istore_n (lv' := [(1, za_I (-1)), (0, za_O 19 93)]) G dX10_readsThing_47 rfl (by decide) rfl ?_
      refine zv_iload_n (j := 0) G dX10_readsThing_48 rfl rfl ?_
      refine zv_if_lt (tgt := 63) G dX10_readsThing_49 (by decide) (fun c_49 => ?_) (fun c_49 => ?_)
      · have k_49 := z_clt c_49 (a := -1) (b := 0) rfl rfl
        refine zv_aload_n (j := 1) G dX10_readsThing_63 rfl rfl ?_
        refine zg_X10_32 G dX10_readsThing_64 ?_
        refine zv_iconst (v := 4) G dX10_readsThing_67 (by decide) ?_
        refine zv_icmp_eq (tgt := 80) G dX10_readsThing_68 (by decide) (fun c_68 => ?_) (fun c_68 => ?_)
        · exact absurd ((hz 93 (by decide) 7).symm.trans c_68) (by decide)
        · have k_68 := z_cne c_68 (a := (σ.1 93 7).toInt) (b := 4) rfl rfl
          refine zv_aload_n (j := 1) G dX10_readsThing_71 rfl rfl ?_
          refine zv_bipush (v := 40) G dX10_readsThing_72 (by decide) ?_
          refine zv_callVi (as := [za_I 40]) G (by decide) rfl rfl (zc_X10_takes_at0 l E (40 : Int32) σ hz) zk_X10_takes zm_1650 rfl ⟨(Nat.le_of_ble_eq_true rfl), (Nat.le_of_ble_eq_true rfl)⟩ ⟨Nat.zero_le _, Nat.zero_le _⟩ (Nat.le_of_ble_eq_true rfl) dX10_readsThing_74 (fun r_74 σ h_74 => ?_)
          have a_74 := h_74.1
          have hz := h_74.2
          refine zv_if_ne (tgt := 82) G dX10_readsThing_77 (by decide) (fun c_77 => ?_) (fun c_77 => ?_)
          · exact absurd a_74 c_77
          · refine zv_iconst (v := 0) G dX10_readsThing_80 (by decide) ?_
            exact zv_zret G hr dX10_readsThing_81 (by decide) ⟨rfl, hz⟩
      · exact absurd c_49 (by decide)
    · exact absurd c_27 (by decide)
  · exact absurd a_3 c_6
set_option maxHeartbeats 4000000 in
set_option maxRecDepth 100000 in
theorem zc_X10_readsRank_atz3 (l : Launch) (E : za_E)  (σ0 : za_S) (h0 : wzZ σ0) : zMi l E yX10_readsRank cX10_readsRank 4 (Option.some Jvm.ClassFile.FieldType.boolean) 5 104 [za_O 19 93, za_I 3] σ0 (fun r σ' => r = 0 ∧ wzZ σ') := by
  refine zMi_of [(0, za_O 19 93), (1, za_I 3)] (by decide) rfl rfl (Nat.le_of_ble_eq_true rfl) ?_
  intro ho p e s m args below meth c G hr
  refine zv_gen (R9 := wzZ) h0 (fun σ hz => ?_)
  refine zv_iload_n (j := 1) G dX10_readsRank_0 rfl rfl ?_
  refine zv_iconst (v := 3) G dX10_readsRank_1 (by decide) ?_
  refine zv_icmp_ne (tgt := 10) G dX10_readsRank_2 (by decide) (fun c_2 => ?_) (fun c_2 => ?_)
  · exact absurd c_2 (by decide)
  · have k_2 := z_ceq c_2 (a := 3) (b := 3) rfl rfl
    refine zv_aload_n (j := 0) G dX10_readsRank_5 rfl rfl ?_
    refine zv_callVi (as := []) G (by decide) rfl rfl (zc_X10_readsThing_at0 l E  σ hz) zk_X10_readsThing zm_1646 rfl ⟨(Nat.le_of_ble_eq_true rfl), (Nat.le_of_ble_eq_true rfl)⟩ ⟨Nat.zero_le _, Nat.zero_le _⟩ (Nat.le_of_ble_eq_true rfl) dX10_readsRank_6 (fun r_6 σ h_6 => ?_)
    have z6 := h_6
    exact zv_zret G hr dX10_readsRank_9 (z_nar (Or.inl z6.1)) z6
set_option maxHeartbeats 4000000 in
set_option maxRecDepth 100000 in
theorem zc_X10_readsRank_atz2 (l : Launch) (E : za_E)  (σ0 : za_S) (h0 : wzZ σ0) : zMi l E yX10_readsRank cX10_readsRank 4 (Option.some Jvm.ClassFile.FieldType.boolean) 6 127 [za_O 19 93, za_I 2] σ0 (fun r σ' => r = 0 ∧ wzZ σ') := by
  refine zMi_of [(0, za_O 19 93), (1, za_I 2)] (by decide) rfl rfl (Nat.le_of_ble_eq_true rfl) ?_
  intro ho p e s m args below meth c G hr
  refine zv_gen (R9 := wzZ) h0 (fun σ hz => ?_)
  refine zv_iload_n (j := 1) G dX10_readsRank_0 rfl rfl ?_
  refine zv_iconst (v := 3) G dX10_readsRank_1 (by decide) ?_
  refine zv_icmp_ne (tgt := 10) G dX10_readsRank_2 (by decide) (fun c_2 => ?_) (fun c_2 => ?_)
  · have k_2 := z_cne c_2 (a := 2) (b := 3) rfl rfl
    refine zv_aload_n (j := 0) G dX10_readsRank_10 rfl rfl ?_
    refine zv_iload_n (j := 1) G dX10_readsRank_11 rfl rfl ?_
    refine zv_iconst (v := 1) G dX10_readsRank_12 (by decide) ?_
    refine zv_iadd G dX10_readsRank_13 ?_
    refine zv_cst (y := 3) (by decide) ?_
    refine zv_callVi (as := [za_I 3]) G (by decide) rfl rfl (zc_X10_readsRank_atz3 l E  σ hz) zk_X10_readsRank zm_1642 rfl ⟨(Nat.le_of_ble_eq_true rfl), (Nat.le_of_ble_eq_true rfl)⟩ ⟨Nat.zero_le _, Nat.zero_le _⟩ (Nat.le_of_ble_eq_true rfl) dX10_readsRank_14 (fun r_14 σ h_14 => ?_)
    have a_14 := h_14.1
    have hz := h_14.2
    refine zv_if_ne (tgt := 22) G dX10_readsRank_17 (by decide) (fun c_17 => ?_) (fun c_17 => ?_)
    · exact absurd a_14 c_17
    · refine zv_iconst (v := 0) G dX10_readsRank_20 (by decide) ?_
      exact zv_zret G hr dX10_readsRank_21 (by decide) ⟨rfl, hz⟩
  · exact absurd c_2 (by decide)
set_option maxHeartbeats 4000000 in
set_option maxRecDepth 100000 in
theorem zc_X10_readsRank_atz1 (l : Launch) (E : za_E)  (σ0 : za_S) (h0 : wzZ σ0) : zMi l E yX10_readsRank cX10_readsRank 4 (Option.some Jvm.ClassFile.FieldType.boolean) 7 150 [za_O 19 93, za_I 1] σ0 (fun r σ' => r = 0 ∧ wzZ σ') := by
  refine zMi_of [(0, za_O 19 93), (1, za_I 1)] (by decide) rfl rfl (Nat.le_of_ble_eq_true rfl) ?_
  intro ho p e s m args below meth c G hr
  refine zv_gen (R9 := wzZ) h0 (fun σ hz => ?_)
  refine zv_iload_n (j := 1) G dX10_readsRank_0 rfl rfl ?_
  refine zv_iconst (v := 3) G dX10_readsRank_1 (by decide) ?_
  refine zv_icmp_ne (tgt := 10) G dX10_readsRank_2 (by decide) (fun c_2 => ?_) (fun c_2 => ?_)
  · have k_2 := z_cne c_2 (a := 1) (b := 3) rfl rfl
    refine zv_aload_n (j := 0) G dX10_readsRank_10 rfl rfl ?_
    refine zv_iload_n (j := 1) G dX10_readsRank_11 rfl rfl ?_
    refine zv_iconst (v := 1) G dX10_readsRank_12 (by decide) ?_
    refine zv_iadd G dX10_readsRank_13 ?_
    refine zv_cst (y := 2) (by decide) ?_
    refine zv_callVi (as := [za_I 2]) G (by decide) rfl rfl (zc_X10_readsRank_atz2 l E  σ hz) zk_X10_readsRank zm_1642 rfl ⟨(Nat.le_of_ble_eq_true rfl), (Nat.le_of_ble_eq_true rfl)⟩ ⟨Nat.zero_le _, Nat.zero_le _⟩ (Nat.le_of_ble_eq_true rfl) dX10_readsRank_14 (fun r_14 σ h_14 => ?_)
    have a_14 := h_14.1
    have hz := h_14.2
    refine zv_if_ne (tgt := 22) G dX10_readsRank_17 (by decide) (fun c_17 => ?_) (fun c_17 => ?_)
    · exact absurd a_14 c_17
    · refine zv_iconst (v := 0) G dX10_readsRank_20 (by decide) ?_
      exact zv_zret G hr dX10_readsRank_21 (by decide) ⟨rfl, hz⟩
  · exact absurd c_2 (by decide)
set_option maxHeartbeats 4000000 in
set_option maxRecDepth 100000 in
theorem zc_X10_readsRank_atz0 (l : Launch) (E : za_E)  (σ0 : za_S) (h0 : wzZ σ0) : zMi l E yX10_readsRank cX10_readsRank 4 (Option.some Jvm.ClassFile.FieldType.boolean) 8 173 [za_O 19 93, za_I 0] σ0 (fun r σ' => r = 0 ∧ wzZ σ') := by
  refine zMi_of [(0, za_O 19 93), (1, za_I 0)] (by decide) rfl rfl (Nat.le_of_ble_eq_true rfl) ?_
  intro ho p e s m args below meth c G hr
  refine zv_gen (R9 := wzZ) h0 (fun σ hz => ?_)
  refine zv_iload_n (j := 1) G dX10_readsRank_0 rfl rfl ?_
  refine zv_iconst (v := 3) G dX10_readsRank_1 (by decide) ?_
  refine zv_icmp_ne (tgt := 10) G dX10_readsRank_2 (by decide) (fun c_2 => ?_) (fun c_2 => ?_)
  · have k_2 := z_cne c_2 (a := 0) (b := 3) rfl rfl
    refine zv_aload_n (j := 0) G dX10_readsRank_10 rfl rfl ?_
    refine zv_iload_n (j := 1) G dX10_readsRank_11 rfl rfl ?_
    refine zv_iconst (v := 1) G dX10_readsRank_12 (by decide) ?_
    refine zv_iadd G dX10_readsRank_13 ?_
    refine zv_cst (y := 1) (by decide) ?_
    refine zv_callVi (as := [za_I 1]) G (by decide) rfl rfl (zc_X10_readsRank_atz1 l E  σ hz) zk_X10_readsRank zm_1642 rfl ⟨(Nat.le_of_ble_eq_true rfl), (Nat.le_of_ble_eq_true rfl)⟩ ⟨Nat.zero_le _, Nat.zero_le _⟩ (Nat.le_of_ble_eq_true rfl) dX10_readsRank_14 (fun r_14 σ h_14 => ?_)
    have a_14 := h_14.1
    have hz := h_14.2
    refine zv_if_ne (tgt := 22) G dX10_readsRank_17 (by decide) (fun c_17 => ?_) (fun c_17 => ?_)
    · exact absurd a_14 c_17
    · refine zv_iconst (v := 0) G dX10_readsRank_20 (by decide) ?_
      exact zv_zret G hr dX10_readsRank_21 (by decide) ⟨rfl, hz⟩
  · exact absurd c_2 (by decide)
set_option maxHeartbeats 4000000 in
set_option maxRecDepth 100000 in
theorem zc_X10_faultOf_at0 (l : Launch) (E : za_E)  (σ : za_S) (h0 : wzZ σ) : zMi l E yX10_faultOf cX10_faultOf 5 (Option.some Jvm.ClassFile.FieldType.int) 1 21 [za_O 19 93, za_I 0, za_I 40, za_I 0] σ (fun r σ' => (r = (-1)) ∧ σ' = σ) := by
  refine zMi_of [(0, za_O 19 93), (1, za_I 0), (2, za_I 40), (3, za_I 0)] (by decide) rfl rfl (Nat.le_of_ble_eq_true rfl) ?_
  intro ho p e s m args below meth c G hr
  refine zv_iload_n (j := 3) G dX10_faultOf_0 rfl rfl ?_
  refine zv_if_eq (tgt := 19) G dX10_faultOf_1 (by decide) (fun c_1 => ?_) (fun c_1 => ?_)
  · have k_1 := z_ceq c_1 (a := 0) (b := 0) rfl rfl
    refine zv_iconst (v := 0) G dX10_faultOf_19 (by decide) ?_
    refine zv_istore (lv' := [(4, za_I 0), (0, za_O 19 93), (1, za_I 0), (2, za_I 40), (3, za_I 0)]) G dX10_faultOf_20 (by decide) rfl ?_
    refine zv_iload_n (j := 2) G dX10_faultOf_22 rfl rfl ?_
    refine zv_iload_n (j := 3) G dX10_faultOf_23 rfl rfl ?_
    refine zv_icmp_le (tgt := 44) G dX10_faultOf_24 (by decide) (fun c_24 => ?_) (fun c_24 => ?_)
    · have k_24 := z_cle c_24 (a := 0) (b := 40) rfl rfl
      refine zv_iload (j := 0) G dX10_faultOf_44 rfl ?_
      refine zv_if_eq (tgt := 53) G dX10_faultOf_46 (by decide) (fun c_46 => ?_) (fun c_46 => ?_)
      · have k_46 := z_ceq c_46 (a := 0) (b := 0) rfl rfl
        refine zv_iconst (v := (-1)) G dX10_faultOf_53 (by decide) ?_
        refine zv_aload_n (j := 1) G dX10_faultOf_54 rfl rfl ?_
        refine zg_X10_29 G dX10_faultOf_55 ?_
        refine zv_isub G dX10_faultOf_58 ?_
        exact zv_iret G hr dX10_faultOf_59 ⟨(by rw [h0 93 (by decide) 5]; decide), rfl⟩
      · exact absurd c_46 (by decide)
    · exact absurd c_24 (by decide)
  · exact absurd c_1 (by decide)
set_option maxHeartbeats 4000000 in
set_option maxRecDepth 100000 in
theorem zc_X10_where_at0 (l : Launch) (E : za_E) (t : Int32) (σ0 : za_S) (h0 : wzZ σ0) : zMi l E yX10_where cX10_where 11 (Option.some Jvm.ClassFile.FieldType.int) 9 196 [za_O 19 93, za_I t] σ0 (fun r σ' => r = (-1000)) := by
  refine zMi_of [(0, za_O 19 93), (1, za_I t)] (by decide) rfl rfl (Nat.le_of_ble_eq_true rfl) ?_
  intro ho p e s m args below meth c G hr
  refine zv_gen (R9 := wzZ) h0 (fun σ hz => ?_)
  refine zv_aload_n (j := 0) G dX10_where_0 rfl rfl ?_
  refine zv_iconst (v := 0) G dX10_where_1 (by decide) ?_
  refine zp_X10_3 G dX10_where_2 ?_
  refine zv_gen (R9 := wzZ) (wzZ_w hz) (fun σ hz => ?_)
  refine zv_aload_n (j := 0) G dX10_where_5 rfl rfl ?_
  refine zv_bipush (v := 40) G dX10_where_6 (by decide) ?_
  refine zv_callVi (as := [za_I 40]) G (by decide) rfl rfl (zc_X10_reads_at0 l E (40 : Int32) σ hz (by decide)) zk_X10_reads zm_1482 rfl ⟨(Nat.le_of_ble_eq_true rfl), (Nat.le_of_ble_eq_true rfl)⟩ ⟨Nat.zero_le _, Nat.zero_le _⟩ (Nat.le_of_ble_eq_true rfl) dX10_where_8 (fun r_8 σ h_8 => ?_)
  obtain ⟨a_8, hz⟩ := h_8
  subst a_8
  refine zv_istore_n (lv' := [(2, za_I 0), (0, za_O 19 93), (1, za_I t)]) G dX10_where_11 rfl (by decide) rfl ?_
  refine zv_aload_n (j := 1) G dX10_where_12 rfl rfl ?_
  refine zv_iconst (v := 0) G dX10_where_13 (by decide) ?_
  refine zp_X10_73 G dX10_where_14 ?_
  refine zv_gen (R9 := wzZ) (wzZ_w hz) (fun σ hz => ?_)
  refine zv_aload_n (j := 1) G dX10_where_17 rfl rfl ?_
  refine zv_iconst (v := 0) G dX10_where_18 (by decide) ?_
  refine zv_callVi (as := [za_I 0]) G (by decide) rfl rfl (zc_X10_readsRank_atz0 l E  σ hz) zk_X10_readsRank zm_1642 rfl ⟨(Nat.le_of_ble_eq_true rfl), (Nat.le_of_ble_eq_true rfl)⟩ ⟨Nat.zero_le _, Nat.zero_le _⟩ (Nat.le_of_ble_eq_true rfl) dX10_where_19 (fun r_19 σ h_19 => ?_)
  obtain ⟨a_19, hz⟩ := h_19
  subst a_19
  refine zv_istore_n (lv' := [(3, za_I 0), (2, za_I 0), (0, za_O 19 93), (1, za_I t)]) G dX10_where_22 rfl (by decide) rfl ?_
  refine zv_aload_n (j := 2) G dX10_where_23 rfl rfl ?_
  refine zv_iload_n (j := 1) G dX10_where_24 rfl rfl ?_
  refine zv_bipush (v := 40) G dX10_where_25 (by decide) ?_
  refine zv_iload_n (j := 0) G dX10_where_27 rfl rfl ?_
  refine zv_callVi (as := [za_I 0, za_I 40, za_I 0]) G (by decide) rfl rfl (zc_X10_faultOf_at0 l E  σ hz) zk_X10_faultOf zm_1662 rfl ⟨(Nat.le_of_ble_eq_true rfl), (Nat.le_of_ble_eq_true rfl)⟩ ⟨Nat.zero_le _, Nat.zero_le _⟩ (Nat.le_of_ble_eq_true rfl) dX10_where_28 (fun r_28 σ h_28 => ?_)
  obtain ⟨h_28, rfl⟩ := h_28
  subst h_28
  refine zv_istore (lv' := [(4, za_I (-1)), (3, za_I 0), (2, za_I 0), (0, za_O 19 93), (1, za_I t)]) G dX10_where_31 (by decide) rfl ?_
  refine zv_iload (j := 0) G dX10_where_33 rfl ?_
  refine zv_if_ge (tgt := 47) G dX10_where_35 (by decide) (fun c_35 => ?_) (fun c_35 => ?_)
  · exact absurd c_35 (by decide)
  · have k_35 := z_cnle c_35 (a := 0) (b := -1) rfl rfl
    refine zv_iload (j := 0) G dX10_where_38 rfl ?_
    refine zv_iconst (v := 1) G dX10_where_40 (by decide) ?_
    refine zv_iadd G dX10_where_41 ?_
    refine zv_sipush (v := 1000) G dX10_where_42 (by decide) ?_
    refine zv_isub G dX10_where_45 ?_
    exact zv_iret G hr dX10_where_46 (by decide)
set_option maxHeartbeats 4000000 in
set_option maxRecDepth 100000 in
theorem zc_X10_work_at0 (l : Launch) (E : za_E)  (σ0 : za_S) (h0 : wzZ σ0) : zMi l E yX10_work cX10_work 2 (Option.some Jvm.ClassFile.FieldType.int) 6 136 [za_O 19 93] σ0 (fun r σ' => r = 0) := by
  refine zMi_of [(0, za_O 19 93)] (by decide) rfl rfl (Nat.le_of_ble_eq_true rfl) ?_
  intro ho p e s m args below meth c G hr
  refine zv_gen (R9 := wzZ) h0 (fun σ hz => ?_)
  refine zv_aload_n (j := 0) G dX10_work_0 rfl rfl ?_
  refine zv_iconst (v := 0) G dX10_work_1 (by decide) ?_
  refine zp_X10_3 G dX10_work_2 ?_
  refine zv_gen (R9 := wzZ) (wzZ_w hz) (fun σ hz => ?_)
  refine zv_aload_n (j := 0) G dX10_work_5 rfl rfl ?_
  refine zv_bipush (v := 80) G dX10_work_6 (by decide) ?_
  refine zv_callVi (as := [za_I 80]) G (by decide) rfl rfl (zc_X10_reads_at0 l E (80 : Int32) σ hz (by decide)) zk_X10_reads zm_1482 rfl ⟨(Nat.le_of_ble_eq_true rfl), (Nat.le_of_ble_eq_true rfl)⟩ ⟨Nat.zero_le _, Nat.zero_le _⟩ (Nat.le_of_ble_eq_true rfl) dX10_work_8 (fun r_8 σ h_8 => ?_)
  have hz := h_8.2
  refine zv_popI G dX10_work_11 ?_
  refine zv_aload_n (j := 0) G dX10_work_12 rfl rfl ?_
  refine zv_iconst (v := 0) G dX10_work_13 (by decide) ?_
  refine zp_X10_332 G dX10_work_14 ?_
  refine zv_gen (R9 := wzZ) (wzZ_w hz) (fun σ hz => ?_)
  refine zv_aload_n (j := 0) G dX10_work_17 rfl rfl ?_
  refine zg_X10_29 G dX10_work_18 ?_
  refine zv_aload_n (j := 0) G dX10_work_21 rfl rfl ?_
  refine zg_X10_41 G dX10_work_22 ?_
  refine zv_icmp_ge (tgt := 42) G dX10_work_25 (by decide) (fun c_25 => ?_) (fun c_25 => ?_)
  · have k_25 := z_cle c_25 (a := (σ.1 93 6).toInt) (b := (σ.1 93 5).toInt) rfl rfl
    refine zv_aload_n (j := 0) G dX10_work_42 rfl rfl ?_
    refine zv_callVv (as := []) G (by decide) rfl rfl (zc_X10_putsBy l E  σ (by rw [hz 93 (by decide) 17]; decide)) zk_X10_putsBy zm_1367 rfl ⟨(Nat.le_of_ble_eq_true rfl), (Nat.le_of_ble_eq_true rfl)⟩ ⟨Nat.zero_le _, Nat.zero_le _⟩ (Nat.le_of_ble_eq_true rfl) dX10_work_43 (fun σ h_43 => ?_)
    have hz := wzZ_rw hz h_43
    refine zv_iconst (v := 0) G dX10_work_46 (by decide) ?_
    refine zv_istore_n (lv' := [(1, za_I 0), (0, za_O 19 93)]) G dX10_work_47 rfl (by decide) rfl ?_
    refine zv_iload_n (j := 0) G dX10_work_48 rfl rfl ?_
    refine zv_aload_n (j := 1) G dX10_work_49 rfl rfl ?_
    refine zg_X10_332 G dX10_work_50 ?_
    refine zv_icmp_ge (tgt := 70) G dX10_work_53 (by decide) (fun c_53 => ?_) (fun c_53 => ?_)
    · have k_53 := z_cle c_53 (a := (σ.1 93 23).toInt) (b := 0) rfl rfl
      refine zv_aload_n (j := 1) G dX10_work_70 rfl rfl ?_
      refine zv_iconst (v := 0) G dX10_work_71 (by decide) ?_
      refine zp_X10_15 G dX10_work_72 ?_
      refine zv_gen (R9 := (fun σ => (∀ i, σ.1 99 i = 0) ∧ σ.1 93 1 = 0)) ⟨fun i => by rw [(za_si_off 99 (by decide)).1]; exact hz 99 (by decide) i, za_si_same _ _ _ _⟩ (fun σ hz => ?_)
      refine zv_aload_n (j := 1) G dX10_work_75 rfl rfl ?_
      refine zv_iload_n (j := 0) G dX10_work_76 rfl rfl ?_
      refine zv_aload_n (j := 1) G dX10_work_77 rfl rfl ?_
      refine zg_X10_332 G dX10_work_78 ?_
      refine zv_icmp_ge (tgt := 88) G dX10_work_81 (by decide) (fun c_81 => ?_) (fun c_81 => ?_)
      · have k_81 := z_cle c_81 (a := (σ.1 93 23).toInt) (b := 0) rfl rfl
        refine zv_iconst (v := 0) G dX10_work_88 (by decide) ?_
        refine zv_callSi (as := [za_I 0]) G (zc_X10_flag l E (0 : Int32) σ ) zk_X10_flag zm_1355 rfl ⟨(Nat.le_of_ble_eq_true rfl), (Nat.le_of_ble_eq_true rfl)⟩ ⟨Nat.zero_le _, Nat.zero_le _⟩ (Nat.le_of_ble_eq_true rfl) dX10_work_89 (fun r_89 σ h_89 => ?_)
        obtain ⟨h_89, rfl⟩ := h_89
        have g_89 := z_flagT h_89.2 (a := 0) rfl
        refine zv_i2l G dX10_work_92 ?_
        refine zv_callVv (as := [za_L r_89.toInt64]) G (by decide) rfl rfl (zc_X10_enters l E r_89.toInt64 σ (by rw [hz.2]; decide)) zk_X10_enters zm_1422 rfl ⟨(Nat.le_of_ble_eq_true rfl), (Nat.le_of_ble_eq_true rfl)⟩ ⟨Nat.zero_le _, Nat.zero_le _⟩ (Nat.le_of_ble_eq_true rfl) dX10_work_93 (fun σ h_93 => ?_)
        have hz := wzen1 hz h_93
        refine zv_aload_n (j := 1) G dX10_work_96 rfl rfl ?_
        refine zv_aload_n (j := 1) G dX10_work_97 rfl rfl ?_
        refine zg_X10_118 G dX10_work_98 ?_
        refine zv_iconst (v := 0) G dX10_work_101 (by decide) ?_
        refine zv_callSi (as := [za_O 22 99, za_I 0]) G (zc_X10_rowsOf l E 99 (0 : Int32) σ (by decide)) zk_X10_rowsOf zm_1352 rfl ⟨(Nat.le_of_ble_eq_true rfl), (Nat.le_of_ble_eq_true rfl)⟩ ⟨Nat.zero_le _, Nat.zero_le _⟩ (Nat.le_of_ble_eq_true rfl) dX10_work_102 (fun r_102 σ h_102 => ?_)
        obtain ⟨h_102, rfl⟩ := h_102
        refine zv_aload_n (j := 1) G dX10_work_105 rfl rfl ?_
        refine zg_X10_118 G dX10_work_106 ?_
        refine zv_iconst (v := 1) G dX10_work_109 (by decide) ?_
        refine zv_callSi (as := [za_O 22 99, za_I 1]) G (zc_X10_rowsOf l E 99 (1 : Int32) σ (by decide)) zk_X10_rowsOf zm_1352 rfl ⟨(Nat.le_of_ble_eq_true rfl), (Nat.le_of_ble_eq_true rfl)⟩ ⟨Nat.zero_le _, Nat.zero_le _⟩ (Nat.le_of_ble_eq_true rfl) dX10_work_110 (fun r_110 σ h_110 => ?_)
        obtain ⟨h_110, rfl⟩ := h_110
        refine zv_iadd G dX10_work_113 ?_
        refine zv_i2l G dX10_work_114 ?_
        refine zv_callVv (as := [za_L ((r_102 + r_110).toInt64)]) G (by decide) rfl rfl (zc_X10_enters l E ((r_102 + r_110).toInt64) σ (by rw [hz.2]; decide)) zk_X10_enters zm_1422 rfl ⟨(Nat.le_of_ble_eq_true rfl), (Nat.le_of_ble_eq_true rfl)⟩ ⟨Nat.zero_le _, Nat.zero_le _⟩ (Nat.le_of_ble_eq_true rfl) dX10_work_115 (fun σ h_115 => ?_)
        have hz := wzen1 hz h_115
        refine zv_iload_n (j := 0) G dX10_work_118 rfl rfl ?_
        refine zv_if_le (tgt := 130) G dX10_work_119 (by decide) (fun c_119 => ?_) (fun c_119 => ?_)
        · have k_119 := z_cle c_119 (a := 0) (b := 0) rfl rfl
          refine zv_iconst (v := 0) G dX10_work_130 (by decide) ?_
          exact zv_iret G hr dX10_work_131 rfl
        · exact absurd c_119 (by decide)
      · have k_81 := z_cnle c_81 (a := (σ.1 93 23).toInt) (b := 0) rfl rfl
        refine zv_iconst (v := 1) G dX10_work_84 (by decide) ?_
        refine zv_goto (tgt := 89) G dX10_work_85 (by decide) ?_
        refine zv_callSi (as := [za_I 1]) G (zc_X10_flag l E (1 : Int32) σ ) zk_X10_flag zm_1355 rfl ⟨(Nat.le_of_ble_eq_true rfl), (Nat.le_of_ble_eq_true rfl)⟩ ⟨Nat.zero_le _, Nat.zero_le _⟩ (Nat.le_of_ble_eq_true rfl) dX10_work_89 (fun r_89 σ h_89 => ?_)
        obtain ⟨h_89, rfl⟩ := h_89
        have g_89 := z_flagT h_89.2 (a := 1) rfl
        refine zv_i2l G dX10_work_92 ?_
        refine zv_callVv (as := [za_L r_89.toInt64]) G (by decide) rfl rfl (zc_X10_enters l E r_89.toInt64 σ (by rw [hz.2]; decide)) zk_X10_enters zm_1422 rfl ⟨(Nat.le_of_ble_eq_true rfl), (Nat.le_of_ble_eq_true rfl)⟩ ⟨Nat.zero_le _, Nat.zero_le _⟩ (Nat.le_of_ble_eq_true rfl) dX10_work_93 (fun σ h_93 => ?_)
        have hz := wzen1 hz h_93
        refine zv_aload_n (j := 1) G dX10_work_96 rfl rfl ?_
        refine zv_aload_n (j := 1) G dX10_work_97 rfl rfl ?_
        refine zg_X10_118 G dX10_work_98 ?_
        refine zv_iconst (v := 0) G dX10_work_101 (by decide) ?_
        refine zv_callSi (as := [za_O 22 99, za_I 0]) G (zc_X10_rowsOf l E 99 (0 : Int32) σ (by decide)) zk_X10_rowsOf zm_1352 rfl ⟨(Nat.le_of_ble_eq_true rfl), (Nat.le_of_ble_eq_true rfl)⟩ ⟨Nat.zero_le _, Nat.zero_le _⟩ (Nat.le_of_ble_eq_true rfl) dX10_work_102 (fun r_102 σ h_102 => ?_)
        obtain ⟨h_102, rfl⟩ := h_102
        refine zv_aload_n (j := 1) G dX10_work_105 rfl rfl ?_
        refine zg_X10_118 G dX10_work_106 ?_
        refine zv_iconst (v := 1) G dX10_work_109 (by decide) ?_
        refine zv_callSi (as := [za_O 22 99, za_I 1]) G (zc_X10_rowsOf l E 99 (1 : Int32) σ (by decide)) zk_X10_rowsOf zm_1352 rfl ⟨(Nat.le_of_ble_eq_true rfl), (Nat.le_of_ble_eq_true rfl)⟩ ⟨Nat.zero_le _, Nat.zero_le _⟩ (Nat.le_of_ble_eq_true rfl) dX10_work_110 (fun r_110 σ h_110 => ?_)
        obtain ⟨h_110, rfl⟩ := h_110
        refine zv_iadd G dX10_work_113 ?_
        refine zv_i2l G dX10_work_114 ?_
        refine zv_callVv (as := [za_L ((r_102 + r_110).toInt64)]) G (by decide) rfl rfl (zc_X10_enters l E ((r_102 + r_110).toInt64) σ (by rw [hz.2]; decide)) zk_X10_enters zm_1422 rfl ⟨(Nat.le_of_ble_eq_true rfl), (Nat.le_of_ble_eq_true rfl)⟩ ⟨Nat.zero_le _, Nat.zero_le _⟩ (Nat.le_of_ble_eq_true rfl) dX10_work_115 (fun σ h_115 => ?_)
        have hz := wzen1 hz h_115
        refine zv_iload_n (j := 0) G dX10_work_118 rfl rfl ?_
        refine zv_if_le (tgt := 130) G dX10_work_119 (by decide) (fun c_119 => ?_) (fun c_119 => ?_)
        · have k_119 := z_cle c_119 (a := 0) (b := 0) rfl rfl
          refine zv_iconst (v := 0) G dX10_work_130 (by decide) ?_
          exact zv_iret G hr dX10_work_131 rfl
        · exact absurd c_119 (by decide)
    · exact absurd (show (σ.1 93 23) ≤ 0 by rw [hz 93 (by decide) 23]; decide) c_53
  · exact absurd (show (σ.1 93 6) ≤ (σ.1 93 5) by rw [hz 93 (by decide) 5, hz 93 (by decide) 6]; decide) c_25
