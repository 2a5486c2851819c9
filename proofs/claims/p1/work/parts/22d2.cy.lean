/-! ===== drawn acts, years: the class ===== -/
def wznx (R : Int32) : Int32 := R * 1103515245 + 12345
def wzdd (R n : Int32) : Int32 := ((wznx R).toUInt32 >>> ((16 : Int32).toUInt32 &&& Int32.toUInt32 31)).toInt32 - ((wznx R).toUInt32 >>> ((16 : Int32).toUInt32 &&& Int32.toUInt32 31)).toInt32 / n * n
theorem wzdd_r (R : Int32) {n : Int32} {N : Int} (hn : n.toInt = N) (h : 0 < N) : 0 ≤ (wzdd R n).toInt ∧ (wzdd R n).toInt < N := z_drw hn h
def wzdt (R : Int32) : Int := (wzdd (wznx R) 2).toInt
def wzdk (R : Int32) : Int := (wzdd (wznx (wznx R)) 10).toInt
def wzda (R : Int32) : Int := (wzdd (wznx (wznx (wznx R))) 100).toInt
def wzde (R : Int32) : Int := wzmn 100 ((wzdd (wznx (wznx (wznx R))) 100).toInt + (wzdd (wznx (wznx (wznx (wznx R)))) 20).toInt + 1)
def wzdv (R n : Int32) : Int := (wzdd (wznx (wznx (wznx (wznx (wznx R))))) n).toInt
def wzR5 (R : Int32) : Int32 := wznx (wznx (wznx (wznx (wznx R))))
def wzR6 (R : Int32) : Int32 := wznx (wznx (wznx (wznx (wznx (wznx R)))))
def wzDw (R R' : Int32) (S : Int → Int → Int → Int → Int → Prop) (F C : Int → Int → Int → Int → Prop) (J : Int → Prop) (A : Int → Int → Int → Int → Int → Prop) : Prop :=
  (wzdd R 6 = 2 → R' = wzR6 R ∧ S (wzdt R) (wzdk R) (wzdv R 100) (wzda R) (wzde R)) ∧ (wzdd R 6 = 3 → R' = wzR6 R ∧ F (wzdk R) (wzdv R 11) (wzda R) (wzde R)) ∧ (wzdd R 6 = 4 → R' = wzR5 R ∧ C (wzdt R) (wzdk R) (wzda R) (wzde R)) ∧ (wzdd R 6 = 5 → R' = wzR5 R ∧ J (wzdt R)) ∧
  (¬ wzdd R 6 = 2 → ¬ wzdd R 6 = 3 → ¬ wzdd R 6 = 4 → ¬ wzdd R 6 = 5 → R' = wzR6 R ∧ A (wzdt R) (wzdk R) (wzdv R 100) (wzda R) (wzde R))
section ZDW
variable {R R' : Int32} {S A : Int → Int → Int → Int → Int → Prop} {F C : Int → Int → Int → Int → Prop} {J : Int → Prop}
theorem wzDw_2 (e : wzdd R 6 = 2) (h : R' = wzR6 R) (s : S (wzdt R) (wzdk R) (wzdv R 100) (wzda R) (wzde R)) : wzDw R R' S F C J A := ⟨fun _ => ⟨h, s⟩, fun q => absurd (e.symm.trans q) (by decide), fun q => absurd (e.symm.trans q) (by decide), fun q => absurd (e.symm.trans q) (by decide), fun q => absurd e q⟩
theorem wzDw_3 (e : wzdd R 6 = 3) (h : R' = wzR6 R) (s : F (wzdk R) (wzdv R 11) (wzda R) (wzde R)) : wzDw R R' S F C J A := ⟨fun q => absurd (e.symm.trans q) (by decide), fun _ => ⟨h, s⟩, fun q => absurd (e.symm.trans q) (by decide), fun q => absurd (e.symm.trans q) (by decide), fun _ q => absurd e q⟩
theorem wzDw_4 (e : wzdd R 6 = 4) (h : R' = wzR5 R) (s : C (wzdt R) (wzdk R) (wzda R) (wzde R)) : wzDw R R' S F C J A := ⟨fun q => absurd (e.symm.trans q) (by decide), fun q => absurd (e.symm.trans q) (by decide), fun _ => ⟨h, s⟩, fun q => absurd (e.symm.trans q) (by decide), fun _ _ q => absurd e q⟩
theorem wzDw_5 (e : wzdd R 6 = 5) (h : R' = wzR5 R) (s : J (wzdt R)) : wzDw R R' S F C J A := ⟨fun q => absurd (e.symm.trans q) (by decide), fun q => absurd (e.symm.trans q) (by decide), fun q => absurd (e.symm.trans q) (by decide), fun _ => ⟨h, s⟩, fun _ _ _ q => absurd e q⟩
theorem wzDw_d (e2 : ¬ wzdd R 6 = 2) (e3 : ¬ wzdd R 6 = 3) (e4 : ¬ wzdd R 6 = 4) (e5 : ¬ wzdd R 6 = 5) (h : R' = wzR6 R) (s : A (wzdt R) (wzdk R) (wzdv R 100) (wzda R) (wzde R)) : wzDw R R' S F C J A := ⟨fun q => absurd q e2, fun q => absurd q e3, fun q => absurd q e4, fun q => absurd q e5, fun _ _ _ _ => ⟨h, s⟩⟩
end ZDW
def wzsC (R : Int32) (P : wzP) (R' : Int32) (P' : wzP) : Prop := wzDw R R' (fun t k v a b => wzCset t k 1 v a b P P') (fun k v a b => wzCref k v a b P P') (fun t k a b => wzCcut t k a b P P') (fun t => wzCjoin t P P') (fun t k v a b => wzCadd t k v a b P P')
def wzdy (P : wzP) (R : Int32) (σ0 σ : za_S) : Prop := wzNw σ P ∧ σ.1 0 11 = R ∧ ∀ w, 93 ≤ w → σ.1 w = σ0.1 w ∧ σ.2 w = σ0.2 w
theorem wzdy_0 {P : wzP} {σ : za_S} (h : wzNw σ P) : wzdy P (σ.1 0 11) σ σ := ⟨h, rfl, fun _ _ => ⟨rfl, rfl⟩⟩
theorem wzNw_0 {P : wzP} {σ : za_S} {j : Nat} {x : Int32} (h : wzNw σ P) : wzNw (za_si σ 0 j x) P := by
  refine ⟨wzSt_e h.1 (fun w a b => (za_si_off w (by omega)).1), ?_, h.2.2⟩
  rw [(za_si_off 1 (by decide)).1]
  exact h.2.1
theorem wzdy_d {P : wzP} {R : Int32} {σ0 σ σ' : za_S} (h : wzdy P R σ0 σ) (e : σ' = za_si σ 0 11 (wznx (σ.1 0 11))) : wzdy P (wznx R) σ0 σ' := by
  rw [e, h.2.1]
  refine ⟨wzNw_0 h.1, za_si_same _ _ _ _, fun w hw => ?_⟩
  rw [(za_si_off w (by omega)).1, (za_si_off w (by omega)).2]
  exact h.2.2 w hw
theorem wzdy_p {C : wzP → wzP → Prop} {P : wzP} {R : Int32} {σ0 σ σ' : za_S} (h : wzdy P R σ0 σ) (k : wzpo C P σ σ') : ∃ P', C P P' ∧ wzdy P' R σ0 σ' := by
  obtain ⟨k1, P', k2, k3⟩ := k
  exact ⟨P', k2, k3, by rw [k1.2]; exact h.2.1, fun w hw => ⟨((k1.1 w hw).1).trans (h.2.2 w hw).1, ((k1.1 w hw).2).trans (h.2.2 w hw).2⟩⟩
def wzRun {X : Type} (st : Int32 → X → Int32 → X → Prop) : Nat → Int32 → X → Int32 → X → Prop
  | 0, R, x, R', x' => R' = R ∧ x' = x
  | n + 1, R, x, R', x' => ∃ R1 x1, wzRun st n R x R1 x1 ∧ st R1 x1 R' x'
theorem wz01 {r : Int32} (h : 0 ≤ r.toInt ∧ r.toInt < 2) : r = 0 ∨ r = 1 := by
  rcases (show r.toInt = 0 ∨ r.toInt = 1 by omega) with q | q
  · exact Or.inl (Int32.toInt_inj.mp q)
  · exact Or.inr (Int32.toInt_inj.mp q)
theorem wzde_T {a b x : Int32} (ha : 0 ≤ a.toInt ∧ a.toInt < 100) (hb : 0 ≤ b.toInt ∧ b.toInt < 20) (e : x = if a + b + 1 < 100 then a + b + 1 else 100) : x.toInt = wzmn 100 (a.toInt + b.toInt + 1) := by
  have h1 : (a + b).toInt = a.toInt + b.toInt := z_add (by omega) (by omega)
  have h2 : (a + b + 1).toInt = a.toInt + b.toInt + 1 := by rw [z_add (by rw [z_one]; omega) (by rw [z_one]; omega), h1, z_one]
  exact wz_mnT e rfl h2
def wzyr (n seed : Int32) (r : Int) : Prop := (¬ (1 ≤ n.toInt ∧ n.toInt ≤ 40) ∧ r = -1) ∨ ((1 ≤ n.toInt ∧ n.toInt ≤ 40) ∧ ∃ R' P, wzRun wzsC n.toInt.toNat seed ([], []) R' P ∧ r = P.1.length + P.2.length)
def wzyl (seed : Int32) (n : Nat) (σ0 σ : za_S) : Prop := ∃ R' P, wzRun wzsC n seed ([], []) R' P ∧ wzdy P R' σ0 σ
theorem wzyl_s {seed : Int32} {n : Nat} {P : wzP} {R' : Int32} {σ0 σ1 σ : za_S} (h : wzRun wzsC n seed ([], []) R' P) (hz : wzdy P R' σ0 σ1) (k : ∃ P' R2, wzsC (σ1.1 0 11) P R2 P' ∧ wzdy P' R2 σ1 σ) : wzyl seed (n + 1) σ0 σ := by
  obtain ⟨P', R2, k1, k2⟩ := k
  rw [hz.2.1] at k1
  exact ⟨R2, P', ⟨R', P, h, k1⟩, k2.1, k2.2.1, fun w hw => ⟨((k2.2.2 w hw).1).trans (hz.2.2 w hw).1, ((k2.2.2 w hw).2).trans (hz.2.2 w hw).2⟩⟩
theorem wzyl_0 {seed : Int32} {σ0 : za_S} (h : wzNw σ0 ([], [])) : wzyl seed 0 σ0 (za_si σ0 0 11 seed) := ⟨seed, ([], []), ⟨rfl, rfl⟩, wzNw_0 h, za_si_same _ _ _ _, fun w hw => by rw [(za_si_off w (by omega)).1]; exact ⟨rfl, (za_si_off (σ := σ0) (j := 11) (x := seed) w (show w ≠ 0 by omega)).2⟩⟩
theorem wzyl_l {seed : Int32} {n : Nat} {σ0 σ σ' : za_S} (h : wzyl seed n σ0 σ) (k : wztl σ σ') : wzyl seed n σ0 σ' := by
  obtain ⟨R', P, h1, h2, h3, h4⟩ := h
  refine ⟨R', P, h1, ⟨wzSt_e h2.1 (fun w a b => k.1 w (by omega)), by rw [k.1 1 (by decide)]; exact h2.2.1, h2.2.2⟩, by rw [k.1 0 (by decide)]; exact h3, fun w hw => ⟨(k.1 w (by omega)).trans (h4 w hw).1, (k.2 w (by omega)).trans (h4 w hw).2⟩⟩
theorem wzyl_f {seed n y : Int32} {σ0 σ : za_S} (hn : 1 ≤ n.toInt ∧ n.toInt ≤ 40) (e : y.toInt.toNat = n.toInt.toNat) (h : wzyl seed y.toInt.toNat σ0 σ) : wzyr n seed (σ.1 2 1 + σ.1 4 1).toInt ∧ ∀ w, 93 ≤ w → σ.1 w = σ0.1 w ∧ σ.2 w = σ0.2 w := by
  obtain ⟨R', P, h1, h2, h3, h4⟩ := h
  have a1 : (σ.1 2 1).toInt = P.1.length := h2.1.1.1
  have a2 : (σ.1 4 1).toInt = P.2.length := h2.1.2.1
  have a3 := h2.2.2.2
  rw [e] at h1
  refine ⟨Or.inr ⟨hn, R', P, h1, ?_⟩, h4⟩
  rw [z_add (by omega) (by omega), a1, a2]
set_option maxHeartbeats 4000000 in
set_option maxRecDepth 100000 in
theorem zc_X9_draw_atx (l : Launch) (E : za_E) (nn : Int32) (σ0 : za_S) (hn : 0 < nn.toInt) : zMi l E yX9_draw cX9_draw 2 (Option.some Jvm.ClassFile.FieldType.int) 1 21 [za_O 0 0, za_I nn] σ0 (fun r σ' => r = wzdd (σ0.1 0 11) nn ∧ σ' = za_si σ0 0 11 (wznx (σ0.1 0 11))) := by
  refine zMi_of [(0, za_O 0 0), (1, za_I nn)] (by decide) rfl rfl (Nat.le_of_ble_eq_true rfl) ?_
  intro ho p e s m args below meth c G hr
  refine zv_aload_n (j := 0) G dX9_draw_0 rfl rfl ?_
  refine zv_aload_n (j := 0) G dX9_draw_1 rfl rfl ?_
  refine zg_X9_405 G dX9_draw_2 ?_
  refine zv_ldc_w (v := 1103515245) G dX9_draw_5 zm_1071 ?_
  refine zv_imul G dX9_draw_8 ?_
  refine zv_sipush (v := 12345) G dX9_draw_9 (by decide) ?_
  refine zv_iadd G dX9_draw_12 ?_
  refine zp_X9_405 G dX9_draw_13 ?_
  refine zv_iload_n (j := 1) G dX9_draw_16 rfl rfl ?_
  refine zv_if_le (tgt := 32) G dX9_draw_17 (by decide) (fun c_17 => ?_) (fun c_17 => ?_)
  · exact absurd (z_cle c_17 (a := nn.toInt) (b := 0) rfl rfl) (by omega)
  · have k_17 := z_cnle c_17 (a := nn.toInt) (b := 0) rfl rfl
    refine zv_aload_n (j := 0) G dX9_draw_20 rfl rfl ?_
    refine zg_X9_405 G dX9_draw_21 ?_
    refine zv_bipush (v := 16) G dX9_draw_24 (by decide) ?_
    refine zv_iushr G dX9_draw_26 ?_
    refine zv_iload_n (j := 1) G dX9_draw_27 rfl rfl ?_
    refine zv_irem G dX9_draw_28 (fun e9 => absurd (congrArg Int32.toInt e9) (by have u9 : (0 : Int32).toInt = 0 := (by decide); omega)) ?_
    refine zv_goto (tgt := 33) G dX9_draw_29 (by decide) ?_
    exact zv_iret G hr dX9_draw_33 ⟨rfl, rfl⟩
set_option maxHeartbeats 4000000 in
set_option maxRecDepth 100000 in
theorem zc_X9_doDrawnAct_atx (l : Launch) (E : za_E) (P : wzP) (σ0 : za_S) (hN : wzNw σ0 P) : zMv l E yX9_doDrawnAct cX9_doDrawnAct 6 (Option.none : Option Jvm.ClassFile.FieldType) 7 173 [za_O 0 0] σ0 (fun σ' => ∃ P' R2, wzsC (σ0.1 0 11) P R2 P' ∧ wzdy P' R2 σ0 σ') := by
  refine zMv_of [(0, za_O 0 0)] (by decide) rfl rfl (Nat.le_of_ble_eq_true rfl) ?_
  intro ho p e s m args below meth c G hr
  refine zv_gen (R9 := (wzdy P (σ0.1 0 11) σ0)) (wzdy_0 hN) (fun σ hz => ?_)
  refine zv_aload_n (j := 0) G dX9_doDrawnAct_0 rfl rfl ?_
  refine zv_bipush (v := 6) G dX9_doDrawnAct_1 (by decide) ?_
  refine zv_callVi (as := [za_I 6]) G (by decide) rfl rfl (zc_X9_draw_atx l E (6 : Int32) σ (by decide)) zk_X9_draw zm_1067 rfl ⟨(Nat.le_of_ble_eq_true rfl), (Nat.le_of_ble_eq_true rfl)⟩ ⟨Nat.zero_le _, Nat.zero_le _⟩ (Nat.le_of_ble_eq_true rfl) dX9_doDrawnAct_3 (fun r_3 σ h_3 => ?_)
  have d_3 := h_3.1
  rw [hz.2.1] at d_3
  have q_3 : 0 ≤ r_3.toInt ∧ r_3.toInt < 6 := by rw [d_3]; exact wzdd_r _ rfl (by decide)
  have hz := wzdy_d hz h_3.2
  refine zv_istore_n (lv' := [(1, za_I r_3), (0, za_O 0 0)]) G dX9_doDrawnAct_6 rfl (by decide) rfl ?_
  refine zv_aload_n (j := 1) G dX9_doDrawnAct_7 rfl rfl ?_
  refine zv_iconst (v := 2) G dX9_doDrawnAct_8 (by decide) ?_
  refine zv_callVi (as := [za_I 2]) G (by decide) rfl rfl (zc_X9_draw_atx l E (2 : Int32) σ (by decide)) zk_X9_draw zm_1067 rfl ⟨(Nat.le_of_ble_eq_true rfl), (Nat.le_of_ble_eq_true rfl)⟩ ⟨Nat.zero_le _, Nat.zero_le _⟩ (Nat.le_of_ble_eq_true rfl) dX9_doDrawnAct_9 (fun r_9 σ h_9 => ?_)
  have d_9 := h_9.1
  rw [hz.2.1] at d_9
  have q_9 : 0 ≤ r_9.toInt ∧ r_9.toInt < 2 := by rw [d_9]; exact wzdd_r _ rfl (by decide)
  have hz := wzdy_d hz h_9.2
  refine zv_istore_n (lv' := [(2, za_I r_9), (1, za_I r_3), (0, za_O 0 0)]) G dX9_doDrawnAct_12 rfl (by decide) rfl ?_
  refine zv_aload_n (j := 2) G dX9_doDrawnAct_13 rfl rfl ?_
  refine zv_bipush (v := 10) G dX9_doDrawnAct_14 (by decide) ?_
  refine zv_callVi (as := [za_I 10]) G (by decide) rfl rfl (zc_X9_draw_atx l E (10 : Int32) σ (by decide)) zk_X9_draw zm_1067 rfl ⟨(Nat.le_of_ble_eq_true rfl), (Nat.le_of_ble_eq_true rfl)⟩ ⟨Nat.zero_le _, Nat.zero_le _⟩ (Nat.le_of_ble_eq_true rfl) dX9_doDrawnAct_16 (fun r_16 σ h_16 => ?_)
  have d_16 := h_16.1
  rw [hz.2.1] at d_16
  have q_16 : 0 ≤ r_16.toInt ∧ r_16.toInt < 10 := by rw [d_16]; exact wzdd_r _ rfl (by decide)
  have hz := wzdy_d hz h_16.2
  refine zv_istore_n (lv' := [(3, za_I r_16), (2, za_I r_9), (1, za_I r_3), (0, za_O 0 0)]) G dX9_doDrawnAct_19 rfl (by decide) rfl ?_
  refine zv_aload_n (j := 3) G dX9_doDrawnAct_20 rfl rfl ?_
  refine zv_bipush (v := 100) G dX9_doDrawnAct_21 (by decide) ?_
  refine zv_callVi (as := [za_I 100]) G (by decide) rfl rfl (zc_X9_draw_atx l E (100 : Int32) σ (by decide)) zk_X9_draw zm_1067 rfl ⟨(Nat.le_of_ble_eq_true rfl), (Nat.le_of_ble_eq_true rfl)⟩ ⟨Nat.zero_le _, Nat.zero_le _⟩ (Nat.le_of_ble_eq_true rfl) dX9_doDrawnAct_23 (fun r_23 σ h_23 => ?_)
  have d_23 := h_23.1
  rw [hz.2.1] at d_23
  have q_23 : 0 ≤ r_23.toInt ∧ r_23.toInt < 100 := by rw [d_23]; exact wzdd_r _ rfl (by decide)
  have hz := wzdy_d hz h_23.2
  refine zv_istore (lv' := [(4, za_I r_23), (3, za_I r_16), (2, za_I r_9), (1, za_I r_3), (0, za_O 0 0)]) G dX9_doDrawnAct_26 (by decide) rfl ?_
  refine zv_bipush (v := 100) G dX9_doDrawnAct_28 (by decide) ?_
  refine zv_iload (j := 0) G dX9_doDrawnAct_30 rfl ?_
  refine zv_aload_n (j := 4) G dX9_doDrawnAct_32 rfl rfl ?_
  refine zv_bipush (v := 20) G dX9_doDrawnAct_33 (by decide) ?_
  refine zv_callVi (as := [za_I 20]) G (by decide) rfl rfl (zc_X9_draw_atx l E (20 : Int32) σ (by decide)) zk_X9_draw zm_1067 rfl ⟨(Nat.le_of_ble_eq_true rfl), (Nat.le_of_ble_eq_true rfl)⟩ ⟨Nat.zero_le _, Nat.zero_le _⟩ (Nat.le_of_ble_eq_true rfl) dX9_doDrawnAct_35 (fun r_35 σ h_35 => ?_)
  have d_35 := h_35.1
  rw [hz.2.1] at d_35
  have q_35 : 0 ≤ r_35.toInt ∧ r_35.toInt < 20 := by rw [d_35]; exact wzdd_r _ rfl (by decide)
  have hz := wzdy_d hz h_35.2
  refine zv_iadd G dX9_doDrawnAct_38 ?_
  refine zv_iconst (v := 1) G dX9_doDrawnAct_39 (by decide) ?_
  refine zv_iadd G dX9_doDrawnAct_40 ?_
  refine zv_mmin G zm_391 zm_392 zm_147 zm_393 (Nat.le_of_ble_eq_true rfl) (Nat.le_of_ble_eq_true rfl) (Nat.zero_le _) (Nat.zero_le _) dX9_doDrawnAct_41 ?_
  refine zv_top (fun x_41 e_41 => ?_)
  have p_41 := wzde_T q_23 q_35 e_41
  refine zv_istore (lv' := [(5, za_I x_41), (4, za_I r_23), (3, za_I r_16), (2, za_I r_9), (1, za_I r_3), (0, za_O 0 0)]) G dX9_doDrawnAct_44 (by decide) rfl ?_
  refine zv_iload_n (j := 4) G dX9_doDrawnAct_46 rfl rfl ?_
  rcases Decidable.em (r_3 = 2) with q_47_2 | q_47_2
  · refine zv_tabIn (off := 29) (tgt := 76) G dX9_doDrawnAct_47 (by rw [q_47_2]; decide) (by rw [q_47_2]; decide) (by rw [q_47_2]; rfl) (by decide) ?_
    refine zv_aload_n (j := 5) G dX9_doDrawnAct_76 rfl rfl ?_
    refine zv_iload_n (j := 3) G dX9_doDrawnAct_77 rfl rfl ?_
    refine zv_iload_n (j := 2) G dX9_doDrawnAct_78 rfl rfl ?_
    refine zv_aload_n (j := 5) G dX9_doDrawnAct_79 rfl rfl ?_
    refine zv_bipush (v := 100) G dX9_doDrawnAct_80 (by decide) ?_
    refine zv_callVi (as := [za_I 100]) G (by decide) rfl rfl (zc_X9_draw_atx l E (100 : Int32) σ (by decide)) zk_X9_draw zm_1067 rfl ⟨(Nat.le_of_ble_eq_true rfl), (Nat.le_of_ble_eq_true rfl)⟩ ⟨Nat.zero_le _, Nat.zero_le _⟩ (Nat.le_of_ble_eq_true rfl) dX9_doDrawnAct_82 (fun r_82 σ h_82 => ?_)
    have d_82 := h_82.1
    rw [hz.2.1] at d_82
    have q_82 : 0 ≤ r_82.toInt ∧ r_82.toInt < 100 := by rw [d_82]; exact wzdd_r _ rfl (by decide)
    have hz := wzdy_d hz h_82.2
    refine zv_iload (j := 1) G dX9_doDrawnAct_85 rfl ?_
    refine zv_iload (j := 0) G dX9_doDrawnAct_87 rfl ?_
    refine zv_callVi (as := [za_I r_9, za_I r_16, za_I r_82, za_I r_23, za_I x_41]) G (by decide) rfl rfl (zc_X9_setValue_atx l E r_9 r_16 r_82 r_23 x_41 _ σ hz.1 (wz01 q_9) (by omega) (by omega) (by rw [p_41]; have m_41 := wzmn_b 100 (r_23.toInt + r_35.toInt + 1); omega)) zk_X9_setValue zm_505 rfl ⟨(Nat.le_of_ble_eq_true rfl), (Nat.le_of_ble_eq_true rfl)⟩ ⟨Nat.zero_le _, Nat.zero_le _⟩ (Nat.le_of_ble_eq_true rfl) dX9_doDrawnAct_89 (fun r_89 σ h_89 => ?_)
    obtain ⟨P9, c9, hz⟩ := wzdy_p hz h_89
    refine zv_popI G dX9_doDrawnAct_92 ?_
    refine zv_goto (tgt := 155) G dX9_doDrawnAct_93 (by decide) ?_
    exact zv_vret G hr dX9_doDrawnAct_155 (by first | exact ⟨P9, _, wzDw_2 (d_3.symm.trans q_47_2) rfl (by rw [p_41, d_9, d_16, d_23, d_35, d_82] at c9; exact c9), hz⟩ | exact ⟨P9, _, wzDw_3 (d_3.symm.trans q_47_3) rfl (by rw [p_41, d_16, d_23, d_35, d_101] at c9; exact c9), hz⟩ | exact ⟨P9, _, wzDw_4 (d_3.symm.trans q_47_4) rfl (by rw [p_41, d_9, d_16, d_23, d_35] at c9; exact c9), hz⟩ | exact ⟨P9, _, wzDw_5 (d_3.symm.trans q_47_5) rfl (by rw [d_9] at c9; exact c9), hz⟩ | exact ⟨P9, _, wzDw_d (fun z => q_47_2 (d_3.trans z)) (fun z => q_47_3 (d_3.trans z)) (fun z => q_47_4 (d_3.trans z)) (fun z => q_47_5 (d_3.trans z)) rfl (by rw [p_41, d_9, d_16, d_23, d_35, d_144] at c9; exact c9), hz⟩)
  rcases Decidable.em (r_3 = 3) with q_47_3 | q_47_3
  · refine zv_tabIn (off := 49) (tgt := 96) G dX9_doDrawnAct_47 (by rw [q_47_3]; decide) (by rw [q_47_3]; decide) (by rw [q_47_3]; rfl) (by decide) ?_
    refine zv_aload_n (j := 5) G dX9_doDrawnAct_96 rfl rfl ?_
    refine zv_iload_n (j := 2) G dX9_doDrawnAct_97 rfl rfl ?_
    refine zv_aload_n (j := 5) G dX9_doDrawnAct_98 rfl rfl ?_
    refine zv_bipush (v := 11) G dX9_doDrawnAct_99 (by decide) ?_
    refine zv_callVi (as := [za_I 11]) G (by decide) rfl rfl (zc_X9_draw_atx l E (11 : Int32) σ (by decide)) zk_X9_draw zm_1067 rfl ⟨(Nat.le_of_ble_eq_true rfl), (Nat.le_of_ble_eq_true rfl)⟩ ⟨Nat.zero_le _, Nat.zero_le _⟩ (Nat.le_of_ble_eq_true rfl) dX9_doDrawnAct_101 (fun r_101 σ h_101 => ?_)
    have d_101 := h_101.1
    rw [hz.2.1] at d_101
    have q_101 : 0 ≤ r_101.toInt ∧ r_101.toInt < 11 := by rw [d_101]; exact wzdd_r _ rfl (by decide)
    have hz := wzdy_d hz h_101.2
    refine zv_iload (j := 1) G dX9_doDrawnAct_104 rfl ?_
    refine zv_iload (j := 0) G dX9_doDrawnAct_106 rfl ?_
    refine zv_callVi (as := [za_I r_16, za_I r_101, za_I r_23, za_I x_41]) G (by decide) rfl rfl (zc_X9_setRef_atx l E r_16 r_101 r_23 x_41 _ σ hz.1 (by omega) (by omega) (by rw [p_41]; have m_41 := wzmn_b 100 (r_23.toInt + r_35.toInt + 1); omega)) zk_X9_setRef zm_543 rfl ⟨(Nat.le_of_ble_eq_true rfl), (Nat.le_of_ble_eq_true rfl)⟩ ⟨Nat.zero_le _, Nat.zero_le _⟩ (Nat.le_of_ble_eq_true rfl) dX9_doDrawnAct_108 (fun r_108 σ h_108 => ?_)
    obtain ⟨P9, c9, hz⟩ := wzdy_p hz h_108
    refine zv_popI G dX9_doDrawnAct_111 ?_
    refine zv_goto (tgt := 155) G dX9_doDrawnAct_112 (by decide) ?_
    exact zv_vret G hr dX9_doDrawnAct_155 (by first | exact ⟨P9, _, wzDw_2 (d_3.symm.trans q_47_2) rfl (by rw [p_41, d_9, d_16, d_23, d_35, d_82] at c9; exact c9), hz⟩ | exact ⟨P9, _, wzDw_3 (d_3.symm.trans q_47_3) rfl (by rw [p_41, d_16, d_23, d_35, d_101] at c9; exact c9), hz⟩ | exact ⟨P9, _, wzDw_4 (d_3.symm.trans q_47_4) rfl (by rw [p_41, d_9, d_16, d_23, d_35] at c9; exact c9), hz⟩ | exact ⟨P9, _, wzDw_5 (d_3.symm.trans q_47_5) rfl (by rw [d_9] at c9; exact c9), hz⟩ | exact ⟨P9, _, wzDw_d (fun z => q_47_2 (d_3.trans z)) (fun z => q_47_3 (d_3.trans z)) (fun z => q_47_4 (d_3.trans z)) (fun z => q_47_5 (d_3.trans z)) rfl (by rw [p_41, d_9, d_16, d_23, d_35, d_144] at c9; exact c9), hz⟩)
  rcases Decidable.em (r_3 = 4) with q_47_4 | q_47_4
  · refine zv_tabIn (off := 68) (tgt := 115) G dX9_doDrawnAct_47 (by rw [q_47_4]; decide) (by rw [q_47_4]; decide) (by rw [q_47_4]; rfl) (by decide) ?_
    refine zv_aload_n (j := 5) G dX9_doDrawnAct_115 rfl rfl ?_
    refine zv_iload_n (j := 3) G dX9_doDrawnAct_116 rfl rfl ?_
    refine zv_iload_n (j := 2) G dX9_doDrawnAct_117 rfl rfl ?_
    refine zv_iload (j := 1) G dX9_doDrawnAct_118 rfl ?_
    refine zv_iload (j := 0) G dX9_doDrawnAct_120 rfl ?_
    refine zv_callVi (as := [za_I r_9, za_I r_16, za_I r_23, za_I x_41]) G (by decide) rfl rfl (zc_X9_cutPeriod_atx l E r_9 r_16 r_23 x_41 _ σ hz.1 (wz01 q_9) (by omega) (by rw [p_41]; have m_41 := wzmn_b 100 (r_23.toInt + r_35.toInt + 1); omega)) zk_X9_cutPeriod zm_564 rfl ⟨(Nat.le_of_ble_eq_true rfl), (Nat.le_of_ble_eq_true rfl)⟩ ⟨Nat.zero_le _, Nat.zero_le _⟩ (Nat.le_of_ble_eq_true rfl) dX9_doDrawnAct_122 (fun r_122 σ h_122 => ?_)
    obtain ⟨P9, c9, hz⟩ := wzdy_p hz h_122
    refine zv_popI G dX9_doDrawnAct_125 ?_
    refine zv_goto (tgt := 155) G dX9_doDrawnAct_126 (by decide) ?_
    exact zv_vret G hr dX9_doDrawnAct_155 (by first | exact ⟨P9, _, wzDw_2 (d_3.symm.trans q_47_2) rfl (by rw [p_41, d_9, d_16, d_23, d_35, d_82] at c9; exact c9), hz⟩ | exact ⟨P9, _, wzDw_3 (d_3.symm.trans q_47_3) rfl (by rw [p_41, d_16, d_23, d_35, d_101] at c9; exact c9), hz⟩ | exact ⟨P9, _, wzDw_4 (d_3.symm.trans q_47_4) rfl (by rw [p_41, d_9, d_16, d_23, d_35] at c9; exact c9), hz⟩ | exact ⟨P9, _, wzDw_5 (d_3.symm.trans q_47_5) rfl (by rw [d_9] at c9; exact c9), hz⟩ | exact ⟨P9, _, wzDw_d (fun z => q_47_2 (d_3.trans z)) (fun z => q_47_3 (d_3.trans z)) (fun z => q_47_4 (d_3.trans z)) (fun z => q_47_5 (d_3.trans z)) rfl (by rw [p_41, d_9, d_16, d_23, d_35, d_144] at c9; exact c9), hz⟩)
  rcases Decidable.em (r_3 = 5) with q_47_5 | q_47_5
  · refine zv_tabIn (off := 82) (tgt := 129) G dX9_doDrawnAct_47 (by rw [q_47_5]; decide) (by rw [q_47_5]; decide) (by rw [q_47_5]; rfl) (by decide) ?_
    refine zv_aload_n (j := 5) G dX9_doDrawnAct_129 rfl rfl ?_
    refine zv_iload_n (j := 3) G dX9_doDrawnAct_130 rfl rfl ?_
    refine zv_callVi (as := [za_I r_9]) G (by decide) rfl rfl (zc_X9_joinAlike_atx l E r_9 _ σ hz.1 (wz01 q_9)) zk_X9_joinAlike zm_630 rfl ⟨(Nat.le_of_ble_eq_true rfl), (Nat.le_of_ble_eq_true rfl)⟩ ⟨Nat.zero_le _, Nat.zero_le _⟩ (Nat.le_of_ble_eq_true rfl) dX9_doDrawnAct_131 (fun r_131 σ h_131 => ?_)
    obtain ⟨P9, c9, hz⟩ := wzdy_p hz h_131
    refine zv_popI G dX9_doDrawnAct_134 ?_
    refine zv_goto (tgt := 155) G dX9_doDrawnAct_135 (by decide) ?_
    exact zv_vret G hr dX9_doDrawnAct_155 (by first | exact ⟨P9, _, wzDw_2 (d_3.symm.trans q_47_2) rfl (by rw [p_41, d_9, d_16, d_23, d_35, d_82] at c9; exact c9), hz⟩ | exact ⟨P9, _, wzDw_3 (d_3.symm.trans q_47_3) rfl (by rw [p_41, d_16, d_23, d_35, d_101] at c9; exact c9), hz⟩ | exact ⟨P9, _, wzDw_4 (d_3.symm.trans q_47_4) rfl (by rw [p_41, d_9, d_16, d_23, d_35] at c9; exact c9), hz⟩ | exact ⟨P9, _, wzDw_5 (d_3.symm.trans q_47_5) rfl (by rw [d_9] at c9; exact c9), hz⟩ | exact ⟨P9, _, wzDw_d (fun z => q_47_2 (d_3.trans z)) (fun z => q_47_3 (d_3.trans z)) (fun z => q_47_4 (d_3.trans z)) (fun z => q_47_5 (d_3.trans z)) rfl (by rw [p_41, d_9, d_16, d_23, d_35, d_144] at c9; exact c9), hz⟩)
  have n_47_0 := lv_neT q_47_2 (a := 2) rfl
  have n_47_1 := lv_neT q_47_3 (a := 3) rfl
  have n_47_2 := lv_neT q_47_4 (a := 4) rfl
  have n_47_3 := lv_neT q_47_5 (a := 5) rfl
  refine zv_tabOut (tgt := 138) G dX9_doDrawnAct_47 (by omega) (by decide) ?_
  refine zv_aload_n (j := 5) G dX9_doDrawnAct_138 rfl rfl ?_
  refine zv_iload_n (j := 3) G dX9_doDrawnAct_139 rfl rfl ?_
  refine zv_iload_n (j := 2) G dX9_doDrawnAct_140 rfl rfl ?_
  refine zv_aload_n (j := 5) G dX9_doDrawnAct_141 rfl rfl ?_
  refine zv_bipush (v := 100) G dX9_doDrawnAct_142 (by decide) ?_
  refine zv_callVi (as := [za_I 100]) G (by decide) rfl rfl (zc_X9_draw_atx l E (100 : Int32) σ (by decide)) zk_X9_draw zm_1067 rfl ⟨(Nat.le_of_ble_eq_true rfl), (Nat.le_of_ble_eq_true rfl)⟩ ⟨Nat.zero_le _, Nat.zero_le _⟩ (Nat.le_of_ble_eq_true rfl) dX9_doDrawnAct_144 (fun r_144 σ h_144 => ?_)
  have d_144 := h_144.1
  rw [hz.2.1] at d_144
  have q_144 : 0 ≤ r_144.toInt ∧ r_144.toInt < 100 := by rw [d_144]; exact wzdd_r _ rfl (by decide)
  have hz := wzdy_d hz h_144.2
  refine zv_iload (j := 1) G dX9_doDrawnAct_147 rfl ?_
  refine zv_iload (j := 0) G dX9_doDrawnAct_149 rfl ?_
  refine zv_callVi (as := [za_I r_9, za_I r_16, za_I r_144, za_I r_23, za_I x_41]) G (by decide) rfl rfl (zc_X9_addRow_atx l E r_9 r_16 r_144 r_23 x_41 _ σ hz.1 (wz01 q_9) (by omega) (by omega) (by rw [p_41]; have m_41 := wzmn_b 100 (r_23.toInt + r_35.toInt + 1); omega)) zk_X9_addRow zm_431 rfl ⟨(Nat.le_of_ble_eq_true rfl), (Nat.le_of_ble_eq_true rfl)⟩ ⟨Nat.zero_le _, Nat.zero_le _⟩ (Nat.le_of_ble_eq_true rfl) dX9_doDrawnAct_151 (fun r_151 σ h_151 => ?_)
  obtain ⟨P9, c9, hz⟩ := wzdy_p hz h_151
  refine zv_popI G dX9_doDrawnAct_154 ?_
  exact zv_vret G hr dX9_doDrawnAct_155 (by first | exact ⟨P9, _, wzDw_2 (d_3.symm.trans q_47_2) rfl (by rw [p_41, d_9, d_16, d_23, d_35, d_82] at c9; exact c9), hz⟩ | exact ⟨P9, _, wzDw_3 (d_3.symm.trans q_47_3) rfl (by rw [p_41, d_16, d_23, d_35, d_101] at c9; exact c9), hz⟩ | exact ⟨P9, _, wzDw_4 (d_3.symm.trans q_47_4) rfl (by rw [p_41, d_9, d_16, d_23, d_35] at c9; exact c9), hz⟩ | exact ⟨P9, _, wzDw_5 (d_3.symm.trans q_47_5) rfl (by rw [d_9] at c9; exact c9), hz⟩ | exact ⟨P9, _, wzDw_d (fun z => q_47_2 (d_3.trans z)) (fun z => q_47_3 (d_3.trans z)) (fun z => q_47_4 (d_3.trans z)) (fun z => q_47_5 (d_3.trans z)) rfl (by rw [p_41, d_9, d_16, d_23, d_35, d_144] at c9; exact c9), hz⟩)
set_option maxHeartbeats 4000000 in
set_option maxRecDepth 100000 in
theorem zc_X9_years_atx (l : Launch) (E : za_E) (sd : Int32) (nn : Int32) (σ0 : za_S) (hN : wzNw σ0 ([], [])) : zMi l E yX9_years cX9_years 4 (Option.some Jvm.ClassFile.FieldType.int) 8 198 [za_O 0 0, za_I sd, za_I nn] σ0 (fun r σ' => wzyr nn sd r.toInt ∧ ∀ w, 93 ≤ w → σ'.1 w = σ0.1 w ∧ σ'.2 w = σ0.2 w) := by
  refine zMi_of [(0, za_O 0 0), (1, za_I sd), (2, za_I nn)] (by decide) rfl rfl (Nat.le_of_ble_eq_true rfl) ?_
  intro ho p e s m args below meth c G hr
  refine zv_gen (R9 := (fun σ => σ = σ0)) rfl (fun σ hz => ?_)
  refine zv_iload_n (j := 2) G dX9_years_0 rfl rfl ?_
  refine zv_iconst (v := 1) G dX9_years_1 (by decide) ?_
  refine zv_icmp_lt (tgt := 11) G dX9_years_2 (by decide) (fun c_2 => ?_) (fun c_2 => ?_)
  · have k_2 := z_clt c_2 (a := nn.toInt) (b := 1) rfl rfl
    refine zv_iconst (v := (-1)) G dX9_years_11 (by decide) ?_
    exact zv_iret G hr dX9_years_12 ⟨Or.inl ⟨by omega, by decide⟩, fun w _ => by rw [hz]; exact ⟨rfl, rfl⟩⟩
  · have k_2 := z_cnlt c_2 (a := nn.toInt) (b := 1) rfl rfl
    refine zv_iload_n (j := 2) G dX9_years_5 rfl rfl ?_
    refine zv_bipush (v := 40) G dX9_years_6 (by decide) ?_
    refine zv_icmp_le (tgt := 13) G dX9_years_8 (by decide) (fun c_8 => ?_) (fun c_8 => ?_)
    · have k_8 := z_cle c_8 (a := nn.toInt) (b := 40) rfl rfl
      refine zv_aload_n (j := 0) G dX9_years_13 rfl rfl ?_
      refine zv_iload_n (j := 1) G dX9_years_14 rfl rfl ?_
      refine zp_X9_405 G dX9_years_15 ?_
      refine zv_gen (R9 := (fun σ => wzyl sd 0 σ0 σ)) (by rw [hz]; exact wzyl_0 hN) (fun σ hz => ?_)
      refine zv_iconst (v := 0) G dX9_years_18 (by decide) ?_
      have J_20 : ∀ (n : Nat) (y3_20 : Int32) (σ : za_S) (hz : wzyl sd y3_20.toInt.toNat σ0 σ) (g_20 : y3_20.toInt ≤ nn.toInt) (i3_20 : 0 ≤ y3_20.toInt) (hn_20 : (2147483648 - y3_20.toInt).toNat < n), zV p l e (zRm 8 198) s m args below meth c E (za_A E) 4 0 0 (MQ below (va_Qi (fun r σ' => wzyr nn sd r.toInt ∧ ∀ w, 93 ≤ w → σ'.1 w = σ0.1 w ∧ σ'.2 w = σ0.2 w) (zB E) (za_A E)) args s 0 0 (za_A E)) 20 [(0, za_O 0 0), (2, za_I nn), (3, za_I y3_20)] [] σ := by
        intro n
        induction n with
        | zero => intro y3_20 σ hz g_20 i3_20 hn; exact absurd hn (Nat.not_lt_zero _)
        | succ n ih_20 =>
          intro y3_20 σ hz g_20 i3_20 hn_20
          refine zv_iload_n (j := 2) G dX9_years_20 rfl rfl ?_
          refine zv_iload_n (j := 1) G dX9_years_21 rfl rfl ?_
          refine zv_icmp_ge (tgt := 35) G dX9_years_22 (by decide) (fun c_22 => ?_) (fun c_22 => ?_)
          · have k_22 := z_cle c_22 (a := nn.toInt) (b := y3_20.toInt) rfl rfl
            refine zv_aload_n (j := 0) G dX9_years_35 rfl rfl ?_
            refine zg_X9_40 G dX9_years_36 ?_
            refine zv_aload_n (j := 0) G dX9_years_39 rfl rfl ?_
            refine zg_X9_10 G dX9_years_40 ?_
            refine zg_X9_102 G dX9_years_43 ?_
            refine zv_callVNi (as := []) G (by decide) rfl rfl (zc_X6_allDays l E 2 σ ) zk_X6_allDays zm_812 rfl ⟨(Nat.le_of_ble_eq_true rfl), (Nat.le_of_ble_eq_true rfl)⟩ ⟨Nat.zero_le _, Nat.zero_le _⟩ (Nat.le_of_ble_eq_true rfl) dX9_years_46 (fun r_46 σ h_46 => ?_)
            subst h_46
            refine zv_aload_n (j := 0) G dX9_years_49 rfl rfl ?_
            refine zg_X9_10 G dX9_years_50 ?_
            refine zg_X9_179 G dX9_years_53 ?_
            refine zv_callVNi (as := []) G (by decide) rfl rfl (zc_X6_allDays l E 4 σ ) zk_X6_allDays zm_812 rfl ⟨(Nat.le_of_ble_eq_true rfl), (Nat.le_of_ble_eq_true rfl)⟩ ⟨Nat.zero_le _, Nat.zero_le _⟩ (Nat.le_of_ble_eq_true rfl) dX9_years_56 (fun r_56 σ h_56 => ?_)
            subst h_56
            refine zv_iadd G dX9_years_59 ?_
            refine zv_i2l G dX9_years_60 ?_
            refine zv_aload_n (j := 0) G dX9_years_61 rfl rfl ?_
            refine zg_X9_10 G dX9_years_62 ?_
            refine zg_X9_102 G dX9_years_65 ?_
            refine zv_callVNi (as := []) G (by decide) rfl rfl (zc_X6_fromTimesValue l E 2 σ ) zk_X6_fromTimesValue zm_1072 rfl ⟨(Nat.le_of_ble_eq_true rfl), (Nat.le_of_ble_eq_true rfl)⟩ ⟨Nat.zero_le _, Nat.zero_le _⟩ (Nat.le_of_ble_eq_true rfl) dX9_years_68 (fun r_68 σ h_68 => ?_)
            subst h_68
            refine zv_aload_n (j := 0) G dX9_years_71 rfl rfl ?_
            refine zg_X9_10 G dX9_years_72 ?_
            refine zg_X9_179 G dX9_years_75 ?_
            refine zv_callVNi (as := []) G (by decide) rfl rfl (zc_X6_fromTimesValue l E 4 σ ) zk_X6_fromTimesValue zm_1072 rfl ⟨(Nat.le_of_ble_eq_true rfl), (Nat.le_of_ble_eq_true rfl)⟩ ⟨Nat.zero_le _, Nat.zero_le _⟩ (Nat.le_of_ble_eq_true rfl) dX9_years_78 (fun r_78 σ h_78 => ?_)
            subst h_78
            refine zv_iadd G dX9_years_81 ?_
            refine zv_i2l G dX9_years_82 ?_
            refine zv_callVNv (as := [za_L ((r_46 + r_56).toInt64), za_L ((r_68 + r_78).toInt64)]) G (by decide) rfl rfl (zc_X8_tell__atx l E ((r_46 + r_56).toInt64) ((r_68 + r_78).toInt64) σ ) zk_X8_tell_ zm_608 rfl ⟨(Nat.le_of_ble_eq_true rfl), (Nat.le_of_ble_eq_true rfl)⟩ ⟨Nat.zero_le _, Nat.zero_le _⟩ (Nat.le_of_ble_eq_true rfl) dX9_years_83 (fun σ h_83 => ?_)
            have hz := wzyl_l hz h_83
            refine zv_aload_n (j := 0) G dX9_years_86 rfl rfl ?_
            refine zg_X9_10 G dX9_years_87 ?_
            refine zg_X9_102 G dX9_years_90 ?_
            refine zg_X9_106 G dX9_years_93 ?_
            refine zv_aload_n (j := 0) G dX9_years_96 rfl rfl ?_
            refine zg_X9_10 G dX9_years_97 ?_
            refine zg_X9_179 G dX9_years_100 ?_
            refine zg_X9_106 G dX9_years_103 ?_
            refine zv_iadd G dX9_years_106 ?_
            exact zv_iret G hr dX9_years_107 (wzyl_f (by omega) (by omega) hz)
          · have k_22 := z_cnle c_22 (a := nn.toInt) (b := y3_20.toInt) rfl rfl
            refine zv_aload_n (j := 0) G dX9_years_25 rfl rfl ?_
            obtain ⟨R9, P9, h8, h9⟩ := hz
            refine zv_callVv (as := []) G (by decide) rfl rfl (zc_X9_doDrawnAct_atx l E P9 σ h9.1) zk_X9_doDrawnAct zm_1063 rfl ⟨(Nat.le_of_ble_eq_true rfl), (Nat.le_of_ble_eq_true rfl)⟩ ⟨Nat.zero_le _, Nat.zero_le _⟩ (Nat.le_of_ble_eq_true rfl) dX9_years_26 (fun σ h_26 => ?_)
            have hz := wzyl_s h8 h9 h_26
            obtain ⟨x_29, e_29⟩ : ∃ y : Int32, y = y3_20 + 1 := ⟨_, rfl⟩
            refine zv_iinc (j := 2) (v := x_29) (lv' := [(3, za_I x_29), (0, za_O 0 0), (2, za_I nn)]) G dX9_years_29 rfl (by rw [e_29]; rfl) (by decide) rfl ?_
            first | have q_29 := z_inc9 (by omega) e_29 | skip
            refine zv_goto (tgt := 20) G dX9_years_32 (by decide) ?_
            refine zv_sub [1, 2, 0] (lv' := [(0, za_O 0 0), (2, za_I nn), (3, za_I x_29)]) rfl ?_
            exact ih_20 x_29 σ (by rw [show x_29.toInt.toNat = y3_20.toInt.toNat + 1 by omega]; exact hz) (by omega) (by have := z_inc c_22 e_29; omega) (z_meas c_22 e_29 hn_20)
      refine zv_istore_n (lv' := [(3, za_I 0), (0, za_O 0 0), (1, za_I sd), (2, za_I nn)]) G dX9_years_19 rfl (by decide) rfl ?_
      refine zv_sub [1, 3, 0] (lv' := [(0, za_O 0 0), (2, za_I nn), (3, za_I 0)]) rfl ?_
      exact J_20 _ (0 : Int32) σ hz (by have h0 : (0 : Int32).toInt = 0 := (by decide); omega) (by decide) (Nat.lt_succ_self _)
    · have k_8 := z_cnle c_8 (a := nn.toInt) (b := 40) rfl rfl
      refine zv_iconst (v := (-1)) G dX9_years_11 (by decide) ?_
      exact zv_iret G hr dX9_years_12 ⟨Or.inl ⟨by omega, by decide⟩, fun w _ => by rw [hz]; exact ⟨rfl, rfl⟩⟩
