/-! ===== a fresh object of the class: what each call answers ===== -/
def wzZ (σ : za_S) : Prop := ∀ w, 93 ≤ w → ∀ i, σ.1 w i = 0
def wzE (σ : za_S) : Prop := (σ.1 2 1 = 0 ∧ σ.1 4 1 = 0 ∧ σ.1 1 2 = 0) ∧ σ.1 79 1 = 0 ∧ σ.1 11 2 = 0 ∧ σ.1 83 1 = 0 ∧ (σ.1 69 3 = 0 ∧ σ.1 74 3 = 0) ∧ wzZ σ
theorem wzE_z {σ : za_S} (h : wzE σ) : wzZ σ := h.2.2.2.2.2
def wzAn (C : Prop) (a b r : Int32) : Prop := (C → r = a) ∧ (¬ C → r = b)
theorem wzAn_y {C : Prop} {a b : Int32} (h : C) : wzAn C a b a := ⟨fun _ => rfl, fun q => absurd h q⟩
theorem wzAn_n {C : Prop} {a b : Int32} (h : ¬ C) : wzAn C a b b := ⟨fun q => absurd q h, fun _ => rfl⟩
theorem wzAn_e {C : Prop} {a b r : Int32} (h : C) (e : r = a) : wzAn C a b r := ⟨fun _ => e, fun q => absurd h q⟩
theorem wzAn_u {C : Prop} {a b r s : Int32} (h : wzAn C a b r) (k : wzAn C a b s) : r = s := by
  by_cases c : C
  · rw [h.1 c, k.1 c]
  · rw [h.2 c, k.2 c]
theorem wz01i {t : Int32} (h : 0 ≤ t.toInt ∧ t.toInt ≤ 1) : t = 0 ∨ t = 1 := wz01 ⟨h.1, by omega⟩
theorem wzE_t {σ : za_S} {t : Int32} {w : Nat} (h : wzE σ) (ht : t = 0 ∨ t = 1) (e : w = 1 + 1 + 2 * t.toInt.toNat) : σ.1 w 1 = 0 := by
  rcases wzt01 ht with q | q
  · rw [e, q.2]; exact h.1.1
  · rw [e, q.2]; exact h.1.2.1
theorem wzTb_0 {σ : za_S} {w : Nat} (h : σ.1 w 1 = 0) : wzTb σ w [] := ⟨by rw [h]; rfl, by decide, fun i hi => absurd hi (Nat.not_lt_zero i)⟩
theorem wzE_T {σ : za_S} {t : Int32} {w : Nat} (h : wzE σ) (ht : t = 0 ∨ t = 1) (e : w = 1 + 1 + 2 * t.toInt.toNat) : wzTb σ w [] := wzTb_0 (wzE_t h ht e)
theorem wzOk_n : wzOk [] := fun _ h => nomatch h
theorem wzE_f {σ σ' : za_S} (h : wzE σ) (k : ∀ w, (w ≤ 5 ∨ w = 11 ∨ w = 69 ∨ w = 74 ∨ w = 79 ∨ w = 83 ∨ 93 ≤ w) → σ'.1 w = σ.1 w) : wzE σ' := by
  obtain ⟨⟨h1, h2, h3⟩, h4, h5, h6, ⟨h7, h8⟩, h9⟩ := h
  refine ⟨⟨?_, ?_, ?_⟩, ?_, ?_, ?_, ⟨?_, ?_⟩, fun w hw i => ?_⟩
  · rw [k 2 (by omega)]; exact h1
  · rw [k 4 (by omega)]; exact h2
  · rw [k 1 (by omega)]; exact h3
  · rw [k 79 (by omega)]; exact h4
  · rw [k 11 (by omega)]; exact h5
  · rw [k 83 (by omega)]; exact h6
  · rw [k 69 (by omega)]; exact h7
  · rw [k 74 (by omega)]; exact h8
  · rw [k w (by omega)]; exact h9 w hw i
theorem wzE_l {σ σ' : za_S} (h : wzE σ) (k : wztl σ σ') : wzE σ' := wzE_f h (fun w hw => k.1 w (by omega))
theorem wzE_w {σ σ' : za_S} (h : wzE σ) (k : wzfw 85 σ σ') : wzE σ' := wzE_f h (fun w hw => k.1 w (by omega) (by omega))
theorem wzE_s {σ σ' : za_S} {j : Nat} (h : wzE σ) (hj : j < 11) (k : wzfs (13 + 5 * j) σ σ') : wzE σ' := wzE_f h (fun w hw => k.1 w (by omega))
theorem wzE_N {σ : za_S} (h : wzE σ) : wzNw σ ([], []) := ⟨⟨wzTb_0 h.1.1, wzTb_0 h.1.2.1⟩, h.1.2.2, ⟨⟨fun _ q => (nomatch q), List.Pairwise.nil⟩, ⟨fun _ q => (nomatch q), List.Pairwise.nil⟩⟩, Nat.zero_le _, Nat.zero_le _⟩
theorem wzZ_c {σ σ' : za_S} (h : wzZ σ) (k : zc σ σ') : wzZ σ' := fun w hw i => by rw [(k.1 w hw).1]; exact h w hw i
theorem wzZ_f {σ σ' : za_S} (h : wzZ σ) (k : wzfz σ σ') : wzZ σ' := fun w hw i => by rw [(k.1 w hw).1]; exact h w hw i
theorem wz_s0 (a : Int32) : a - 0 = a := by
  have h0 : (0 : Int32).toInt = 0 := by decide
  have hr := z_rng a
  refine Int32.toInt_inj.mp ?_
  rw [z_sub (by rw [h0]; omega) (by rw [h0]; omega), h0]
  omega
theorem wzr0 {r : Int32} {p : Nat → Prop} (h : 0 ≤ r.toInt ∧ wzal p r.toInt ([] : List wzR).length) : r = 0 := Int32.toInt_inj.mp (h.2.mpr (fun i hi => absurd hi (Nat.not_lt_zero i)))
theorem wzno_n (k a b : Int) : wzno [] k a b := fun i hi => absurd hi (Nat.not_lt_zero i)
theorem wzsl_n (t : Int) : wzsl ([], []) t = [] := by
  unfold wzsl
  split <;> rfl
theorem wzpu_n {t : Int} {X : List wzR} (h : X.length ≤ 20) : (wzpu ([], []) t X).1.length ≤ 20 ∧ (wzpu ([], []) t X).2.length ≤ 20 := by
  unfold wzpu
  split
  · exact ⟨h, Nat.zero_le _⟩
  · exact ⟨Nat.zero_le _, h⟩
/-- stretches of days: none -/
def wzEs (σ : za_S) : Prop := wzE σ ∧ σ.1 89 0 = 0
theorem wzEs_0 {σ σ' : za_S} (h : wzE σ) (e : σ' = za_si (za_si σ 89 0 0) 89 1 0) : wzEs σ' := by
  subst e
  refine ⟨wzE_f h (fun w hw => ?_), ?_⟩
  · rw [(za_si_off w (by omega)).1, (za_si_off w (by omega)).1]
  · rw [za_si_ne _ _ (Or.inr (by decide)), za_si_same]
theorem wzEs_l {σ σ' : za_S} (h : wzEs σ) (k : wztl σ σ') : wzEs σ' := ⟨wzE_l h.1 k, by rw [k.1 89 (by decide)]; exact h.2⟩
theorem wzEs_w {σ σ' : za_S} (h : wzEs σ) (k : wzfw 85 σ σ') : wzEs σ' := ⟨wzE_w h.1 k, by rw [k.1 89 (by decide) (by decide)]; exact h.2⟩
/-- the line of days is empty -/
def wzLn (σ : za_S) : Prop := ∀ d : Nat, d < 100 → σ.1 86 d = 0
theorem wz_1t {t : Int32} (h : 0 ≤ t.toInt ∧ t.toInt ≤ 1) : ¬ (0 : Int32) = 1 + t := by
  rcases wz01i h with q | q <;> rw [q] <;> decide
/-- the formula at its beginning: no text -/
def wzEf (σ : za_S) : Prop := wzE σ ∧ σ.1 90 2 = 0 ∧ σ.1 90 3 = 0
theorem wzEf_w {σ : za_S} {x : Int32} (h : wzEf σ) : wzEf (za_si σ 90 4 x) := by
  refine ⟨wzE_f h.1 (fun w hw => (za_si_off w (by omega)).1), ?_, ?_⟩
  · rw [za_si_ne _ _ (Or.inr (by decide))]; exact h.2.1
  · rw [za_si_ne _ _ (Or.inr (by decide))]; exact h.2.2
theorem wzE_90 {σ : za_S} {j : Nat} {x : Int32} (h : wzE σ) : wzE (za_si σ 90 j x) := wzE_f h (fun w hw => (za_si_off w (by omega)).1)
theorem wzE_79 {σ : za_S} (h : wzE σ) : wzE (za_si σ 79 1 0) := by
  have k : ∀ w, w ≠ 79 → (za_si σ 79 1 0).1 w = σ.1 w := fun w hw => (za_si_off w hw).1
  obtain ⟨⟨h1, h2, h3⟩, h4, h5, h6, ⟨h7, h8⟩, h9⟩ := h
  refine ⟨⟨?_, ?_, ?_⟩, za_si_same _ _ _ _, ?_, ?_, ⟨?_, ?_⟩, fun w hw i => ?_⟩
  · rw [k 2 (by decide)]; exact h1
  · rw [k 4 (by decide)]; exact h2
  · rw [k 1 (by decide)]; exact h3
  · rw [k 11 (by decide)]; exact h5
  · rw [k 83 (by decide)]; exact h6
  · rw [k 69 (by decide)]; exact h7
  · rw [k 74 (by decide)]; exact h8
  · rw [k w (by omega)]; exact h9 w hw i
def wzSh (kd n : Int) (r : Int32) : Prop := (¬ ((0 ≤ kd ∧ kd ≤ 3) ∧ n ≤ 20) → r = -1) ∧ ((0 ≤ kd ∧ kd ≤ 3) ∧ n ≤ 20 → (¬ kd = 3 ∧ n < 0 → r = -2) ∧ (kd = 3 → r = -3) ∧ (¬ kd = 3 ∧ 0 ≤ n → r = 0))
theorem wzSh_u {kd n : Int} {r s : Int32} (h : wzSh kd n r) (k : wzSh kd n s) : r = s := by
  by_cases c : (0 ≤ kd ∧ kd ≤ 3) ∧ n ≤ 20
  · have h1 := h.2 c
    have k1 := k.2 c
    by_cases c2 : kd = 3
    · rw [h1.2.1 c2, k1.2.1 c2]
    · by_cases c3 : n < 0
      · rw [h1.1 ⟨c2, c3⟩, k1.1 ⟨c2, c3⟩]
      · rw [h1.2.2 ⟨c2, by omega⟩, k1.2.2 ⟨c2, by omega⟩]
  · rw [h.1 c, k.1 c]
def wzFr (C : Prop) (d n : Int) (dd r : Int32) : Prop := (¬ C → r = -1) ∧ (C → (d + n ≤ 100 → r = dd) ∧ (¬ d + n ≤ 100 → r = -2))
theorem wzFr_u {C : Prop} {d n : Int} {dd r s : Int32} (h : wzFr C d n dd r) (k : wzFr C d n dd s) : r = s := by
  by_cases c : C
  · have h1 := h.2 c
    have k1 := k.2 c
    by_cases c2 : d + n ≤ 100
    · rw [h1.1 c2, k1.1 c2]
    · rw [h1.2 c2, k1.2 c2]
  · rw [h.1 c, k.1 c]
def wzWy (v : Int) (r : Int32) : Prop := (¬ (0 ≤ v ∧ v ≤ 2) → r = -1) ∧ (v = 0 → r = -2) ∧ (1 ≤ v ∧ v ≤ 2 → r = 10)
theorem wzWy_u {v : Int} {r s : Int32} (h : wzWy v r) (k : wzWy v s) : r = s := by
  by_cases c : 0 ≤ v ∧ v ≤ 2
  · by_cases c2 : v = 0
    · rw [h.2.1 c2, k.2.1 c2]
    · rw [h.2.2 (by omega), k.2.2 (by omega)]
  · rw [h.1 c, k.1 c]
theorem wzE_k {σ : za_S} {i : Int32} (h : wzE σ) (hi : 0 ≤ i.toInt ∧ i.toInt ≤ 1) : σ.1 (69 + 5 * i.toNatClampNeg) 3 = 0 := by
  rcases wz01i hi with q | q
  · rw [q]; exact h.2.2.2.2.1.1
  · rw [q]; exact h.2.2.2.2.1.2
theorem wzad_r {t k v a b : Int} {r s : Int32} (h : r.toInt = wzsm (wznf (wzsl ([], []) t) k a) (wzsl ([], []) t).length ∧ 0 ≤ r.toInt ∧ r.toInt ≤ (wzsl ([], []) t).length) {σ σ' : za_S} {D : wzP} (e : D = wzpu ([], []) t (wzin9 (wzsl ([], []) t) r.toInt.toNat (k, v, a, b, 10) (wzsl ([], []) t).length)) (k9 : ((D.1.length ≤ 20 ∧ D.2.length ≤ 20) ∧ s = r ∧ wzfs 1 σ σ' ∧ wzSt σ' 1 D ∧ σ'.1 1 2 = σ.1 6 2) ∨ (¬ (D.1.length ≤ 20 ∧ D.2.length ≤ 20) ∧ s = -9 ∧ σ' = σ)) : s = 0 := by
  have h2 := h.2
  rw [wzsl_n] at h2 e
  have hr : r = 0 := Int32.toInt_inj.mp (show r.toInt = 0 by have h3 : ((([] : List wzR).length : Nat) : Int) = 0 := rfl; omega)
  rcases k9 with q | q
  · rw [q.2.1]; exact hr
  · refine absurd ?_ q.1
    rw [e]
    refine wzpu_n ?_
    unfold wzin9
    simp
theorem wzE_y {σ σ' : za_S} (h : wzE σ) (e : σ' = za_si σ 79 1 0) : wzE σ' := by rw [e]; exact wzE_79 h
theorem wzfq9 {σ σ' : za_S} (h : wzE σ ∧ σ.1 90 2 = 0) (e : σ' = za_si (za_si σ 90 3 0) 90 4 (-1)) : wzEf σ' ∧ σ'.1 90 4 = -1 := by
  subst e
  refine ⟨⟨wzE_90 (wzE_90 h.1), ?_, ?_⟩, za_si_same _ _ _ _⟩
  · rw [za_si_ne _ _ (Or.inr (by decide)), za_si_ne _ _ (Or.inr (by decide))]; exact h.2
  · rw [za_si_ne _ _ (Or.inr (by decide)), za_si_same]
theorem wzZ_1 {σ : za_S} {x : Int32} (h : wzE σ) : wzZ (za_si σ 1 2 x) := fun w hw i => by rw [(za_si_off w (by omega)).1]; exact wzE_z h w hw i
theorem wzdz {fd td a b x y z : Int32} (hf : 0 ≤ fd.toInt ∧ fd.toInt ≤ 200 ∧ 0 ≤ td.toInt ∧ td.toInt ≤ 200) (ha : a = 0) (hb : b = 0) (e1 : x = if a < td then a else td) (e2 : y = if fd < b then b else fd) (e3 : z = if 0 < x - y then x - y else 0) : z = 0 := by
  have h0 : (0 : Int32).toInt = 0 := by decide
  have h1 := wz_mnT e1 rfl (show a.toInt = 0 by rw [ha]; rfl)
  have h2 := wz_mxT e2 rfl (show b.toInt = 0 by rw [hb]; rfl)
  have m1 := wzmn_b td.toInt 0
  have m2 := wzmx_b fd.toInt 0
  have h3 : (x - y).toInt = x.toInt - y.toInt := z_sub (by omega) (by omega)
  rw [e3, if_neg (fun q => by rw [z_lt, h3] at q; omega)]
theorem wzpp {w s : Nat} (h : ∃ j, j < 11 ∧ w = 13 + 5 * j) (hs : s = 1) : wzdj s w := by
  obtain ⟨j, hj, e⟩ := h
  exact Or.inl (by omega)
theorem wzpq {w : Nat} {σ0 σ : za_S} (h : ∃ j, j < 11 ∧ w = 13 + 5 * j) (k : wzfs w σ0 σ) : ∃ j, j < 11 ∧ wzfs (13 + 5 * j) σ0 σ := by
  obtain ⟨j, hj, e⟩ := h
  exact ⟨j, hj, by rw [← e]; exact k⟩
theorem wzjy {σ0 σ : za_S} {w : Nat} {t : Int32} {D : wzP} (hz : wzdr ([], []) D σ0 σ) (ht : t = 0 ∨ t = 1) (e : w = 1 + 1 + 2 * t.toInt.toNat) : wzTb σ w [] := by
  have h := wzSt_t hz.1.2.1 ht e
  rw [wzsl_n] at h
  exact h
theorem wzjr9 {r s : Int32} {t : Int} {σ σ' : za_S} (h : r = 0) (k : (((wzpu ([], []) t (wzjl [] ([] : List wzR).length)).1.length ≤ 20 ∧ (wzpu ([], []) t (wzjl [] ([] : List wzR).length)).2.length ≤ 20) ∧ s = r ∧ wzfs 1 σ σ' ∧ wzSt σ' 1 (wzpu ([], []) t (wzjl [] ([] : List wzR).length)) ∧ σ'.1 1 2 = σ.1 6 2) ∨ (¬ ((wzpu ([], []) t (wzjl [] ([] : List wzR).length)).1.length ≤ 20 ∧ (wzpu ([], []) t (wzjl [] ([] : List wzR).length)).2.length ≤ 20) ∧ s = -9 ∧ σ' = σ)) : s = 0 := by
  rcases k with q | q
  · rw [q.2.1]; exact h
  · exact absurd (wzpu_n (X := wzjl [] ([] : List wzR).length) (Nat.zero_le 20)) q.1
set_option maxHeartbeats 4000000 in
set_option maxRecDepth 100000 in
theorem zc_X9_isKey_aty (l : Launch) (E : za_E) (a : Int32) (σ : za_S)  : zMi l E yX9_isKey cX9_isKey 1 (Option.some Jvm.ClassFile.FieldType.boolean) 1 21 [za_I a] σ (fun r σ' => ((r = 0 ∨ r = 1) ∧ (¬ r = 0 ↔ 0 ≤ a.toInt ∧ a.toInt ≤ 9)) ∧ σ' = σ) := by
  refine zMi_of [(0, za_I a)] (by decide) rfl rfl (Nat.le_of_ble_eq_true rfl) ?_
  intro ho p e s m args below meth c G hr
  refine zv_iload_n (j := 0) G dX9_isKey_0 rfl rfl ?_
  refine zv_if_lt (tgt := 14) G dX9_isKey_1 (by decide) (fun c_1 => ?_) (fun c_1 => ?_)
  · have k_1 := z_clt c_1 (a := a.toInt) (b := 0) rfl rfl
    refine zv_iconst (v := 0) G dX9_isKey_14 (by decide) ?_
    exact zv_zret G hr dX9_isKey_15 (by decide) ⟨⟨Or.inl rfl, fun h => absurd rfl h, fun h => False.elim (by omega)⟩, rfl⟩
  · have k_1 := z_cnlt c_1 (a := a.toInt) (b := 0) rfl rfl
    refine zv_iload_n (j := 0) G dX9_isKey_4 rfl rfl ?_
    refine zv_bipush (v := 10) G dX9_isKey_5 (by decide) ?_
    refine zv_icmp_ge (tgt := 14) G dX9_isKey_7 (by decide) (fun c_7 => ?_) (fun c_7 => ?_)
    · have k_7 := z_cle c_7 (a := 10) (b := a.toInt) rfl rfl
      refine zv_iconst (v := 0) G dX9_isKey_14 (by decide) ?_
      exact zv_zret G hr dX9_isKey_15 (by decide) ⟨⟨Or.inl rfl, fun h => absurd rfl h, fun h => False.elim (by omega)⟩, rfl⟩
    · have k_7 := z_cnle c_7 (a := 10) (b := a.toInt) rfl rfl
      refine zv_iconst (v := 1) G dX9_isKey_10 (by decide) ?_
      refine zv_goto (tgt := 15) G dX9_isKey_11 (by decide) ?_
      exact zv_zret G hr dX9_isKey_15 (by decide) ⟨⟨Or.inr rfl, fun _ => by omega, fun _ => by decide⟩, rfl⟩
set_option maxHeartbeats 4000000 in
set_option maxRecDepth 100000 in
theorem zc_X9_isValue_aty (l : Launch) (E : za_E) (a : Int32) (σ : za_S)  : zMi l E yX9_isValue cX9_isValue 1 (Option.some Jvm.ClassFile.FieldType.boolean) 1 21 [za_I a] σ (fun r σ' => ((r = 0 ∨ r = 1) ∧ (¬ r = 0 ↔ 0 ≤ a.toInt ∧ a.toInt ≤ 99)) ∧ σ' = σ) := by
  refine zMi_of [(0, za_I a)] (by decide) rfl rfl (Nat.le_of_ble_eq_true rfl) ?_
  intro ho p e s m args below meth c G hr
  refine zv_iload_n (j := 0) G dX9_isValue_0 rfl rfl ?_
  refine zv_if_lt (tgt := 14) G dX9_isValue_1 (by decide) (fun c_1 => ?_) (fun c_1 => ?_)
  · have k_1 := z_clt c_1 (a := a.toInt) (b := 0) rfl rfl
    refine zv_iconst (v := 0) G dX9_isValue_14 (by decide) ?_
    exact zv_zret G hr dX9_isValue_15 (by decide) ⟨⟨Or.inl rfl, fun h => absurd rfl h, fun h => False.elim (by omega)⟩, rfl⟩
  · have k_1 := z_cnlt c_1 (a := a.toInt) (b := 0) rfl rfl
    refine zv_iload_n (j := 0) G dX9_isValue_4 rfl rfl ?_
    refine zv_bipush (v := 100) G dX9_isValue_5 (by decide) ?_
    refine zv_icmp_ge (tgt := 14) G dX9_isValue_7 (by decide) (fun c_7 => ?_) (fun c_7 => ?_)
    · have k_7 := z_cle c_7 (a := 100) (b := a.toInt) rfl rfl
      refine zv_iconst (v := 0) G dX9_isValue_14 (by decide) ?_
      exact zv_zret G hr dX9_isValue_15 (by decide) ⟨⟨Or.inl rfl, fun h => absurd rfl h, fun h => False.elim (by omega)⟩, rfl⟩
    · have k_7 := z_cnle c_7 (a := 100) (b := a.toInt) rfl rfl
      refine zv_iconst (v := 1) G dX9_isValue_10 (by decide) ?_
      refine zv_goto (tgt := 15) G dX9_isValue_11 (by decide) ?_
      exact zv_zret G hr dX9_isValue_15 (by decide) ⟨⟨Or.inr rfl, fun _ => by omega, fun _ => by decide⟩, rfl⟩
set_option maxHeartbeats 4000000 in
set_option maxRecDepth 100000 in
theorem zc_X9_isDay_aty (l : Launch) (E : za_E) (a : Int32) (σ : za_S)  : zMi l E yX9_isDay cX9_isDay 1 (Option.some Jvm.ClassFile.FieldType.boolean) 1 21 [za_I a] σ (fun r σ' => ((r = 0 ∨ r = 1) ∧ (¬ r = 0 ↔ 0 ≤ a.toInt ∧ a.toInt ≤ 99)) ∧ σ' = σ) := by
  refine zMi_of [(0, za_I a)] (by decide) rfl rfl (Nat.le_of_ble_eq_true rfl) ?_
  intro ho p e s m args below meth c G hr
  refine zv_iload_n (j := 0) G dX9_isDay_0 rfl rfl ?_
  refine zv_if_lt (tgt := 14) G dX9_isDay_1 (by decide) (fun c_1 => ?_) (fun c_1 => ?_)
  · have k_1 := z_clt c_1 (a := a.toInt) (b := 0) rfl rfl
    refine zv_iconst (v := 0) G dX9_isDay_14 (by decide) ?_
    exact zv_zret G hr dX9_isDay_15 (by decide) ⟨⟨Or.inl rfl, fun h => absurd rfl h, fun h => False.elim (by omega)⟩, rfl⟩
  · have k_1 := z_cnlt c_1 (a := a.toInt) (b := 0) rfl rfl
    refine zv_iload_n (j := 0) G dX9_isDay_4 rfl rfl ?_
    refine zv_bipush (v := 100) G dX9_isDay_5 (by decide) ?_
    refine zv_icmp_ge (tgt := 14) G dX9_isDay_7 (by decide) (fun c_7 => ?_) (fun c_7 => ?_)
    · have k_7 := z_cle c_7 (a := 100) (b := a.toInt) rfl rfl
      refine zv_iconst (v := 0) G dX9_isDay_14 (by decide) ?_
      exact zv_zret G hr dX9_isDay_15 (by decide) ⟨⟨Or.inl rfl, fun h => absurd rfl h, fun h => False.elim (by omega)⟩, rfl⟩
    · have k_7 := z_cnle c_7 (a := 100) (b := a.toInt) rfl rfl
      refine zv_iconst (v := 1) G dX9_isDay_10 (by decide) ?_
      refine zv_goto (tgt := 15) G dX9_isDay_11 (by decide) ?_
      exact zv_zret G hr dX9_isDay_15 (by decide) ⟨⟨Or.inr rfl, fun _ => by omega, fun _ => by decide⟩, rfl⟩
set_option maxHeartbeats 4000000 in
set_option maxRecDepth 100000 in
theorem zc_X9_isKeptNumber_aty (l : Launch) (E : za_E) (a : Int32) (σ : za_S)  : zMi l E yX9_isKeptNumber cX9_isKeptNumber 1 (Option.some Jvm.ClassFile.FieldType.boolean) 1 21 [za_I a] σ (fun r σ' => ((r = 0 ∨ r = 1) ∧ (¬ r = 0 ↔ 0 ≤ a.toInt ∧ a.toInt ≤ 1)) ∧ σ' = σ) := by
  refine zMi_of [(0, za_I a)] (by decide) rfl rfl (Nat.le_of_ble_eq_true rfl) ?_
  intro ho p e s m args below meth c G hr
  refine zv_iload_n (j := 0) G dX9_isKeptNumber_0 rfl rfl ?_
  refine zv_if_lt (tgt := 13) G dX9_isKeptNumber_1 (by decide) (fun c_1 => ?_) (fun c_1 => ?_)
  · have k_1 := z_clt c_1 (a := a.toInt) (b := 0) rfl rfl
    refine zv_iconst (v := 0) G dX9_isKeptNumber_13 (by decide) ?_
    exact zv_zret G hr dX9_isKeptNumber_14 (by decide) ⟨⟨Or.inl rfl, fun h => absurd rfl h, fun h => False.elim (by omega)⟩, rfl⟩
  · have k_1 := z_cnlt c_1 (a := a.toInt) (b := 0) rfl rfl
    refine zv_iload_n (j := 0) G dX9_isKeptNumber_4 rfl rfl ?_
    refine zv_iconst (v := 2) G dX9_isKeptNumber_5 (by decide) ?_
    refine zv_icmp_ge (tgt := 13) G dX9_isKeptNumber_6 (by decide) (fun c_6 => ?_) (fun c_6 => ?_)
    · have k_6 := z_cle c_6 (a := 2) (b := a.toInt) rfl rfl
      refine zv_iconst (v := 0) G dX9_isKeptNumber_13 (by decide) ?_
      exact zv_zret G hr dX9_isKeptNumber_14 (by decide) ⟨⟨Or.inl rfl, fun h => absurd rfl h, fun h => False.elim (by omega)⟩, rfl⟩
    · have k_6 := z_cnle c_6 (a := 2) (b := a.toInt) rfl rfl
      refine zv_iconst (v := 1) G dX9_isKeptNumber_9 (by decide) ?_
      refine zv_goto (tgt := 14) G dX9_isKeptNumber_10 (by decide) ?_
      exact zv_zret G hr dX9_isKeptNumber_14 (by decide) ⟨⟨Or.inr rfl, fun _ => by omega, fun _ => by decide⟩, rfl⟩
set_option maxHeartbeats 4000000 in
set_option maxRecDepth 100000 in
theorem zc_X9_isTable_aty (l : Launch) (E : za_E) (t : Int32) (σ : za_S)  : zMi l E yX9_isTable cX9_isTable 1 (Option.some Jvm.ClassFile.FieldType.boolean) 1 21 [za_I t] σ (fun r σ' => ((r = 0 ∨ r = 1) ∧ (¬ r = 0 ↔ 0 ≤ t.toInt ∧ t.toInt ≤ 1)) ∧ σ' = σ) := by
  refine zMi_of [(0, za_I t)] (by decide) rfl rfl (Nat.le_of_ble_eq_true rfl) ?_
  intro ho p e s m args below meth c G hr
  refine zv_iload_n (j := 0) G dX9_isTable_0 rfl rfl ?_
  refine zv_if_eq (tgt := 9) G dX9_isTable_1 (by decide) (fun c_1 => ?_) (fun c_1 => ?_)
  · have k_1 := z_ceq c_1 (a := t.toInt) (b := 0) rfl rfl
    refine zv_iconst (v := 1) G dX9_isTable_9 (by decide) ?_
    refine zv_goto (tgt := 14) G dX9_isTable_10 (by decide) ?_
    exact zv_zret G hr dX9_isTable_14 (by decide) ⟨⟨Or.inr rfl, fun _ => by first | (rw [c_1]; decide) | (rw [c_6]; decide), fun _ => by decide⟩, rfl⟩
  · have k_1 := z_cne c_1 (a := t.toInt) (b := 0) rfl rfl
    refine zv_iload_n (j := 0) G dX9_isTable_4 rfl rfl ?_
    refine zv_iconst (v := 1) G dX9_isTable_5 (by decide) ?_
    refine zv_icmp_ne (tgt := 13) G dX9_isTable_6 (by decide) (fun c_6 => ?_) (fun c_6 => ?_)
    · have k_6 := z_cne c_6 (a := t.toInt) (b := 1) rfl rfl
      refine zv_iconst (v := 0) G dX9_isTable_13 (by decide) ?_
      exact zv_zret G hr dX9_isTable_14 (by decide) ⟨⟨Or.inl rfl, fun h => absurd rfl h, fun h => False.elim ((wz01i h).elim c_1 c_6)⟩, rfl⟩
    · have k_6 := z_ceq c_6 (a := t.toInt) (b := 1) rfl rfl
      refine zv_iconst (v := 1) G dX9_isTable_9 (by decide) ?_
      refine zv_goto (tgt := 14) G dX9_isTable_10 (by decide) ?_
      exact zv_zret G hr dX9_isTable_14 (by decide) ⟨⟨Or.inr rfl, fun _ => by first | (rw [c_1]; decide) | (rw [c_6]; decide), fun _ => by decide⟩, rfl⟩
set_option maxHeartbeats 4000000 in
set_option maxRecDepth 100000 in
theorem zc_X9_isPortion_aty (l : Launch) (E : za_E) (t : Int32) (k : Int32) (fd : Int32) (td : Int32) (σ : za_S)  : zMi l E yX9_isPortion cX9_isPortion 4 (Option.some Jvm.ClassFile.FieldType.boolean) 3 62 [za_I t, za_I k, za_I fd, za_I td] σ (fun r σ' => ((r = 0 ∨ r = 1) ∧ (¬ r = 0 ↔ (0 ≤ t.toInt ∧ t.toInt ≤ 1) ∧ (0 ≤ k.toInt ∧ k.toInt ≤ 9) ∧ (0 ≤ fd.toInt ∧ fd.toInt ≤ 99) ∧ fd.toInt < td.toInt ∧ td.toInt ≤ 100)) ∧ σ' = σ) := by
  refine zMi_of [(0, za_I t), (1, za_I k), (2, za_I fd), (3, za_I td)] (by decide) rfl rfl (Nat.le_of_ble_eq_true rfl) ?_
  intro ho p e s m args below meth c G hr
  refine zv_iload_n (j := 0) G dX9_isPortion_0 rfl rfl ?_
  refine zv_callSi (as := [za_I t]) G (zc_X9_isTable_aty l E t σ ) zk_X9_isTable zm_438 rfl ⟨(Nat.le_of_ble_eq_true rfl), (Nat.le_of_ble_eq_true rfl)⟩ ⟨Nat.zero_le _, Nat.zero_le _⟩ (Nat.le_of_ble_eq_true rfl) dX9_isPortion_1 (fun r_1 σ h_1 => ?_)
  obtain ⟨h_1, rfl⟩ := h_1
  refine zv_if_eq (tgt := 26) G dX9_isPortion_4 (by decide) (fun c_4 => ?_) (fun c_4 => ?_)
  · have f_1 := fun q9 => (h_1.2.mpr q9) c_4
    refine zv_iconst (v := 0) G dX9_isPortion_26 (by decide) ?_
    exact zv_zret G hr dX9_isPortion_27 (by decide) ⟨⟨Or.inl rfl, fun h => absurd rfl h, fun h => False.elim (by first | exact f_1 h.1 | exact f_8 h.2.1 | exact f_16 h.2.2)⟩, rfl⟩
  · have t_1 := h_1.2.mp c_4
    refine zv_iload_n (j := 1) G dX9_isPortion_7 rfl rfl ?_
    refine zv_callSi (as := [za_I k]) G (zc_X9_isKey_aty l E k σ ) zk_X9_isKey zm_441 rfl ⟨(Nat.le_of_ble_eq_true rfl), (Nat.le_of_ble_eq_true rfl)⟩ ⟨Nat.zero_le _, Nat.zero_le _⟩ (Nat.le_of_ble_eq_true rfl) dX9_isPortion_8 (fun r_8 σ h_8 => ?_)
    obtain ⟨h_8, rfl⟩ := h_8
    refine zv_if_eq (tgt := 26) G dX9_isPortion_11 (by decide) (fun c_11 => ?_) (fun c_11 => ?_)
    · have f_8 := fun q9 => (h_8.2.mpr q9) c_11
      refine zv_iconst (v := 0) G dX9_isPortion_26 (by decide) ?_
      exact zv_zret G hr dX9_isPortion_27 (by decide) ⟨⟨Or.inl rfl, fun h => absurd rfl h, fun h => False.elim (by first | exact f_1 h.1 | exact f_8 h.2.1 | exact f_16 h.2.2)⟩, rfl⟩
    · have t_8 := h_8.2.mp c_11
      refine zv_iload_n (j := 2) G dX9_isPortion_14 rfl rfl ?_
      refine zv_iload_n (j := 3) G dX9_isPortion_15 rfl rfl ?_
      refine zv_callSi (as := [za_I fd, za_I td]) G (zc_X9_isPeriod_atx l E fd td σ ) zk_X9_isPeriod zm_444 rfl ⟨(Nat.le_of_ble_eq_true rfl), (Nat.le_of_ble_eq_true rfl)⟩ ⟨Nat.zero_le _, Nat.zero_le _⟩ (Nat.le_of_ble_eq_true rfl) dX9_isPortion_16 (fun r_16 σ h_16 => ?_)
      obtain ⟨h_16, rfl⟩ := h_16
      refine zv_if_eq (tgt := 26) G dX9_isPortion_19 (by decide) (fun c_19 => ?_) (fun c_19 => ?_)
      · have f_16 := fun q9 => (h_16.2.mpr q9) c_19
        refine zv_iconst (v := 0) G dX9_isPortion_26 (by decide) ?_
        exact zv_zret G hr dX9_isPortion_27 (by decide) ⟨⟨Or.inl rfl, fun h => absurd rfl h, fun h => False.elim (by first | exact f_1 h.1 | exact f_8 h.2.1 | exact f_16 h.2.2)⟩, rfl⟩
      · have t_16 := h_16.2.mp c_19
        refine zv_iconst (v := 1) G dX9_isPortion_22 (by decide) ?_
        refine zv_goto (tgt := 27) G dX9_isPortion_23 (by decide) ?_
        exact zv_zret G hr dX9_isPortion_27 (by decide) ⟨⟨Or.inr rfl, fun _ => ⟨t_1, t_8, t_16⟩, fun _ => by decide⟩, rfl⟩
set_option maxHeartbeats 4000000 in
set_option maxRecDepth 100000 in
theorem zc_X9_at_at0 (l : Launch) (E : za_E) (t : Int32) (k : Int32) (d : Int32) (σ0 : za_S) (h0 : wzE σ0) : zMi l E yX9_at cX9_at 6 (Option.some Jvm.ClassFile.FieldType.int) 2 42 [za_O 0 0, za_I t, za_I k, za_I d] σ0 (fun r σ' => wzAn ((0 ≤ t.toInt ∧ t.toInt ≤ 1) ∧ (0 ≤ k.toInt ∧ k.toInt ≤ 9) ∧ (0 ≤ d.toInt ∧ d.toInt ≤ 99)) (-2) (-1) r ∧ wzZ σ') := by
  refine zMi_of [(0, za_O 0 0), (1, za_I t), (2, za_I k), (3, za_I d)] (by decide) rfl rfl (Nat.le_of_ble_eq_true rfl) ?_
  intro ho p e s m args below meth c G hr
  refine zv_gen (R9 := wzE) h0 (fun σ hz => ?_)
  refine zv_iload_n (j := 1) G dX9_at_0 rfl rfl ?_
  refine zv_callSi (as := [za_I t]) G (zc_X9_isTable_aty l E t σ ) zk_X9_isTable zm_438 rfl ⟨(Nat.le_of_ble_eq_true rfl), (Nat.le_of_ble_eq_true rfl)⟩ ⟨Nat.zero_le _, Nat.zero_le _⟩ (Nat.le_of_ble_eq_true rfl) dX9_at_1 (fun r_1 σ h_1 => ?_)
  obtain ⟨h_1, rfl⟩ := h_1
  refine zv_if_eq (tgt := 21) G dX9_at_4 (by decide) (fun c_4 => ?_) (fun c_4 => ?_)
  · have f_1 := fun q9 => (h_1.2.mpr q9) c_4
    refine zv_iconst (v := (-1)) G dX9_at_21 (by decide) ?_
    exact zv_iret G hr dX9_at_22 ⟨(wzAn_n (fun q => by first | exact f_1 (by omega) | exact f_8 (by omega) | exact f_15 (by omega))), wzE_z hz⟩
  · have t_1 := h_1.2.mp c_4
    refine zv_iload_n (j := 2) G dX9_at_7 rfl rfl ?_
    refine zv_callSi (as := [za_I k]) G (zc_X9_isKey_aty l E k σ ) zk_X9_isKey zm_441 rfl ⟨(Nat.le_of_ble_eq_true rfl), (Nat.le_of_ble_eq_true rfl)⟩ ⟨Nat.zero_le _, Nat.zero_le _⟩ (Nat.le_of_ble_eq_true rfl) dX9_at_8 (fun r_8 σ h_8 => ?_)
    obtain ⟨h_8, rfl⟩ := h_8
    refine zv_if_eq (tgt := 21) G dX9_at_11 (by decide) (fun c_11 => ?_) (fun c_11 => ?_)
    · have f_8 := fun q9 => (h_8.2.mpr q9) c_11
      refine zv_iconst (v := (-1)) G dX9_at_21 (by decide) ?_
      exact zv_iret G hr dX9_at_22 ⟨(wzAn_n (fun q => by first | exact f_1 (by omega) | exact f_8 (by omega) | exact f_15 (by omega))), wzE_z hz⟩
    · have t_8 := h_8.2.mp c_11
      refine zv_iload_n (j := 3) G dX9_at_14 rfl rfl ?_
      refine zv_callSi (as := [za_I d]) G (zc_X9_isDay_aty l E d σ ) zk_X9_isDay zm_447 rfl ⟨(Nat.le_of_ble_eq_true rfl), (Nat.le_of_ble_eq_true rfl)⟩ ⟨Nat.zero_le _, Nat.zero_le _⟩ (Nat.le_of_ble_eq_true rfl) dX9_at_15 (fun r_15 σ h_15 => ?_)
      obtain ⟨h_15, rfl⟩ := h_15
      refine zv_if_ne (tgt := 23) G dX9_at_18 (by decide) (fun c_18 => ?_) (fun c_18 => ?_)
      · have t_15 := h_15.2.mp c_18
        refine zv_aload_n (j := 0) G dX9_at_23 rfl rfl ?_
        refine zg_X9_10 G dX9_at_24 ?_
        refine zv_iload_n (j := 1) G dX9_at_27 rfl rfl ?_
        refine zv_callVNr (as := [za_I t]) G (by decide) rfl rfl (zc_X4_table_atx l E 1 t σ (wz01i t_1)) zk_X4_table zm_453 rfl ⟨(Nat.le_of_ble_eq_true rfl), (Nat.le_of_ble_eq_true rfl)⟩ ⟨Nat.zero_le _, Nat.zero_le _⟩ (Nat.le_of_ble_eq_true rfl) dX9_at_28 (fun r_28 σ h_28 => ?_)
        obtain ⟨w_28, rfl, h_w_28, t_28, rfl⟩ := h_28
        refine zv_astore (lv' := [(4, za_O 2 w_28), (0, za_O 0 0), (1, za_I t), (2, za_I k), (3, za_I d)]) G dX9_at_31 (by decide) rfl ?_
        refine zv_iconst (v := 0) G dX9_at_33 (by decide) ?_
        refine zv_istore (lv' := [(5, za_I 0), (4, za_O 2 w_28), (0, za_O 0 0), (1, za_I t), (2, za_I k), (3, za_I d)]) G dX9_at_34 (by decide) rfl ?_
        refine zv_iload (j := 0) G dX9_at_36 rfl ?_
        refine zv_aload (j := 1) G dX9_at_38 rfl ?_
        refine zg_X9_106 G dX9_at_40 ?_
        refine zv_icmp_ge (tgt := 110) G dX9_at_43 (by decide) (fun c_43 => ?_) (fun c_43 => ?_)
        · have k_43 := z_cle c_43 (a := (σ.1 w_28 1).toInt) (b := 0) rfl rfl
          refine zv_bipush (v := (-2)) G dX9_at_110 (by decide) ?_
          exact zv_iret G hr dX9_at_112 ⟨wzAn_y (by omega), wzE_z hz⟩
        · exact absurd (show (σ.1 w_28 1) ≤ 0 by rw [wzE_t hz (wz01i t_1) t_28]; decide) c_43
      · have f_15 := fun q9 => (h_15.2.mpr q9) c_18
        refine zv_iconst (v := (-1)) G dX9_at_21 (by decide) ?_
        exact zv_iret G hr dX9_at_22 ⟨(wzAn_n (fun q => by first | exact f_1 (by omega) | exact f_8 (by omega) | exact f_15 (by omega))), wzE_z hz⟩
set_option maxHeartbeats 4000000 in
set_option maxRecDepth 100000 in
theorem zc_X9_slice_at0 (l : Launch) (E : za_E) (t : Int32) (d : Int32) (σ0 : za_S) (h0 : wzE σ0) : zMi l E yX9_slice cX9_slice 6 (Option.some Jvm.ClassFile.FieldType.int) 2 42 [za_O 0 0, za_I t, za_I d] σ0 (fun r σ' => wzAn ((0 ≤ t.toInt ∧ t.toInt ≤ 1) ∧ (0 ≤ d.toInt ∧ d.toInt ≤ 99)) 0 (-1) r ∧ wzZ σ') := by
  refine zMi_of [(0, za_O 0 0), (1, za_I t), (2, za_I d)] (by decide) rfl rfl (Nat.le_of_ble_eq_true rfl) ?_
  intro ho p e s m args below meth c G hr
  refine zv_gen (R9 := wzE) h0 (fun σ hz => ?_)
  refine zv_iload_n (j := 1) G dX9_slice_0 rfl rfl ?_
  refine zv_callSi (as := [za_I t]) G (zc_X9_isTable_aty l E t σ ) zk_X9_isTable zm_438 rfl ⟨(Nat.le_of_ble_eq_true rfl), (Nat.le_of_ble_eq_true rfl)⟩ ⟨Nat.zero_le _, Nat.zero_le _⟩ (Nat.le_of_ble_eq_true rfl) dX9_slice_1 (fun r_1 σ h_1 => ?_)
  obtain ⟨h_1, rfl⟩ := h_1
  refine zv_if_eq (tgt := 14) G dX9_slice_4 (by decide) (fun c_4 => ?_) (fun c_4 => ?_)
  · have f_1 := fun q9 => (h_1.2.mpr q9) c_4
    refine zv_iconst (v := (-1)) G dX9_slice_14 (by decide) ?_
    exact zv_iret G hr dX9_slice_15 ⟨(wzAn_n (fun q => by first | exact f_1 (by omega) | exact f_8 (by omega))), wzE_z hz⟩
  · have t_1 := h_1.2.mp c_4
    refine zv_iload_n (j := 2) G dX9_slice_7 rfl rfl ?_
    refine zv_callSi (as := [za_I d]) G (zc_X9_isDay_aty l E d σ ) zk_X9_isDay zm_447 rfl ⟨(Nat.le_of_ble_eq_true rfl), (Nat.le_of_ble_eq_true rfl)⟩ ⟨Nat.zero_le _, Nat.zero_le _⟩ (Nat.le_of_ble_eq_true rfl) dX9_slice_8 (fun r_8 σ h_8 => ?_)
    obtain ⟨h_8, rfl⟩ := h_8
    refine zv_if_ne (tgt := 16) G dX9_slice_11 (by decide) (fun c_11 => ?_) (fun c_11 => ?_)
    · have t_8 := h_8.2.mp c_11
      refine zv_aload_n (j := 0) G dX9_slice_16 rfl rfl ?_
      refine zg_X9_10 G dX9_slice_17 ?_
      refine zv_iload_n (j := 1) G dX9_slice_20 rfl rfl ?_
      refine zv_callVNr (as := [za_I t]) G (by decide) rfl rfl (zc_X4_table_atx l E 1 t σ (wz01i t_1)) zk_X4_table zm_453 rfl ⟨(Nat.le_of_ble_eq_true rfl), (Nat.le_of_ble_eq_true rfl)⟩ ⟨Nat.zero_le _, Nat.zero_le _⟩ (Nat.le_of_ble_eq_true rfl) dX9_slice_21 (fun r_21 σ h_21 => ?_)
      obtain ⟨w_21, rfl, h_w_21, t_21, rfl⟩ := h_21
      refine zv_astore_n (lv' := [(3, za_O 2 w_21), (0, za_O 0 0), (1, za_I t), (2, za_I d)]) G dX9_slice_24 rfl (by decide) rfl ?_
      refine zv_iconst (v := 0) G dX9_slice_25 (by decide) ?_
      refine zv_istore (lv' := [(4, za_I 0), (3, za_O 2 w_21), (0, za_O 0 0), (1, za_I t), (2, za_I d)]) G dX9_slice_26 (by decide) rfl ?_
      refine zv_aload_n (j := 2) G dX9_slice_28 rfl rfl ?_
      refine zg_X9_40 G dX9_slice_29 ?_
      refine zv_callVNv (as := []) G (by decide) rfl rfl (zc_X8_clear_atx l E  σ ) zk_X8_clear zm_776 rfl ⟨(Nat.le_of_ble_eq_true rfl), (Nat.le_of_ble_eq_true rfl)⟩ ⟨Nat.zero_le _, Nat.zero_le _⟩ (Nat.le_of_ble_eq_true rfl) dX9_slice_32 (fun σ h_32 => ?_)
      have hz9 := h_32
      have hz := wzE_l hz hz9
      refine zv_iconst (v := 0) G dX9_slice_35 (by decide) ?_
      refine zv_istore (lv' := [(5, za_I 0), (4, za_I 0), (3, za_O 2 w_21), (0, za_O 0 0), (1, za_I t), (2, za_I d)]) G dX9_slice_36 (by decide) rfl ?_
      refine zv_iload (j := 0) G dX9_slice_38 rfl ?_
      refine zv_aload_n (j := 2) G dX9_slice_40 rfl rfl ?_
      refine zg_X9_106 G dX9_slice_41 ?_
      refine zv_icmp_ge (tgt := 95) G dX9_slice_44 (by decide) (fun c_44 => ?_) (fun c_44 => ?_)
      · have k_44 := z_cle c_44 (a := (σ.1 w_21 1).toInt) (b := 0) rfl rfl
        refine zv_iload (j := 1) G dX9_slice_95 rfl ?_
        exact zv_iret G hr dX9_slice_97 ⟨wzAn_y (by omega), wzE_z hz⟩
      · exact absurd (show (σ.1 w_21 1) ≤ 0 by rw [wzE_t hz (wz01i t_1) t_21]; decide) c_44
    · have f_8 := fun q9 => (h_8.2.mpr q9) c_11
      refine zv_iconst (v := (-1)) G dX9_slice_14 (by decide) ?_
      exact zv_iret G hr dX9_slice_15 ⟨(wzAn_n (fun q => by first | exact f_1 (by omega) | exact f_8 (by omega))), wzE_z hz⟩
set_option maxHeartbeats 4000000 in
set_option maxRecDepth 100000 in
theorem zc_X9_gaps_at0 (l : Launch) (E : za_E) (t : Int32) (k : Int32) (fd : Int32) (td : Int32) (σ0 : za_S) (h0 : wzE σ0) : zMi l E yX9_gaps cX9_gaps 8 (Option.some Jvm.ClassFile.FieldType.int) 6 135 [za_O 0 0, za_I t, za_I k, za_I fd, za_I td] σ0 (fun r σ' => wzAn ((0 ≤ t.toInt ∧ t.toInt ≤ 1) ∧ (0 ≤ k.toInt ∧ k.toInt ≤ 9) ∧ (0 ≤ fd.toInt ∧ fd.toInt ≤ 99) ∧ fd.toInt < td.toInt ∧ td.toInt ≤ 100) (td - fd) (-1) r ∧ wzZ σ') := by
  refine zMi_of [(0, za_O 0 0), (1, za_I t), (2, za_I k), (3, za_I fd), (4, za_I td)] (by decide) rfl rfl (Nat.le_of_ble_eq_true rfl) ?_
  intro ho p e s m args below meth c G hr
  refine zv_gen (R9 := wzE) h0 (fun σ hz => ?_)
  refine zv_iload_n (j := 1) G dX9_gaps_0 rfl rfl ?_
  refine zv_iload_n (j := 2) G dX9_gaps_1 rfl rfl ?_
  refine zv_iload_n (j := 3) G dX9_gaps_2 rfl rfl ?_
  refine zv_iload (j := 4) G dX9_gaps_3 rfl ?_
  refine zv_callSi (as := [za_I t, za_I k, za_I fd, za_I td]) G (zc_X9_isPortion_aty l E t k fd td σ ) zk_X9_isPortion zm_435 rfl ⟨(Nat.le_of_ble_eq_true rfl), (Nat.le_of_ble_eq_true rfl)⟩ ⟨Nat.zero_le _, Nat.zero_le _⟩ (Nat.le_of_ble_eq_true rfl) dX9_gaps_5 (fun r_5 σ h_5 => ?_)
  obtain ⟨h_5, rfl⟩ := h_5
  refine zv_if_ne (tgt := 13) G dX9_gaps_8 (by decide) (fun c_8 => ?_) (fun c_8 => ?_)
  · have t_5 := h_5.2.mp c_8
    refine zv_aload_n (j := 0) G dX9_gaps_13 rfl rfl ?_
    refine zg_X9_10 G dX9_gaps_14 ?_
    refine zv_iload_n (j := 1) G dX9_gaps_17 rfl rfl ?_
    refine zv_callVNr (as := [za_I t]) G (by decide) rfl rfl (zc_X4_table_atx l E 1 t σ (wz01i t_5.1)) zk_X4_table zm_453 rfl ⟨(Nat.le_of_ble_eq_true rfl), (Nat.le_of_ble_eq_true rfl)⟩ ⟨Nat.zero_le _, Nat.zero_le _⟩ (Nat.le_of_ble_eq_true rfl) dX9_gaps_18 (fun r_18 σ h_18 => ?_)
    obtain ⟨w_18, rfl, h_w_18, t_18, rfl⟩ := h_18
    refine zv_astore (lv' := [(5, za_O 2 w_18), (0, za_O 0 0), (1, za_I t), (2, za_I k), (3, za_I fd), (4, za_I td)]) G dX9_gaps_21 (by decide) rfl ?_
    refine zv_iload (j := 5) G dX9_gaps_23 rfl ?_
    refine zv_iload_n (j := 4) G dX9_gaps_25 rfl rfl ?_
    refine zv_isub G dX9_gaps_26 ?_
    refine zv_aload (j := 0) G dX9_gaps_27 rfl ?_
    refine zv_iload_n (j := 3) G dX9_gaps_29 rfl rfl ?_
    refine zv_iload_n (j := 4) G dX9_gaps_30 rfl rfl ?_
    refine zv_iload (j := 5) G dX9_gaps_31 rfl ?_
    refine zv_callVNi (as := [za_I k, za_I fd, za_I td]) G (by decide) rfl rfl (zc_X6_daysWithin_atx l E w_18 k fd td [] σ (wzE_T hz (wz01i t_5.1) t_18) wzOk_n (by omega)) zk_X6_daysWithin zm_568 rfl ⟨(Nat.le_of_ble_eq_true rfl), (Nat.le_of_ble_eq_true rfl)⟩ ⟨Nat.zero_le _, Nat.zero_le _⟩ (Nat.le_of_ble_eq_true rfl) dX9_gaps_33 (fun r_33 σ h_33 => ?_)
    obtain ⟨h_33, rfl⟩ := h_33
    refine zv_isub G dX9_gaps_36 ?_
    refine zv_top (fun x_37 e_37 => ?_)
    first | have q_37 := z_subf e_37 (a := (td - fd).toInt) (b := r_33.toInt) rfl rfl (by omega) (by omega) | skip
    refine zv_istore (lv' := [(6, za_I x_37), (5, za_O 2 w_18), (0, za_O 0 0), (1, za_I t), (2, za_I k), (3, za_I fd), (4, za_I td)]) G dX9_gaps_37 (by decide) rfl ?_
    refine zv_aload_n (j := 2) G dX9_gaps_39 rfl rfl ?_
    refine zg_X9_40 G dX9_gaps_40 ?_
    refine zv_callVNv (as := []) G (by decide) rfl rfl (zc_X8_clear_atx l E  σ ) zk_X8_clear zm_776 rfl ⟨(Nat.le_of_ble_eq_true rfl), (Nat.le_of_ble_eq_true rfl)⟩ ⟨Nat.zero_le _, Nat.zero_le _⟩ (Nat.le_of_ble_eq_true rfl) dX9_gaps_43 (fun σ h_43 => ?_)
    have hz9 := h_43
    have hz := wzE_l hz hz9
    refine zv_iload (j := 0) G dX9_gaps_46 rfl ?_
    refine zv_if_le (tgt := 91) G dX9_gaps_48 (by decide) (fun c_48 => ?_) (fun c_48 => ?_)
    · have k_48 := z_cle c_48 (a := x_37.toInt) (b := 0) rfl rfl
      refine zv_iload (j := 0) G dX9_gaps_91 rfl ?_
      exact zv_iret G hr dX9_gaps_93 ⟨wzAn_e t_5 (by rw [e_37, show r_33 = 0 from Int32.toInt_inj.mp h_33]; exact wz_s0 _), wzE_z hz⟩
    · have k_48 := z_cnle c_48 (a := x_37.toInt) (b := 0) rfl rfl
      refine zv_aload (j := 1) G dX9_gaps_51 rfl ?_
      refine zv_iload_n (j := 4) G dX9_gaps_53 rfl rfl ?_
      refine zv_iload_n (j := 5) G dX9_gaps_54 rfl rfl ?_
      refine zv_callVNi (as := [za_I k, za_I fd]) G (by decide) rfl rfl (zc_X6_firstBareDay l E w_18 k fd σ ) zk_X6_firstBareDay zm_783 rfl ⟨(Nat.le_of_ble_eq_true rfl), (Nat.le_of_ble_eq_true rfl)⟩ ⟨Nat.zero_le _, Nat.zero_le _⟩ (Nat.le_of_ble_eq_true rfl) dX9_gaps_55 (fun r_55 σ h_55 => ?_)
      subst h_55
      refine zv_istore (lv' := [(7, za_I r_55), (6, za_I x_37), (5, za_O 2 w_18), (0, za_O 0 0), (1, za_I t), (2, za_I k), (3, za_I fd), (4, za_I td)]) G dX9_gaps_58 (by decide) rfl ?_
      refine zv_aload_n (j := 3) G dX9_gaps_60 rfl rfl ?_
      refine zg_X9_40 G dX9_gaps_61 ?_
      refine zv_iload (j := 0) G dX9_gaps_64 rfl ?_
      refine zv_i2l G dX9_gaps_66 ?_
      refine zv_callVNv (as := [za_L r_55.toInt64]) G (by decide) rfl rfl (zc_X8_add_atx l E r_55.toInt64 σ ) zk_X8_add zm_778 rfl ⟨(Nat.le_of_ble_eq_true rfl), (Nat.le_of_ble_eq_true rfl)⟩ ⟨Nat.zero_le _, Nat.zero_le _⟩ (Nat.le_of_ble_eq_true rfl) dX9_gaps_67 (fun σ h_67 => ?_)
      have hz9 := h_67
      have hz := wzE_l hz hz9
      refine zv_aload_n (j := 3) G dX9_gaps_70 rfl rfl ?_
      refine zg_X9_40 G dX9_gaps_71 ?_
      refine zv_iload (j := 7) G dX9_gaps_74 rfl ?_
      refine zv_aload (j := 2) G dX9_gaps_76 rfl ?_
      refine zv_iload_n (j := 5) G dX9_gaps_78 rfl rfl ?_
      refine zv_iload (j := 0) G dX9_gaps_79 rfl ?_
      refine zv_callVNi (as := [za_I k, za_I r_55]) G (by decide) rfl rfl (zc_X6_nextFrom l E w_18 k r_55 σ ) zk_X6_nextFrom zm_787 rfl ⟨(Nat.le_of_ble_eq_true rfl), (Nat.le_of_ble_eq_true rfl)⟩ ⟨Nat.zero_le _, Nat.zero_le _⟩ (Nat.le_of_ble_eq_true rfl) dX9_gaps_81 (fun r_81 σ h_81 => ?_)
      subst h_81
      refine zv_mmin G zm_391 zm_392 zm_147 zm_393 (Nat.le_of_ble_eq_true rfl) (Nat.le_of_ble_eq_true rfl) (Nat.zero_le _) (Nat.zero_le _) dX9_gaps_84 ?_
      refine zv_top (fun x_84 e_84 => ?_)
      refine zv_i2l G dX9_gaps_87 ?_
      refine zv_callVNv (as := [za_L x_84.toInt64]) G (by decide) rfl rfl (zc_X8_add_atx l E x_84.toInt64 σ ) zk_X8_add zm_778 rfl ⟨(Nat.le_of_ble_eq_true rfl), (Nat.le_of_ble_eq_true rfl)⟩ ⟨Nat.zero_le _, Nat.zero_le _⟩ (Nat.le_of_ble_eq_true rfl) dX9_gaps_88 (fun σ h_88 => ?_)
      have hz9 := h_88
      have hz := wzE_l hz hz9
      refine zv_iload (j := 1) G dX9_gaps_91 rfl ?_
      exact zv_iret G hr dX9_gaps_93 ⟨wzAn_e t_5 (by rw [e_37, show r_33 = 0 from Int32.toInt_inj.mp h_33]; exact wz_s0 _), wzE_z hz⟩
  · have f_5 := fun q9 => (h_5.2.mpr q9) c_8
    refine zv_iconst (v := (-1)) G dX9_gaps_11 (by decide) ?_
    exact zv_iret G hr dX9_gaps_12 ⟨(wzAn_n (fun q => by first | exact f_5 (by omega))), wzE_z hz⟩
set_option maxHeartbeats 4000000 in
set_option maxRecDepth 100000 in
theorem zc_X9_covers_at0 (l : Launch) (E : za_E) (k : Int32) (fd : Int32) (td : Int32) (σ0 : za_S) (h0 : wzE σ0) : zMi l E yX9_covers cX9_covers 4 (Option.some Jvm.ClassFile.FieldType.int) 6 136 [za_O 0 0, za_I k, za_I fd, za_I td] σ0 (fun r σ' => wzAn ((0 ≤ k.toInt ∧ k.toInt ≤ 9) ∧ (0 ≤ fd.toInt ∧ fd.toInt ≤ 99) ∧ fd.toInt < td.toInt ∧ td.toInt ≤ 100) 0 (-1) r ∧ wzZ σ') := by
  refine zMi_of [(0, za_O 0 0), (1, za_I k), (2, za_I fd), (3, za_I td)] (by decide) rfl rfl (Nat.le_of_ble_eq_true rfl) ?_
  intro ho p e s m args below meth c G hr
  refine zv_gen (R9 := wzE) h0 (fun σ hz => ?_)
  refine zv_iconst (v := 1) G dX9_covers_0 (by decide) ?_
  refine zv_iload_n (j := 1) G dX9_covers_1 rfl rfl ?_
  refine zv_iload_n (j := 2) G dX9_covers_2 rfl rfl ?_
  refine zv_iload_n (j := 3) G dX9_covers_3 rfl rfl ?_
  refine zv_callSi (as := [za_I 1, za_I k, za_I fd, za_I td]) G (zc_X9_isPortion_aty l E (1 : Int32) k fd td σ ) zk_X9_isPortion zm_435 rfl ⟨(Nat.le_of_ble_eq_true rfl), (Nat.le_of_ble_eq_true rfl)⟩ ⟨Nat.zero_le _, Nat.zero_le _⟩ (Nat.le_of_ble_eq_true rfl) dX9_covers_4 (fun r_4 σ h_4 => ?_)
  obtain ⟨h_4, rfl⟩ := h_4
  refine zv_if_ne (tgt := 12) G dX9_covers_7 (by decide) (fun c_7 => ?_) (fun c_7 => ?_)
  · have t_4 := h_4.2.mp c_7
    have p9 := t_4.2
    refine zv_aload_n (j := 0) G dX9_covers_12 rfl rfl ?_
    refine zg_X9_40 G dX9_covers_13 ?_
    refine zv_aload_n (j := 0) G dX9_covers_16 rfl rfl ?_
    refine zg_X9_10 G dX9_covers_17 ?_
    refine zg_X9_179 G dX9_covers_20 ?_
    refine zv_iload_n (j := 1) G dX9_covers_23 rfl rfl ?_
    refine zv_iload_n (j := 2) G dX9_covers_24 rfl rfl ?_
    refine zv_iload_n (j := 3) G dX9_covers_25 rfl rfl ?_
    refine zv_callVNi (as := [za_I k, za_I fd, za_I td]) G (by decide) rfl rfl (zc_X6_touching_atx l E 4 k fd td [] σ (wzTb_0 hz.1.2.1) wzOk_n (by omega)) zk_X6_touching zm_457 rfl ⟨(Nat.le_of_ble_eq_true rfl), (Nat.le_of_ble_eq_true rfl)⟩ ⟨Nat.zero_le _, Nat.zero_le _⟩ (Nat.le_of_ble_eq_true rfl) dX9_covers_26 (fun r_26 σ h_26 => ?_)
    obtain ⟨h_26, rfl⟩ := h_26
    refine zv_i2l G dX9_covers_29 ?_
    refine zv_callVNv (as := [za_L r_26.toInt64]) G (by decide) rfl rfl (zc_X8_tell_atx l E r_26.toInt64 σ ) zk_X8_tell zm_527 rfl ⟨(Nat.le_of_ble_eq_true rfl), (Nat.le_of_ble_eq_true rfl)⟩ ⟨Nat.zero_le _, Nat.zero_le _⟩ (Nat.le_of_ble_eq_true rfl) dX9_covers_30 (fun σ h_30 => ?_)
    have hz9 := h_30
    have hz := wzE_l hz hz9
    refine zv_aload_n (j := 0) G dX9_covers_33 rfl rfl ?_
    refine zg_X9_10 G dX9_covers_34 ?_
    refine zg_X9_179 G dX9_covers_37 ?_
    refine zv_iload_n (j := 1) G dX9_covers_40 rfl rfl ?_
    refine zv_iload_n (j := 2) G dX9_covers_41 rfl rfl ?_
    refine zv_iload_n (j := 3) G dX9_covers_42 rfl rfl ?_
    refine zv_callVNi (as := [za_I k, za_I fd, za_I td]) G (by decide) rfl rfl (zc_X6_daysWithin_atx l E 4 k fd td [] σ (wzTb_0 hz.1.2.1) wzOk_n (by omega)) zk_X6_daysWithin zm_568 rfl ⟨(Nat.le_of_ble_eq_true rfl), (Nat.le_of_ble_eq_true rfl)⟩ ⟨Nat.zero_le _, Nat.zero_le _⟩ (Nat.le_of_ble_eq_true rfl) dX9_covers_43 (fun r_43 σ h_43 => ?_)
    obtain ⟨h_43, rfl⟩ := h_43
    refine zv_iload_n (j := 3) G dX9_covers_46 rfl rfl ?_
    refine zv_iload_n (j := 2) G dX9_covers_47 rfl rfl ?_
    refine zv_isub G dX9_covers_48 ?_
    refine zv_icmp_ne (tgt := 56) G dX9_covers_49 (by decide) (fun c_49 => ?_) (fun c_49 => ?_)
    · have k_49 := z_cne c_49 (a := r_43.toInt) (b := (td - fd).toInt) rfl rfl
      refine zv_iconst (v := 0) G dX9_covers_56 (by decide) ?_
      exact zv_iret G hr dX9_covers_57 ⟨wzAn_y t_4.2, wzE_z hz⟩
    · exact absurd (congrArg Int32.toInt c_49) (by rw [h_43, z_sub (by omega) (by omega)]; show ¬ (0 : Int) = _; omega)
  · have f_4 := fun q9 => (h_4.2.mpr q9) c_7
    refine zv_iconst (v := (-1)) G dX9_covers_10 (by decide) ?_
    exact zv_iret G hr dX9_covers_11 ⟨wzAn_n (fun q => f_4 ⟨by decide, q⟩), wzE_z hz⟩
set_option maxHeartbeats 4000000 in
set_option maxRecDepth 100000 in
theorem zc_X9_lies_at0 (l : Launch) (E : za_E) (t : Int32) (i : Int32) (o : Int32) (j : Int32) (σ0 : za_S) (h0 : wzE σ0) : zMi l E yX9_lies cX9_lies 7 (Option.some Jvm.ClassFile.FieldType.int) 2 42 [za_O 0 0, za_I t, za_I i, za_I o, za_I j] σ0 (fun r σ' => r = -1 ∧ wzZ σ') := by
  refine zMi_of [(0, za_O 0 0), (1, za_I t), (2, za_I i), (3, za_I o), (4, za_I j)] (by decide) rfl rfl (Nat.le_of_ble_eq_true rfl) ?_
  intro ho p e s m args below meth c G hr
  refine zv_gen (R9 := wzE) h0 (fun σ hz => ?_)
  refine zv_iload_n (j := 1) G dX9_lies_0 rfl rfl ?_
  refine zv_callSi (as := [za_I t]) G (zc_X9_isTable_aty l E t σ ) zk_X9_isTable zm_438 rfl ⟨(Nat.le_of_ble_eq_true rfl), (Nat.le_of_ble_eq_true rfl)⟩ ⟨Nat.zero_le _, Nat.zero_le _⟩ (Nat.le_of_ble_eq_true rfl) dX9_lies_1 (fun r_1 σ h_1 => ?_)
  obtain ⟨h_1, rfl⟩ := h_1
  refine zv_if_eq (tgt := 45) G dX9_lies_4 (by decide) (fun c_4 => ?_) (fun c_4 => ?_)
  · have f_1 := fun q9 => (h_1.2.mpr q9) c_4
    refine zv_iconst (v := (-1)) G dX9_lies_45 (by decide) ?_
    exact zv_iret G hr dX9_lies_46 ⟨rfl, wzE_z hz⟩
  · have t_1 := h_1.2.mp c_4
    refine zv_iload_n (j := 3) G dX9_lies_7 rfl rfl ?_
    refine zv_callSi (as := [za_I o]) G (zc_X9_isTable_aty l E o σ ) zk_X9_isTable zm_438 rfl ⟨(Nat.le_of_ble_eq_true rfl), (Nat.le_of_ble_eq_true rfl)⟩ ⟨Nat.zero_le _, Nat.zero_le _⟩ (Nat.le_of_ble_eq_true rfl) dX9_lies_8 (fun r_8 σ h_8 => ?_)
    obtain ⟨h_8, rfl⟩ := h_8
    refine zv_if_eq (tgt := 45) G dX9_lies_11 (by decide) (fun c_11 => ?_) (fun c_11 => ?_)
    · have f_8 := fun q9 => (h_8.2.mpr q9) c_11
      refine zv_iconst (v := (-1)) G dX9_lies_45 (by decide) ?_
      exact zv_iret G hr dX9_lies_46 ⟨rfl, wzE_z hz⟩
    · have t_8 := h_8.2.mp c_11
      refine zv_aload_n (j := 0) G dX9_lies_14 rfl rfl ?_
      refine zg_X9_10 G dX9_lies_15 ?_
      refine zv_iload_n (j := 1) G dX9_lies_18 rfl rfl ?_
      refine zv_callVNr (as := [za_I t]) G (by decide) rfl rfl (zc_X4_table_atx l E 1 t σ (wz01i t_1)) zk_X4_table zm_453 rfl ⟨(Nat.le_of_ble_eq_true rfl), (Nat.le_of_ble_eq_true rfl)⟩ ⟨Nat.zero_le _, Nat.zero_le _⟩ (Nat.le_of_ble_eq_true rfl) dX9_lies_19 (fun r_19 σ h_19 => ?_)
      obtain ⟨w_19, rfl, h_w_19, t_19, rfl⟩ := h_19
      refine zv_iload_n (j := 2) G dX9_lies_22 rfl rfl ?_
      refine zv_callVNi (as := [za_I i]) G (by decide) rfl rfl (zc_X6_has_atx l E w_19 i σ ) zk_X6_has zm_799 rfl ⟨(Nat.le_of_ble_eq_true rfl), (Nat.le_of_ble_eq_true rfl)⟩ ⟨Nat.zero_le _, Nat.zero_le _⟩ (Nat.le_of_ble_eq_true rfl) dX9_lies_23 (fun r_23 σ h_23 => ?_)
      obtain ⟨h_23, rfl⟩ := h_23
      refine zv_if_eq (tgt := 45) G dX9_lies_26 (by decide) (fun c_26 => ?_) (fun c_26 => ?_)
      · have f_23 := fun q9 => (h_23.2.mpr q9) c_26
        refine zv_iconst (v := (-1)) G dX9_lies_45 (by decide) ?_
        exact zv_iret G hr dX9_lies_46 ⟨rfl, wzE_z hz⟩
      · exact absurd (h_23.2.mp c_26) (by rw [wzE_t hz (wz01i t_1) t_19]; have h8 : (0 : Int32).toInt = 0 := (by decide); omega)
set_option maxHeartbeats 4000000 in
set_option maxRecDepth 100000 in
theorem zc_X9_changes_at0 (l : Launch) (E : za_E) (t : Int32) (k : Int32) (σ0 : za_S) (h0 : wzE σ0) : zMi l E yX9_changes cX9_changes 6 (Option.some Jvm.ClassFile.FieldType.int) 2 42 [za_O 0 0, za_I t, za_I k] σ0 (fun r σ' => wzAn ((0 ≤ t.toInt ∧ t.toInt ≤ 1) ∧ (0 ≤ k.toInt ∧ k.toInt ≤ 9)) 0 (-1) r ∧ wzZ σ') := by
  refine zMi_of [(0, za_O 0 0), (1, za_I t), (2, za_I k)] (by decide) rfl rfl (Nat.le_of_ble_eq_true rfl) ?_
  intro ho p e s m args below meth c G hr
  refine zv_gen (R9 := wzE) h0 (fun σ hz => ?_)
  refine zv_iload_n (j := 1) G dX9_changes_0 rfl rfl ?_
  refine zv_callSi (as := [za_I t]) G (zc_X9_isTable_aty l E t σ ) zk_X9_isTable zm_438 rfl ⟨(Nat.le_of_ble_eq_true rfl), (Nat.le_of_ble_eq_true rfl)⟩ ⟨Nat.zero_le _, Nat.zero_le _⟩ (Nat.le_of_ble_eq_true rfl) dX9_changes_1 (fun r_1 σ h_1 => ?_)
  obtain ⟨h_1, rfl⟩ := h_1
  refine zv_if_eq (tgt := 14) G dX9_changes_4 (by decide) (fun c_4 => ?_) (fun c_4 => ?_)
  · have f_1 := fun q9 => (h_1.2.mpr q9) c_4
    refine zv_iconst (v := (-1)) G dX9_changes_14 (by decide) ?_
    exact zv_iret G hr dX9_changes_15 ⟨(wzAn_n (fun q => by first | exact f_1 (by omega) | exact f_8 (by omega))), wzE_z hz⟩
  · have t_1 := h_1.2.mp c_4
    refine zv_iload_n (j := 2) G dX9_changes_7 rfl rfl ?_
    refine zv_callSi (as := [za_I k]) G (zc_X9_isKey_aty l E k σ ) zk_X9_isKey zm_441 rfl ⟨(Nat.le_of_ble_eq_true rfl), (Nat.le_of_ble_eq_true rfl)⟩ ⟨Nat.zero_le _, Nat.zero_le _⟩ (Nat.le_of_ble_eq_true rfl) dX9_changes_8 (fun r_8 σ h_8 => ?_)
    obtain ⟨h_8, rfl⟩ := h_8
    refine zv_if_ne (tgt := 16) G dX9_changes_11 (by decide) (fun c_11 => ?_) (fun c_11 => ?_)
    · have t_8 := h_8.2.mp c_11
      refine zv_aload_n (j := 0) G dX9_changes_16 rfl rfl ?_
      refine zg_X9_10 G dX9_changes_17 ?_
      refine zv_iload_n (j := 1) G dX9_changes_20 rfl rfl ?_
      refine zv_callVNr (as := [za_I t]) G (by decide) rfl rfl (zc_X4_table_atx l E 1 t σ (wz01i t_1)) zk_X4_table zm_453 rfl ⟨(Nat.le_of_ble_eq_true rfl), (Nat.le_of_ble_eq_true rfl)⟩ ⟨Nat.zero_le _, Nat.zero_le _⟩ (Nat.le_of_ble_eq_true rfl) dX9_changes_21 (fun r_21 σ h_21 => ?_)
      obtain ⟨w_21, rfl, h_w_21, t_21, rfl⟩ := h_21
      refine zv_astore_n (lv' := [(3, za_O 2 w_21), (0, za_O 0 0), (1, za_I t), (2, za_I k)]) G dX9_changes_24 rfl (by decide) rfl ?_
      refine zv_iconst (v := 0) G dX9_changes_25 (by decide) ?_
      refine zv_istore (lv' := [(4, za_I 0), (3, za_O 2 w_21), (0, za_O 0 0), (1, za_I t), (2, za_I k)]) G dX9_changes_26 (by decide) rfl ?_
      refine zv_aload_n (j := 2) G dX9_changes_28 rfl rfl ?_
      refine zg_X9_40 G dX9_changes_29 ?_
      refine zv_callVNv (as := []) G (by decide) rfl rfl (zc_X8_clear_atx l E  σ ) zk_X8_clear zm_776 rfl ⟨(Nat.le_of_ble_eq_true rfl), (Nat.le_of_ble_eq_true rfl)⟩ ⟨Nat.zero_le _, Nat.zero_le _⟩ (Nat.le_of_ble_eq_true rfl) dX9_changes_32 (fun σ h_32 => ?_)
      have hz9 := h_32
      have hz := wzE_l hz hz9
      refine zv_iconst (v := 1) G dX9_changes_35 (by decide) ?_
      refine zv_istore (lv' := [(5, za_I 1), (4, za_I 0), (3, za_O 2 w_21), (0, za_O 0 0), (1, za_I t), (2, za_I k)]) G dX9_changes_36 (by decide) rfl ?_
      refine zv_iload (j := 0) G dX9_changes_38 rfl ?_
      refine zv_aload_n (j := 2) G dX9_changes_40 rfl rfl ?_
      refine zg_X9_106 G dX9_changes_41 ?_
      refine zv_icmp_ge (tgt := 110) G dX9_changes_44 (by decide) (fun c_44 => ?_) (fun c_44 => ?_)
      · have k_44 := z_cle c_44 (a := (σ.1 w_21 1).toInt) (b := 1) rfl rfl
        refine zv_iload (j := 1) G dX9_changes_110 rfl ?_
        exact zv_iret G hr dX9_changes_112 ⟨wzAn_y (by omega), wzE_z hz⟩
      · exact absurd (show (σ.1 w_21 1) ≤ 1 by rw [wzE_t hz (wz01i t_1) t_21]; decide) c_44
    · have f_8 := fun q9 => (h_8.2.mpr q9) c_11
      refine zv_iconst (v := (-1)) G dX9_changes_14 (by decide) ?_
      exact zv_iret G hr dX9_changes_15 ⟨(wzAn_n (fun q => by first | exact f_1 (by omega) | exact f_8 (by omega))), wzE_z hz⟩
set_option maxHeartbeats 4000000 in
set_option maxRecDepth 100000 in
theorem zc_X9_rows_at0 (l : Launch) (E : za_E) (t : Int32) (σ0 : za_S) (h0 : wzE σ0) : zMi l E yX9_rows cX9_rows 3 (Option.some Jvm.ClassFile.FieldType.int) 6 128 [za_O 0 0, za_I t] σ0 (fun r σ' => wzAn ((0 ≤ t.toInt ∧ t.toInt ≤ 1)) 0 (-1) r ∧ wzZ σ') := by
  refine zMi_of [(0, za_O 0 0), (1, za_I t)] (by decide) rfl rfl (Nat.le_of_ble_eq_true rfl) ?_
  intro ho p e s m args below meth c G hr
  refine zv_gen (R9 := wzE) h0 (fun σ hz => ?_)
  refine zv_iload_n (j := 1) G dX9_rows_0 rfl rfl ?_
  refine zv_callSi (as := [za_I t]) G (zc_X9_isTable_aty l E t σ ) zk_X9_isTable zm_438 rfl ⟨(Nat.le_of_ble_eq_true rfl), (Nat.le_of_ble_eq_true rfl)⟩ ⟨Nat.zero_le _, Nat.zero_le _⟩ (Nat.le_of_ble_eq_true rfl) dX9_rows_1 (fun r_1 σ h_1 => ?_)
  obtain ⟨h_1, rfl⟩ := h_1
  refine zv_if_ne (tgt := 9) G dX9_rows_4 (by decide) (fun c_4 => ?_) (fun c_4 => ?_)
  · have t_1 := h_1.2.mp c_4
    refine zv_aload_n (j := 0) G dX9_rows_9 rfl rfl ?_
    refine zg_X9_10 G dX9_rows_10 ?_
    refine zv_iload_n (j := 1) G dX9_rows_13 rfl rfl ?_
    refine zv_callVNr (as := [za_I t]) G (by decide) rfl rfl (zc_X4_table_atx l E 1 t σ (wz01i t_1)) zk_X4_table zm_453 rfl ⟨(Nat.le_of_ble_eq_true rfl), (Nat.le_of_ble_eq_true rfl)⟩ ⟨Nat.zero_le _, Nat.zero_le _⟩ (Nat.le_of_ble_eq_true rfl) dX9_rows_14 (fun r_14 σ h_14 => ?_)
    obtain ⟨w_14, rfl, h_w_14, t_14, rfl⟩ := h_14
    refine zv_astore_n (lv' := [(2, za_O 2 w_14), (0, za_O 0 0), (1, za_I t)]) G dX9_rows_17 rfl (by decide) rfl ?_
    refine zv_aload_n (j := 1) G dX9_rows_18 rfl rfl ?_
    refine zg_X9_40 G dX9_rows_19 ?_
    refine zv_aload_n (j := 0) G dX9_rows_22 rfl rfl ?_
    refine zg_X9_106 G dX9_rows_23 ?_
    refine zv_aload_n (j := 0) G dX9_rows_26 rfl rfl ?_
    refine zv_callVNi (as := []) G (by decide) rfl rfl (zc_X6_alikeNeighbours l E w_14 σ ) zk_X6_alikeNeighbours zm_634 rfl ⟨(Nat.le_of_ble_eq_true rfl), (Nat.le_of_ble_eq_true rfl)⟩ ⟨Nat.zero_le _, Nat.zero_le _⟩ (Nat.le_of_ble_eq_true rfl) dX9_rows_27 (fun r_27 σ h_27 => ?_)
    subst h_27
    refine zv_isub G dX9_rows_30 ?_
    refine zv_i2l G dX9_rows_31 ?_
    refine zv_aload_n (j := 0) G dX9_rows_32 rfl rfl ?_
    refine zv_callVNi (as := []) G (by decide) rfl rfl (zc_X6_allDays l E w_14 σ ) zk_X6_allDays zm_812 rfl ⟨(Nat.le_of_ble_eq_true rfl), (Nat.le_of_ble_eq_true rfl)⟩ ⟨Nat.zero_le _, Nat.zero_le _⟩ (Nat.le_of_ble_eq_true rfl) dX9_rows_33 (fun r_33 σ h_33 => ?_)
    subst h_33
    refine zv_i2l G dX9_rows_36 ?_
    refine zv_callVNv (as := [za_L (((σ.1 w_14 1) - r_27).toInt64), za_L r_33.toInt64]) G (by decide) rfl rfl (zc_X8_tell__atx l E (((σ.1 w_14 1) - r_27).toInt64) r_33.toInt64 σ ) zk_X8_tell_ zm_608 rfl ⟨(Nat.le_of_ble_eq_true rfl), (Nat.le_of_ble_eq_true rfl)⟩ ⟨Nat.zero_le _, Nat.zero_le _⟩ (Nat.le_of_ble_eq_true rfl) dX9_rows_37 (fun σ h_37 => ?_)
    have hz9 := h_37
    have hz := wzE_l hz hz9
    refine zv_aload_n (j := 0) G dX9_rows_40 rfl rfl ?_
    refine zg_X9_106 G dX9_rows_41 ?_
    exact zv_iret G hr dX9_rows_44 ⟨wzAn_e t_1 (wzE_t hz (wz01i t_1) t_14), wzE_z hz⟩
  · have f_1 := fun q9 => (h_1.2.mpr q9) c_4
    refine zv_iconst (v := (-1)) G dX9_rows_7 (by decide) ?_
    exact zv_iret G hr dX9_rows_8 ⟨(wzAn_n (fun q => by first | exact f_1 (by omega))), wzE_z hz⟩
set_option maxHeartbeats 4000000 in
set_option maxRecDepth 100000 in
theorem zc_X9_longest_at0 (l : Launch) (E : za_E) (t : Int32) (σ0 : za_S) (h0 : wzE σ0) : zMi l E yX9_longest cX9_longest 7 (Option.some Jvm.ClassFile.FieldType.int) 3 65 [za_O 0 0, za_I t] σ0 (fun r σ' => wzAn ((0 ≤ t.toInt ∧ t.toInt ≤ 1)) (-2) (-1) r ∧ wzZ σ') := by
  refine zMi_of [(0, za_O 0 0), (1, za_I t)] (by decide) rfl rfl (Nat.le_of_ble_eq_true rfl) ?_
  intro ho p e s m args below meth c G hr
  refine zv_gen (R9 := wzE) h0 (fun σ hz => ?_)
  refine zv_iload_n (j := 1) G dX9_longest_0 rfl rfl ?_
  refine zv_callSi (as := [za_I t]) G (zc_X9_isTable_aty l E t σ ) zk_X9_isTable zm_438 rfl ⟨(Nat.le_of_ble_eq_true rfl), (Nat.le_of_ble_eq_true rfl)⟩ ⟨Nat.zero_le _, Nat.zero_le _⟩ (Nat.le_of_ble_eq_true rfl) dX9_longest_1 (fun r_1 σ h_1 => ?_)
  obtain ⟨h_1, rfl⟩ := h_1
  refine zv_if_ne (tgt := 9) G dX9_longest_4 (by decide) (fun c_4 => ?_) (fun c_4 => ?_)
  · have t_1 := h_1.2.mp c_4
    refine zv_aload_n (j := 0) G dX9_longest_9 rfl rfl ?_
    refine zg_X9_10 G dX9_longest_10 ?_
    refine zv_iload_n (j := 1) G dX9_longest_13 rfl rfl ?_
    refine zv_callVNr (as := [za_I t]) G (by decide) rfl rfl (zc_X4_table_atx l E 1 t σ (wz01i t_1)) zk_X4_table zm_453 rfl ⟨(Nat.le_of_ble_eq_true rfl), (Nat.le_of_ble_eq_true rfl)⟩ ⟨Nat.zero_le _, Nat.zero_le _⟩ (Nat.le_of_ble_eq_true rfl) dX9_longest_14 (fun r_14 σ h_14 => ?_)
    obtain ⟨w_14, rfl, h_w_14, t_14, rfl⟩ := h_14
    refine zv_astore_n (lv' := [(2, za_O 2 w_14), (0, za_O 0 0), (1, za_I t)]) G dX9_longest_17 rfl (by decide) rfl ?_
    refine zv_bipush (v := (-2)) G dX9_longest_18 (by decide) ?_
    refine zv_istore_n (lv' := [(3, za_I (-2)), (2, za_O 2 w_14), (0, za_O 0 0), (1, za_I t)]) G dX9_longest_20 rfl (by decide) rfl ?_
    refine zv_iconst (v := 0) G dX9_longest_21 (by decide) ?_
    refine zv_istore (lv' := [(4, za_I 0), (3, za_I (-2)), (2, za_O 2 w_14), (0, za_O 0 0), (1, za_I t)]) G dX9_longest_22 (by decide) rfl ?_
    refine zv_iconst (v := 0) G dX9_longest_24 (by decide) ?_
    refine zv_istore (lv' := [(5, za_I 0), (4, za_I 0), (3, za_I (-2)), (2, za_O 2 w_14), (0, za_O 0 0), (1, za_I t)]) G dX9_longest_25 (by decide) rfl ?_
    refine zv_iload (j := 0) G dX9_longest_27 rfl ?_
    refine zv_aload_n (j := 3) G dX9_longest_29 rfl rfl ?_
    refine zg_X9_106 G dX9_longest_30 ?_
    refine zv_icmp_ge (tgt := 64) G dX9_longest_33 (by decide) (fun c_33 => ?_) (fun c_33 => ?_)
    · have k_33 := z_cle c_33 (a := (σ.1 w_14 1).toInt) (b := 0) rfl rfl
      refine zv_iload_n (j := 2) G dX9_longest_64 rfl rfl ?_
      refine zv_if_lt (tgt := 78) G dX9_longest_65 (by decide) (fun c_65 => ?_) (fun c_65 => ?_)
      · have k_65 := z_clt c_65 (a := -2) (b := 0) rfl rfl
        refine zv_iload_n (j := 2) G dX9_longest_78 rfl rfl ?_
        exact zv_iret G hr dX9_longest_79 ⟨wzAn_y (by omega), wzE_z hz⟩
      · exact absurd c_65 (by decide)
    · exact absurd (show (σ.1 w_14 1) ≤ 0 by rw [wzE_t hz (wz01i t_1) t_14]; decide) c_33
  · have f_1 := fun q9 => (h_1.2.mpr q9) c_4
    refine zv_iconst (v := (-1)) G dX9_longest_7 (by decide) ?_
    exact zv_iret G hr dX9_longest_8 ⟨(wzAn_n (fun q => by first | exact f_1 (by omega))), wzE_z hz⟩
set_option maxHeartbeats 4000000 in
set_option maxRecDepth 100000 in
theorem zc_X9_free_at0 (l : Launch) (E : za_E) (t : Int32) (k : Int32) (d : Int32) (n : Int32) (σ0 : za_S) (h0 : wzE σ0) : zMi l E yX9_free cX9_free 8 (Option.some Jvm.ClassFile.FieldType.int) 2 42 [za_O 0 0, za_I t, za_I k, za_I d, za_I n] σ0 (fun r σ' => wzFr ((0 ≤ t.toInt ∧ t.toInt ≤ 1) ∧ (0 ≤ k.toInt ∧ k.toInt ≤ 9) ∧ (0 ≤ d.toInt ∧ d.toInt ≤ 99) ∧ 1 ≤ n.toInt ∧ n.toInt ≤ 100) d.toInt n.toInt d r ∧ wzZ σ') := by
  refine zMi_of [(0, za_O 0 0), (1, za_I t), (2, za_I k), (3, za_I d), (4, za_I n)] (by decide) rfl rfl (Nat.le_of_ble_eq_true rfl) ?_
  intro ho p e s m args below meth c G hr
  refine zv_gen (R9 := wzE) h0 (fun σ hz => ?_)
  refine zv_iload_n (j := 1) G dX9_free_0 rfl rfl ?_
  refine zv_callSi (as := [za_I t]) G (zc_X9_isTable_aty l E t σ ) zk_X9_isTable zm_438 rfl ⟨(Nat.le_of_ble_eq_true rfl), (Nat.le_of_ble_eq_true rfl)⟩ ⟨Nat.zero_le _, Nat.zero_le _⟩ (Nat.le_of_ble_eq_true rfl) dX9_free_1 (fun r_1 σ h_1 => ?_)
  obtain ⟨h_1, rfl⟩ := h_1
  refine zv_if_eq (tgt := 34) G dX9_free_4 (by decide) (fun c_4 => ?_) (fun c_4 => ?_)
  · have f_1 := fun q9 => (h_1.2.mpr q9) c_4
    refine zv_iconst (v := (-1)) G dX9_free_34 (by decide) ?_
    exact zv_iret G hr dX9_free_35 ⟨⟨fun _ => rfl, fun q => False.elim (by first | exact f_1 q.1 | exact f_8 q.2.1 | exact f_15 q.2.2.1 | omega)⟩, wzE_z hz⟩
  · have t_1 := h_1.2.mp c_4
    refine zv_iload_n (j := 2) G dX9_free_7 rfl rfl ?_
    refine zv_callSi (as := [za_I k]) G (zc_X9_isKey_aty l E k σ ) zk_X9_isKey zm_441 rfl ⟨(Nat.le_of_ble_eq_true rfl), (Nat.le_of_ble_eq_true rfl)⟩ ⟨Nat.zero_le _, Nat.zero_le _⟩ (Nat.le_of_ble_eq_true rfl) dX9_free_8 (fun r_8 σ h_8 => ?_)
    obtain ⟨h_8, rfl⟩ := h_8
    refine zv_if_eq (tgt := 34) G dX9_free_11 (by decide) (fun c_11 => ?_) (fun c_11 => ?_)
    · have f_8 := fun q9 => (h_8.2.mpr q9) c_11
      refine zv_iconst (v := (-1)) G dX9_free_34 (by decide) ?_
      exact zv_iret G hr dX9_free_35 ⟨⟨fun _ => rfl, fun q => False.elim (by first | exact f_1 q.1 | exact f_8 q.2.1 | exact f_15 q.2.2.1 | omega)⟩, wzE_z hz⟩
    · have t_8 := h_8.2.mp c_11
      refine zv_iload_n (j := 3) G dX9_free_14 rfl rfl ?_
      refine zv_callSi (as := [za_I d]) G (zc_X9_isDay_aty l E d σ ) zk_X9_isDay zm_447 rfl ⟨(Nat.le_of_ble_eq_true rfl), (Nat.le_of_ble_eq_true rfl)⟩ ⟨Nat.zero_le _, Nat.zero_le _⟩ (Nat.le_of_ble_eq_true rfl) dX9_free_15 (fun r_15 σ h_15 => ?_)
      obtain ⟨h_15, rfl⟩ := h_15
      refine zv_if_eq (tgt := 34) G dX9_free_18 (by decide) (fun c_18 => ?_) (fun c_18 => ?_)
      · have f_15 := fun q9 => (h_15.2.mpr q9) c_18
        refine zv_iconst (v := (-1)) G dX9_free_34 (by decide) ?_
        exact zv_iret G hr dX9_free_35 ⟨⟨fun _ => rfl, fun q => False.elim (by first | exact f_1 q.1 | exact f_8 q.2.1 | exact f_15 q.2.2.1 | omega)⟩, wzE_z hz⟩
      · have t_15 := h_15.2.mp c_18
        refine zv_iload (j := 4) G dX9_free_21 rfl ?_
        refine zv_iconst (v := 1) G dX9_free_23 (by decide) ?_
        refine zv_icmp_lt (tgt := 34) G dX9_free_24 (by decide) (fun c_24 => ?_) (fun c_24 => ?_)
        · have k_24 := z_clt c_24 (a := n.toInt) (b := 1) rfl rfl
          refine zv_iconst (v := (-1)) G dX9_free_34 (by decide) ?_
          exact zv_iret G hr dX9_free_35 ⟨⟨fun _ => rfl, fun q => False.elim (by first | exact f_1 q.1 | exact f_8 q.2.1 | exact f_15 q.2.2.1 | omega)⟩, wzE_z hz⟩
        · have k_24 := z_cnlt c_24 (a := n.toInt) (b := 1) rfl rfl
          refine zv_iload (j := 4) G dX9_free_27 rfl ?_
          refine zv_bipush (v := 100) G dX9_free_29 (by decide) ?_
          refine zv_icmp_le (tgt := 36) G dX9_free_31 (by decide) (fun c_31 => ?_) (fun c_31 => ?_)
          · have k_31 := z_cle c_31 (a := n.toInt) (b := 100) rfl rfl
            refine zv_aload_n (j := 0) G dX9_free_36 rfl rfl ?_
            refine zg_X9_10 G dX9_free_37 ?_
            refine zv_iload_n (j := 1) G dX9_free_40 rfl rfl ?_
            refine zv_callVNr (as := [za_I t]) G (by decide) rfl rfl (zc_X4_table_atx l E 1 t σ (wz01i t_1)) zk_X4_table zm_453 rfl ⟨(Nat.le_of_ble_eq_true rfl), (Nat.le_of_ble_eq_true rfl)⟩ ⟨Nat.zero_le _, Nat.zero_le _⟩ (Nat.le_of_ble_eq_true rfl) dX9_free_41 (fun r_41 σ h_41 => ?_)
            obtain ⟨w_41, rfl, h_w_41, t_41, rfl⟩ := h_41
            refine zv_astore (lv' := [(5, za_O 2 w_41), (0, za_O 0 0), (1, za_I t), (2, za_I k), (3, za_I d), (4, za_I n)]) G dX9_free_44 (by decide) rfl ?_
            refine zv_iload_n (j := 4) G dX9_free_46 rfl rfl ?_
            refine zv_istore (lv' := [(6, za_I d), (5, za_O 2 w_41), (0, za_O 0 0), (1, za_I t), (2, za_I k), (3, za_I d), (4, za_I n)]) G dX9_free_47 (by decide) rfl ?_
            refine zv_iconst (v := 0) G dX9_free_49 (by decide) ?_
            refine zv_istore (lv' := [(7, za_I 0), (6, za_I d), (5, za_O 2 w_41), (0, za_O 0 0), (1, za_I t), (2, za_I k), (3, za_I d), (4, za_I n)]) G dX9_free_50 (by decide) rfl ?_
            refine zv_iload (j := 0) G dX9_free_52 rfl ?_
            refine zv_aload (j := 2) G dX9_free_54 rfl ?_
            refine zg_X9_106 G dX9_free_56 ?_
            refine zv_icmp_ge (tgt := 96) G dX9_free_59 (by decide) (fun c_59 => ?_) (fun c_59 => ?_)
            · have k_59 := z_cle c_59 (a := (σ.1 w_41 1).toInt) (b := 0) rfl rfl
              have e9 : (d + n).toInt = d.toInt + n.toInt := z_add (by omega) (by omega)
              refine zv_iload (j := 1) G dX9_free_96 rfl ?_
              refine zv_iload (j := 7) G dX9_free_98 rfl ?_
              refine zv_iadd G dX9_free_100 ?_
              refine zv_bipush (v := 100) G dX9_free_101 (by decide) ?_
              refine zv_icmp_gt (tgt := 111) G dX9_free_103 (by decide) (fun c_103 => ?_) (fun c_103 => ?_)
              · have k_103 := z_clt c_103 (a := 100) (b := (d + n).toInt) rfl rfl
                refine zv_bipush (v := (-2)) G dX9_free_111 (by decide) ?_
                exact zv_iret G hr dX9_free_113 ⟨⟨fun q => False.elim (q ⟨t_1, t_8, t_15, by omega, by omega⟩), fun _ => by first | exact ⟨fun _ => rfl, fun q => False.elim (by omega)⟩ | exact ⟨fun q => False.elim (by omega), fun _ => rfl⟩⟩, wzE_z hz⟩
              · have k_103 := z_cnlt c_103 (a := 100) (b := (d + n).toInt) rfl rfl
                refine zv_iload (j := 1) G dX9_free_106 rfl ?_
                refine zv_goto (tgt := 113) G dX9_free_108 (by decide) ?_
                exact zv_iret G hr dX9_free_113 ⟨⟨fun q => False.elim (q ⟨t_1, t_8, t_15, by omega, by omega⟩), fun _ => by first | exact ⟨fun _ => rfl, fun q => False.elim (by omega)⟩ | exact ⟨fun q => False.elim (by omega), fun _ => rfl⟩⟩, wzE_z hz⟩
            · exact absurd (show (σ.1 w_41 1) ≤ 0 by rw [wzE_t hz (wz01i t_1) t_41]; decide) c_59
          · have k_31 := z_cnle c_31 (a := n.toInt) (b := 100) rfl rfl
            refine zv_iconst (v := (-1)) G dX9_free_34 (by decide) ?_
            exact zv_iret G hr dX9_free_35 ⟨⟨fun _ => rfl, fun q => False.elim (by first | exact f_1 q.1 | exact f_8 q.2.1 | exact f_15 q.2.2.1 | omega)⟩, wzE_z hz⟩
set_option maxHeartbeats 4000000 in
set_option maxRecDepth 100000 in
theorem zc_X5_clear_atx (l : Launch) (E : za_E)  (σ0 : za_S)  : zMv l E yX5_clear cX5_clear 1 (Option.none : Option Jvm.ClassFile.FieldType) 1 21 [za_O 15 89] σ0 (fun σ' => σ' = za_si (za_si σ0 89 0 0) 89 1 0) := by
  refine zMv_of [(0, za_O 15 89)] (by decide) rfl rfl (Nat.le_of_ble_eq_true rfl) ?_
  intro ho p e s m args below meth c G hr
  refine zv_aload_n (j := 0) G dX5_clear_0 rfl rfl ?_
  refine zv_iconst (v := 0) G dX5_clear_1 (by decide) ?_
  refine zp_X5_7 G dX5_clear_2 ?_
  refine zv_aload_n (j := 0) G dX5_clear_5 rfl rfl ?_
  refine zv_iconst (v := 0) G dX5_clear_6 (by decide) ?_
  refine zp_X5_13 G dX5_clear_7 ?_
  exact zv_vret G hr dX5_clear_10 rfl
set_option maxHeartbeats 4000000 in
set_option maxRecDepth 100000 in
theorem zc_X9_tellStretches_at0 (l : Launch) (E : za_E)  (σ0 : za_S) (h0 : wzEs σ0) : zMi l E yX9_tellStretches cX9_tellStretches 1 (Option.some Jvm.ClassFile.FieldType.int) 3 65 [za_O 0 0] σ0 (fun r σ' => r = 0 ∧ wzEs σ') := by
  refine zMi_of [(0, za_O 0 0)] (by decide) rfl rfl (Nat.le_of_ble_eq_true rfl) ?_
  intro ho p e s m args below meth c G hr
  refine zv_gen (R9 := wzEs) h0 (fun σ hz => ?_)
  refine zv_aload_n (j := 0) G dX9_tellStretches_0 rfl rfl ?_
  refine zg_X9_40 G dX9_tellStretches_1 ?_
  refine zv_aload_n (j := 0) G dX9_tellStretches_4 rfl rfl ?_
  refine zg_X9_64 G dX9_tellStretches_5 ?_
  refine zg_X9_338 G dX9_tellStretches_8 ?_
  refine zv_i2l G dX9_tellStretches_11 ?_
  refine zv_callVNv (as := [za_L ((σ.1 89 1).toInt64)]) G (by decide) rfl rfl (zc_X8_tell_atx l E ((σ.1 89 1).toInt64) σ ) zk_X8_tell zm_527 rfl ⟨(Nat.le_of_ble_eq_true rfl), (Nat.le_of_ble_eq_true rfl)⟩ ⟨Nat.zero_le _, Nat.zero_le _⟩ (Nat.le_of_ble_eq_true rfl) dX9_tellStretches_12 (fun σ h_12 => ?_)
  have hz9 := h_12
  have hz := wzEs_l hz hz9
  refine zv_aload_n (j := 0) G dX9_tellStretches_15 rfl rfl ?_
  refine zg_X9_64 G dX9_tellStretches_16 ?_
  refine zg_X9_341 G dX9_tellStretches_19 ?_
  refine zv_if_le (tgt := 70) G dX9_tellStretches_22 (by decide) (fun c_22 => ?_) (fun c_22 => ?_)
  · have k_22 := z_cle c_22 (a := (σ.1 89 0).toInt) (b := 0) rfl rfl
    refine zv_aload_n (j := 0) G dX9_tellStretches_70 rfl rfl ?_
    refine zg_X9_64 G dX9_tellStretches_71 ?_
    refine zg_X9_341 G dX9_tellStretches_74 ?_
    exact zv_iret G hr dX9_tellStretches_77 ⟨hz.2, hz⟩
  · exact absurd (show (σ.1 89 0) ≤ 0 by rw [hz.2]; decide) c_22
set_option maxHeartbeats 4000000 in
set_option maxRecDepth 100000 in
theorem zc_X9_meets_at0 (l : Launch) (E : za_E) (fd : Int32) (td : Int32) (σ0 : za_S) (h0 : wzE σ0) : zMi l E yX9_meets cX9_meets 5 (Option.some Jvm.ClassFile.FieldType.int) 4 85 [za_O 0 0, za_I fd, za_I td] σ0 (fun r σ' => wzAn ((0 ≤ fd.toInt ∧ fd.toInt ≤ 99) ∧ fd.toInt < td.toInt ∧ td.toInt ≤ 100) 0 (-1) r ∧ wzZ σ') := by
  refine zMi_of [(0, za_O 0 0), (1, za_I fd), (2, za_I td)] (by decide) rfl rfl (Nat.le_of_ble_eq_true rfl) ?_
  intro ho p e s m args below meth c G hr
  refine zv_gen (R9 := wzE) h0 (fun σ hz => ?_)
  refine zv_iload_n (j := 1) G dX9_meets_0 rfl rfl ?_
  refine zv_iload_n (j := 2) G dX9_meets_1 rfl rfl ?_
  refine zv_callSi (as := [za_I fd, za_I td]) G (zc_X9_isPeriod_atx l E fd td σ ) zk_X9_isPeriod zm_444 rfl ⟨(Nat.le_of_ble_eq_true rfl), (Nat.le_of_ble_eq_true rfl)⟩ ⟨Nat.zero_le _, Nat.zero_le _⟩ (Nat.le_of_ble_eq_true rfl) dX9_meets_2 (fun r_2 σ h_2 => ?_)
  obtain ⟨h_2, rfl⟩ := h_2
  refine zv_if_ne (tgt := 10) G dX9_meets_5 (by decide) (fun c_5 => ?_) (fun c_5 => ?_)
  · have t_2 := h_2.2.mp c_5
    refine zv_aload_n (j := 0) G dX9_meets_10 rfl rfl ?_
    refine zg_X9_64 G dX9_meets_11 ?_
    refine zv_callVNv (as := []) G (by decide) rfl rfl (zc_X5_clear_atx l E  σ ) zk_X5_clear zm_830 rfl ⟨(Nat.le_of_ble_eq_true rfl), (Nat.le_of_ble_eq_true rfl)⟩ ⟨Nat.zero_le _, Nat.zero_le _⟩ (Nat.le_of_ble_eq_true rfl) dX9_meets_14 (fun σ h_14 => ?_)
    have hz := wzEs_0 hz h_14
    refine zv_iconst (v := 0) G dX9_meets_17 (by decide) ?_
    refine zv_istore_n (lv' := [(3, za_I 0), (0, za_O 0 0), (1, za_I fd), (2, za_I td)]) G dX9_meets_18 rfl (by decide) rfl ?_
    refine zv_iload_n (j := 0) G dX9_meets_19 rfl rfl ?_
    refine zv_aload_n (j := 1) G dX9_meets_20 rfl rfl ?_
    refine zg_X9_10 G dX9_meets_21 ?_
    refine zg_X9_102 G dX9_meets_24 ?_
    refine zg_X9_106 G dX9_meets_27 ?_
    refine zv_icmp_ge (tgt := 72) G dX9_meets_30 (by decide) (fun c_30 => ?_) (fun c_30 => ?_)
    · have k_30 := z_cle c_30 (a := (σ.1 2 1).toInt) (b := 0) rfl rfl
      refine zv_aload_n (j := 1) G dX9_meets_72 rfl rfl ?_
      refine zv_callVi (as := []) G (by decide) rfl rfl (zc_X9_tellStretches_at0 l E  σ hz) zk_X9_tellStretches zm_842 rfl ⟨(Nat.le_of_ble_eq_true rfl), (Nat.le_of_ble_eq_true rfl)⟩ ⟨Nat.zero_le _, Nat.zero_le _⟩ (Nat.le_of_ble_eq_true rfl) dX9_meets_73 (fun r_73 σ h_73 => ?_)
      have z73 := h_73
      exact zv_iret G hr dX9_meets_76 ⟨wzAn_e t_2 z73.1, wzE_z z73.2.1⟩
    · exact absurd (show (σ.1 2 1) ≤ 0 by rw [hz.1.1.1]; decide) c_30
  · have f_2 := fun q9 => (h_2.2.mpr q9) c_5
    refine zv_iconst (v := (-1)) G dX9_meets_8 (by decide) ?_
    exact zv_iret G hr dX9_meets_9 ⟨(wzAn_n (fun q => by first | exact f_2 (by omega))), wzE_z hz⟩
set_option maxHeartbeats 4000000 in
set_option maxRecDepth 100000 in
theorem zc_X1_addRows_at0 (l : Launch) (E : za_E) (w : Nat) (sw : Nat) (k : Int32) (am : Int32) (σ0 : za_S) (hs : σ0.1 sw 1 = 0) : zMv l E yX1_addRows cX1_addRows 5 (Option.none : Option Jvm.ClassFile.FieldType) 1 21 [za_O 13 w, za_O 2 sw, za_I k, za_I am] σ0 (fun σ' => σ' = σ0) := by
  refine zMv_of [(0, za_O 13 w), (1, za_O 2 sw), (2, za_I k), (3, za_I am)] (by decide) rfl rfl (Nat.le_of_ble_eq_true rfl) ?_
  intro ho p e s m args below meth c G hr
  have h_w : za_kd w = 13 := za_okO (by decide) (List.forall_mem_cons.mp ho).1
  have h_sw : za_kd sw = 2 := za_okO (by decide) (List.forall_mem_cons.mp (List.forall_mem_cons.mp ho).2).1
  refine zv_iconst (v := 0) G dX1_addRows_0 (by decide) ?_
  refine zv_istore (lv' := [(4, za_I 0), (0, za_O 13 w), (1, za_O 2 sw), (2, za_I k), (3, za_I am)]) G dX1_addRows_1 (by decide) rfl ?_
  refine zv_iload (j := 0) G dX1_addRows_3 rfl ?_
  refine zv_aload_n (j := 2) G dX1_addRows_5 rfl rfl ?_
  refine zg_X1_25 G dX1_addRows_6 ?_
  refine zv_icmp_ge (tgt := 48) G dX1_addRows_9 (by decide) (fun c_9 => ?_) (fun c_9 => ?_)
  · have k_9 := z_cle c_9 (a := (σ0.1 sw 1).toInt) (b := 0) rfl rfl
    exact zv_vret G hr dX1_addRows_48 rfl
  · exact absurd (show (σ0.1 sw 1) ≤ 0 by rw [hs]; decide) c_9
set_option maxHeartbeats 4000000 in
set_option maxRecDepth 100000 in
theorem zc_X9_markBoth_at0 (l : Launch) (E : za_E) (k : Int32) (σ0 : za_S) (h0 : wzEs σ0) : zMv l E yX9_markBoth cX9_markBoth 2 (Option.none : Option Jvm.ClassFile.FieldType) 2 45 [za_O 0 0, za_I k] σ0 (fun σ' => wzEs σ' ∧ wzLn σ') := by
  refine zMv_of [(0, za_O 0 0), (1, za_I k)] (by decide) rfl rfl (Nat.le_of_ble_eq_true rfl) ?_
  intro ho p e s m args below meth c G hr
  refine zv_gen (R9 := wzEs) h0 (fun σ hz => ?_)
  refine zv_aload_n (j := 0) G dX9_markBoth_0 rfl rfl ?_
  refine zg_X9_54 G dX9_markBoth_1 ?_
  refine zv_callVNv (as := []) G (by decide) rfl rfl (zc_X1_clear_atx l E 85 σ ) zk_X1_clear zm_577 rfl ⟨(Nat.le_of_ble_eq_true rfl), (Nat.le_of_ble_eq_true rfl)⟩ ⟨Nat.zero_le _, Nat.zero_le _⟩ (Nat.le_of_ble_eq_true rfl) dX9_markBoth_4 (fun σ h_4 => ?_)
  have l4 := h_4.2
  have hz := wzEs_w hz h_4.1
  refine zv_aload_n (j := 0) G dX9_markBoth_7 rfl rfl ?_
  refine zg_X9_54 G dX9_markBoth_8 ?_
  refine zv_aload_n (j := 0) G dX9_markBoth_11 rfl rfl ?_
  refine zg_X9_10 G dX9_markBoth_12 ?_
  refine zg_X9_102 G dX9_markBoth_15 ?_
  refine zv_iload_n (j := 1) G dX9_markBoth_18 rfl rfl ?_
  refine zv_iconst (v := 1) G dX9_markBoth_19 (by decide) ?_
  refine zv_callVNv (as := [za_O 2 2, za_I k, za_I 1]) G (by decide) rfl rfl (zc_X1_addRows_at0 l E 85 2 k (1 : Int32) σ hz.1.1.1) zk_X1_addRows zm_581 rfl ⟨(Nat.le_of_ble_eq_true rfl), (Nat.le_of_ble_eq_true rfl)⟩ ⟨Nat.zero_le _, Nat.zero_le _⟩ (Nat.le_of_ble_eq_true rfl) dX9_markBoth_20 (fun σ h_20 => ?_)
  subst h_20
  refine zv_aload_n (j := 0) G dX9_markBoth_23 rfl rfl ?_
  refine zg_X9_54 G dX9_markBoth_24 ?_
  refine zv_aload_n (j := 0) G dX9_markBoth_27 rfl rfl ?_
  refine zg_X9_10 G dX9_markBoth_28 ?_
  refine zg_X9_179 G dX9_markBoth_31 ?_
  refine zv_iload_n (j := 1) G dX9_markBoth_34 rfl rfl ?_
  refine zv_iconst (v := 2) G dX9_markBoth_35 (by decide) ?_
  refine zv_callVNv (as := [za_O 2 4, za_I k, za_I 2]) G (by decide) rfl rfl (zc_X1_addRows_at0 l E 85 4 k (2 : Int32) σ hz.1.1.2.1) zk_X1_addRows zm_581 rfl ⟨(Nat.le_of_ble_eq_true rfl), (Nat.le_of_ble_eq_true rfl)⟩ ⟨Nat.zero_le _, Nat.zero_le _⟩ (Nat.le_of_ble_eq_true rfl) dX9_markBoth_36 (fun σ h_36 => ?_)
  subst h_36
  exact zv_vret G hr dX9_markBoth_39 ⟨hz, l4⟩
set_option maxHeartbeats 4000000 in
set_option maxRecDepth 100000 in
theorem zc_X9_lacks_at0 (l : Launch) (E : za_E) (t : Int32) (σ0 : za_S) (h0 : wzE σ0) : zMi l E yX9_lacks cX9_lacks 4 (Option.some Jvm.ClassFile.FieldType.int) 4 85 [za_O 0 0, za_I t] σ0 (fun r σ' => wzAn ((0 ≤ t.toInt ∧ t.toInt ≤ 1)) 0 (-1) r ∧ wzZ σ') := by
  refine zMi_of [(0, za_O 0 0), (1, za_I t)] (by decide) rfl rfl (Nat.le_of_ble_eq_true rfl) ?_
  intro ho p e s m args below meth c G hr
  refine zv_gen (R9 := wzE) h0 (fun σ hz => ?_)
  refine zv_iload_n (j := 1) G dX9_lacks_0 rfl rfl ?_
  refine zv_callSi (as := [za_I t]) G (zc_X9_isTable_aty l E t σ ) zk_X9_isTable zm_438 rfl ⟨(Nat.le_of_ble_eq_true rfl), (Nat.le_of_ble_eq_true rfl)⟩ ⟨Nat.zero_le _, Nat.zero_le _⟩ (Nat.le_of_ble_eq_true rfl) dX9_lacks_1 (fun r_1 σ h_1 => ?_)
  obtain ⟨h_1, rfl⟩ := h_1
  refine zv_if_ne (tgt := 9) G dX9_lacks_4 (by decide) (fun c_4 => ?_) (fun c_4 => ?_)
  · have t_1 := h_1.2.mp c_4
    refine zv_aload_n (j := 0) G dX9_lacks_9 rfl rfl ?_
    refine zg_X9_64 G dX9_lacks_10 ?_
    refine zv_callVNv (as := []) G (by decide) rfl rfl (zc_X5_clear_atx l E  σ ) zk_X5_clear zm_830 rfl ⟨(Nat.le_of_ble_eq_true rfl), (Nat.le_of_ble_eq_true rfl)⟩ ⟨Nat.zero_le _, Nat.zero_le _⟩ (Nat.le_of_ble_eq_true rfl) dX9_lacks_13 (fun σ h_13 => ?_)
    have hz := wzEs_0 hz h_13
    refine zv_iconst (v := 0) G dX9_lacks_16 (by decide) ?_
    have J_18 : ∀ (n : Nat) (y2_18 : Int32) (σ : za_S) (hz : wzEs σ) (i2_18 : 0 ≤ y2_18.toInt) (u2_18 : y2_18.toInt ≤ 10) (hn_18 : (2147483648 - y2_18.toInt).toNat < n), zV p l e (zRm 4 85) s m args below meth c E (za_A E) 4 0 0 (MQ below (va_Qi (fun r σ' => wzAn ((0 ≤ t.toInt ∧ t.toInt ≤ 1)) 0 (-1) r ∧ wzZ σ') (zB E) (za_A E)) args s 0 0 (za_A E)) 18 [(0, za_O 0 0), (1, za_I t), (2, za_I y2_18)] [] σ := by
      intro n
      induction n with
      | zero => intro y2_18 σ hz i2_18 u2_18 hn; exact absurd hn (Nat.not_lt_zero _)
      | succ n ih_18 =>
        intro y2_18 σ hz i2_18 u2_18 hn_18
        refine zv_iload_n (j := 2) G dX9_lacks_18 rfl rfl ?_
        refine zv_bipush (v := 10) G dX9_lacks_19 (by decide) ?_
        refine zv_icmp_ge (tgt := 76) G dX9_lacks_21 (by decide) (fun c_21 => ?_) (fun c_21 => ?_)
        · have k_21 := z_cle c_21 (a := 10) (b := y2_18.toInt) rfl rfl
          refine zv_aload_n (j := 0) G dX9_lacks_76 rfl rfl ?_
          refine zv_callVi (as := []) G (by decide) rfl rfl (zc_X9_tellStretches_at0 l E  σ hz) zk_X9_tellStretches zm_842 rfl ⟨(Nat.le_of_ble_eq_true rfl), (Nat.le_of_ble_eq_true rfl)⟩ ⟨Nat.zero_le _, Nat.zero_le _⟩ (Nat.le_of_ble_eq_true rfl) dX9_lacks_77 (fun r_77 σ h_77 => ?_)
          have z77 := h_77
          exact zv_iret G hr dX9_lacks_80 ⟨wzAn_e t_1 z77.1, wzE_z z77.2.1⟩
        · have b_21 : 0 ≤ y2_18.toInt ∧ y2_18.toInt < 10 := ⟨i2_18, z_ltk c_21 rfl⟩
          have k_21 := z_cnle c_21 (a := 10) (b := y2_18.toInt) rfl rfl
          refine zv_aload_n (j := 0) G dX9_lacks_24 rfl rfl ?_
          refine zv_iload_n (j := 2) G dX9_lacks_25 rfl rfl ?_
          refine zv_callVv (as := [za_I y2_18]) G (by decide) rfl rfl (zc_X9_markBoth_at0 l E y2_18 σ hz) zk_X9_markBoth zm_850 rfl ⟨(Nat.le_of_ble_eq_true rfl), (Nat.le_of_ble_eq_true rfl)⟩ ⟨Nat.zero_le _, Nat.zero_le _⟩ (Nat.le_of_ble_eq_true rfl) dX9_lacks_26 (fun σ h_26 => ?_)
          have hz := h_26
          refine zv_iconst (v := 0) G dX9_lacks_29 (by decide) ?_
          have J_31 : ∀ (n : Nat) (y3_31 : Int32) (σ : za_S) (hz : wzEs σ ∧ wzLn σ) (i3_31 : 0 ≤ y3_31.toInt) (u3_31 : y3_31.toInt ≤ 100) (hn_31 : (2147483648 - y3_31.toInt).toNat < n), zV p l e (zRm 4 85) s m args below meth c E (za_A E) 4 0 0 (MQ below (va_Qi (fun r σ' => wzAn ((0 ≤ t.toInt ∧ t.toInt ≤ 1)) 0 (-1) r ∧ wzZ σ') (zB E) (za_A E)) args s 0 0 (za_A E)) 31 [(0, za_O 0 0), (1, za_I t), (2, za_I y2_18), (3, za_I y3_31)] [] σ := by
            intro n
            induction n with
            | zero => intro y3_31 σ hz i3_31 u3_31 hn; exact absurd hn (Nat.not_lt_zero _)
            | succ n ih_31 =>
              intro y3_31 σ hz i3_31 u3_31 hn_31
              refine zv_iload_n (j := 3) G dX9_lacks_31 rfl rfl ?_
              refine zv_bipush (v := 100) G dX9_lacks_32 (by decide) ?_
              refine zv_icmp_ge (tgt := 70) G dX9_lacks_34 (by decide) (fun c_34 => ?_) (fun c_34 => ?_)
              · have k_34 := z_cle c_34 (a := 100) (b := y3_31.toInt) rfl rfl
                obtain ⟨x_70, e_70⟩ : ∃ y : Int32, y = y2_18 + 1 := ⟨_, rfl⟩
                refine zv_iinc (j := 2) (v := x_70) (lv' := [(2, za_I x_70), (0, za_O 0 0), (1, za_I t), (3, za_I y3_31)]) G dX9_lacks_70 rfl (by rw [e_70]; rfl) (by decide) rfl ?_
                first | have q_70 := z_inc9 (by omega) e_70 | skip
                refine zv_goto (tgt := 18) G dX9_lacks_73 (by decide) ?_
                refine zv_sub [1, 2, 0] (lv' := [(0, za_O 0 0), (1, za_I t), (2, za_I x_70)]) rfl ?_
                exact ih_18 x_70 σ hz.1 (by have := z_inc c_21 e_70; omega) (by have := z_inc9 (by omega) e_70; omega) (z_meas c_21 e_70 hn_18)
              · have b_34 : 0 ≤ y3_31.toInt ∧ y3_31.toInt < 100 := ⟨i3_31, z_ltk c_34 rfl⟩
                have k_34 := z_cnle c_34 (a := 100) (b := y3_31.toInt) rfl rfl
                refine zv_aload_n (j := 0) G dX9_lacks_37 rfl rfl ?_
                refine zg_X9_54 G dX9_lacks_38 ?_
                refine zv_iload_n (j := 3) G dX9_lacks_41 rfl rfl ?_
                refine zv_callVNi (as := [za_I y3_31]) G (by decide) rfl rfl (zc_X1_amount_atx l E 85 y3_31 σ (by omega)) zk_X1_amount zm_606 rfl ⟨(Nat.le_of_ble_eq_true rfl), (Nat.le_of_ble_eq_true rfl)⟩ ⟨Nat.zero_le _, Nat.zero_le _⟩ (Nat.le_of_ble_eq_true rfl) dX9_lacks_42 (fun r_42 σ h_42 => ?_)
                obtain ⟨h_42, rfl⟩ := h_42
                have a42 : r_42 = 0 := h_42.trans (hz.2 _ (by omega))
                refine zv_iconst (v := 1) G dX9_lacks_45 (by decide) ?_
                refine zv_iload_n (j := 1) G dX9_lacks_46 rfl rfl ?_
                refine zv_iadd G dX9_lacks_47 ?_
                refine zv_icmp_ne (tgt := 64) G dX9_lacks_48 (by decide) (fun c_48 => ?_) (fun c_48 => ?_)
                · have k_48 := z_cne c_48 (a := r_42.toInt) (b := (1 + t).toInt) rfl rfl
                  obtain ⟨x_64, e_64⟩ : ∃ y : Int32, y = y3_31 + 1 := ⟨_, rfl⟩
                  refine zv_iinc (j := 3) (v := x_64) (lv' := [(3, za_I x_64), (0, za_O 0 0), (1, za_I t), (2, za_I y2_18)]) G dX9_lacks_64 rfl (by rw [e_64]; rfl) (by decide) rfl ?_
                  first | have q_64 := z_inc9 (by omega) e_64 | skip
                  refine zv_goto (tgt := 31) G dX9_lacks_67 (by decide) ?_
                  refine zv_sub [1, 2, 3, 0] (lv' := [(0, za_O 0 0), (1, za_I t), (2, za_I y2_18), (3, za_I x_64)]) rfl ?_
                  exact ih_31 x_64 σ hz (by have := z_inc c_34 e_64; omega) (by have := z_inc9 (by omega) e_64; omega) (z_meas c_34 e_64 hn_31)
                · exact absurd (a42.symm.trans c_48) (wz_1t t_1)
          refine zv_istore_n (lv' := [(3, za_I 0), (0, za_O 0 0), (1, za_I t), (2, za_I y2_18)]) G dX9_lacks_30 rfl (by decide) rfl ?_
          refine zv_sub [1, 2, 3, 0] (lv' := [(0, za_O 0 0), (1, za_I t), (2, za_I y2_18), (3, za_I 0)]) rfl ?_
          exact J_31 _ (0 : Int32) σ hz (by decide) (by decide) (Nat.lt_succ_self _)
    refine zv_istore_n (lv' := [(2, za_I 0), (0, za_O 0 0), (1, za_I t)]) G dX9_lacks_17 rfl (by decide) rfl ?_
    refine zv_sub [1, 2, 0] (lv' := [(0, za_O 0 0), (1, za_I t), (2, za_I 0)]) rfl ?_
    exact J_18 _ (0 : Int32) σ hz (by decide) (by decide) (Nat.lt_succ_self _)
  · have f_1 := fun q9 => (h_1.2.mpr q9) c_4
    refine zv_iconst (v := (-1)) G dX9_lacks_7 (by decide) ?_
    exact zv_iret G hr dX9_lacks_8 ⟨(wzAn_n (fun q => by first | exact f_1 (by omega))), wzE_z hz⟩
set_option maxHeartbeats 4000000 in
set_option maxRecDepth 100000 in
theorem zc_X9_either_at0 (l : Launch) (E : za_E)  (σ0 : za_S) (h0 : wzE σ0) : zMi l E yX9_either cX9_either 4 (Option.some Jvm.ClassFile.FieldType.int) 4 89 [za_O 0 0] σ0 (fun r σ' => r = 0 ∧ wzZ σ') := by
  refine zMi_of [(0, za_O 0 0)] (by decide) rfl rfl (Nat.le_of_ble_eq_true rfl) ?_
  intro ho p e s m args below meth c G hr
  refine zv_gen (R9 := wzE) h0 (fun σ hz => ?_)
  refine zv_iconst (v := 0) G dX9_either_0 (by decide) ?_
  refine zv_istore_n (lv' := [(1, za_I 0), (0, za_O 0 0)]) G dX9_either_1 rfl (by decide) rfl ?_
  refine zv_aload_n (j := 1) G dX9_either_2 rfl rfl ?_
  refine zg_X9_64 G dX9_either_3 ?_
  refine zv_callVNv (as := []) G (by decide) rfl rfl (zc_X5_clear_atx l E  σ ) zk_X5_clear zm_830 rfl ⟨(Nat.le_of_ble_eq_true rfl), (Nat.le_of_ble_eq_true rfl)⟩ ⟨Nat.zero_le _, Nat.zero_le _⟩ (Nat.le_of_ble_eq_true rfl) dX9_either_6 (fun σ h_6 => ?_)
  have hz := wzEs_0 hz h_6
  refine zv_iconst (v := 0) G dX9_either_9 (by decide) ?_
  have J_11 : ∀ (n : Nat) (y2_11 : Int32) (σ : za_S) (hz : wzEs σ) (i2_11 : 0 ≤ y2_11.toInt) (u2_11 : y2_11.toInt ≤ 10) (hn_11 : (2147483648 - y2_11.toInt).toNat < n), zV p l e (zRm 4 89) s m args below meth c E (za_A E) 4 0 0 (MQ below (va_Qi (fun r σ' => r = 0 ∧ wzZ σ') (zB E) (za_A E)) args s 0 0 (za_A E)) 11 [(0, za_O 0 0), (1, za_I 0), (2, za_I y2_11)] [] σ := by
    intro n
    induction n with
    | zero => intro y2_11 σ hz i2_11 u2_11 hn; exact absurd hn (Nat.not_lt_zero _)
    | succ n ih_11 =>
      intro y2_11 σ hz i2_11 u2_11 hn_11
      refine zv_iload_n (j := 2) G dX9_either_11 rfl rfl ?_
      refine zv_bipush (v := 10) G dX9_either_12 (by decide) ?_
      refine zv_icmp_ge (tgt := 81) G dX9_either_14 (by decide) (fun c_14 => ?_) (fun c_14 => ?_)
      · have k_14 := z_cle c_14 (a := 10) (b := y2_11.toInt) rfl rfl
        refine zv_aload_n (j := 0) G dX9_either_81 rfl rfl ?_
        refine zg_X9_40 G dX9_either_82 ?_
        refine zv_aload_n (j := 0) G dX9_either_85 rfl rfl ?_
        refine zg_X9_64 G dX9_either_86 ?_
        refine zg_X9_338 G dX9_either_89 ?_
        refine zv_i2l G dX9_either_92 ?_
        refine zv_iload_n (j := 1) G dX9_either_93 rfl rfl ?_
        refine zv_i2l G dX9_either_94 ?_
        refine zv_callVNv (as := [za_L ((σ.1 89 1).toInt64), za_L ((0 : Int32).toInt64)]) G (by decide) rfl rfl (zc_X8_tell__atx l E ((σ.1 89 1).toInt64) ((0 : Int32).toInt64) σ ) zk_X8_tell_ zm_608 rfl ⟨(Nat.le_of_ble_eq_true rfl), (Nat.le_of_ble_eq_true rfl)⟩ ⟨Nat.zero_le _, Nat.zero_le _⟩ (Nat.le_of_ble_eq_true rfl) dX9_either_95 (fun σ h_95 => ?_)
        have hz := wzEs_l hz h_95
        refine zv_aload_n (j := 0) G dX9_either_98 rfl rfl ?_
        refine zg_X9_64 G dX9_either_99 ?_
        refine zg_X9_341 G dX9_either_102 ?_
        exact zv_iret G hr dX9_either_105 ⟨hz.2, wzE_z hz.1⟩
      · have b_14 : 0 ≤ y2_11.toInt ∧ y2_11.toInt < 10 := ⟨i2_11, z_ltk c_14 rfl⟩
        have k_14 := z_cnle c_14 (a := 10) (b := y2_11.toInt) rfl rfl
        refine zv_aload_n (j := 0) G dX9_either_17 rfl rfl ?_
        refine zv_iload_n (j := 2) G dX9_either_18 rfl rfl ?_
        refine zv_callVv (as := [za_I y2_11]) G (by decide) rfl rfl (zc_X9_markBoth_at0 l E y2_11 σ hz) zk_X9_markBoth zm_850 rfl ⟨(Nat.le_of_ble_eq_true rfl), (Nat.le_of_ble_eq_true rfl)⟩ ⟨Nat.zero_le _, Nat.zero_le _⟩ (Nat.le_of_ble_eq_true rfl) dX9_either_19 (fun σ h_19 => ?_)
        have hz := h_19
        refine zv_iconst (v := 0) G dX9_either_22 (by decide) ?_
        have J_24 : ∀ (n : Nat) (y3_24 : Int32) (σ : za_S) (hz : wzEs σ ∧ wzLn σ) (i3_24 : 0 ≤ y3_24.toInt) (u3_24 : y3_24.toInt ≤ 100) (hn_24 : (2147483648 - y3_24.toInt).toNat < n), zV p l e (zRm 4 89) s m args below meth c E (za_A E) 4 0 0 (MQ below (va_Qi (fun r σ' => r = 0 ∧ wzZ σ') (zB E) (za_A E)) args s 0 0 (za_A E)) 24 [(0, za_O 0 0), (1, za_I 0), (2, za_I y2_11), (3, za_I y3_24)] [] σ := by
          intro n
          induction n with
          | zero => intro y3_24 σ hz i3_24 u3_24 hn; exact absurd hn (Nat.not_lt_zero _)
          | succ n ih_24 =>
            intro y3_24 σ hz i3_24 u3_24 hn_24
            refine zv_iload_n (j := 3) G dX9_either_24 rfl rfl ?_
            refine zv_bipush (v := 100) G dX9_either_25 (by decide) ?_
            refine zv_icmp_ge (tgt := 75) G dX9_either_27 (by decide) (fun c_27 => ?_) (fun c_27 => ?_)
            · have k_27 := z_cle c_27 (a := 100) (b := y3_24.toInt) rfl rfl
              obtain ⟨x_75, e_75⟩ : ∃ y : Int32, y = y2_11 + 1 := ⟨_, rfl⟩
              refine zv_iinc (j := 2) (v := x_75) (lv' := [(2, za_I x_75), (0, za_O 0 0), (1, za_I 0), (3, za_I y3_24)]) G dX9_either_75 rfl (by rw [e_75]; rfl) (by decide) rfl ?_
              first | have q_75 := z_inc9 (by omega) e_75 | skip
              refine zv_goto (tgt := 11) G dX9_either_78 (by decide) ?_
              refine zv_sub [1, 2, 0] (lv' := [(0, za_O 0 0), (1, za_I 0), (2, za_I x_75)]) rfl ?_
              exact ih_11 x_75 σ hz.1 (by have := z_inc c_14 e_75; omega) (by have := z_inc9 (by omega) e_75; omega) (z_meas c_14 e_75 hn_11)
            · have b_27 : 0 ≤ y3_24.toInt ∧ y3_24.toInt < 100 := ⟨i3_24, z_ltk c_27 rfl⟩
              have k_27 := z_cnle c_27 (a := 100) (b := y3_24.toInt) rfl rfl
              refine zv_aload_n (j := 0) G dX9_either_30 rfl rfl ?_
              refine zg_X9_54 G dX9_either_31 ?_
              refine zv_iload_n (j := 3) G dX9_either_34 rfl rfl ?_
              refine zv_callVNi (as := [za_I y3_24]) G (by decide) rfl rfl (zc_X1_amount_atx l E 85 y3_24 σ (by omega)) zk_X1_amount zm_606 rfl ⟨(Nat.le_of_ble_eq_true rfl), (Nat.le_of_ble_eq_true rfl)⟩ ⟨Nat.zero_le _, Nat.zero_le _⟩ (Nat.le_of_ble_eq_true rfl) dX9_either_35 (fun r_35 σ h_35 => ?_)
              obtain ⟨h_35, rfl⟩ := h_35
              have a35 : r_35 = 0 := h_35.trans (hz.2 _ (by omega))
              refine zv_if_le (tgt := 54) G dX9_either_38 (by decide) (fun c_38 => ?_) (fun c_38 => ?_)
              · have k_38 := z_cle c_38 (a := r_35.toInt) (b := 0) rfl rfl
                refine zv_aload_n (j := 0) G dX9_either_54 rfl rfl ?_
                refine zg_X9_54 G dX9_either_55 ?_
                refine zv_iload_n (j := 3) G dX9_either_58 rfl rfl ?_
                refine zv_callVNi (as := [za_I y3_24]) G (by decide) rfl rfl (zc_X1_amount_atx l E 85 y3_24 σ (by omega)) zk_X1_amount zm_606 rfl ⟨(Nat.le_of_ble_eq_true rfl), (Nat.le_of_ble_eq_true rfl)⟩ ⟨Nat.zero_le _, Nat.zero_le _⟩ (Nat.le_of_ble_eq_true rfl) dX9_either_59 (fun r_59 σ h_59 => ?_)
                obtain ⟨h_59, rfl⟩ := h_59
                have a59 : r_59 = 0 := h_59.trans (hz.2 _ (by omega))
                refine zv_iconst (v := 3) G dX9_either_62 (by decide) ?_
                refine zv_icmp_ne (tgt := 69) G dX9_either_63 (by decide) (fun c_63 => ?_) (fun c_63 => ?_)
                · have k_63 := z_cne c_63 (a := r_59.toInt) (b := 3) rfl rfl
                  obtain ⟨x_69, e_69⟩ : ∃ y : Int32, y = y3_24 + 1 := ⟨_, rfl⟩
                  refine zv_iinc (j := 3) (v := x_69) (lv' := [(3, za_I x_69), (0, za_O 0 0), (1, za_I 0), (2, za_I y2_11)]) G dX9_either_69 rfl (by rw [e_69]; rfl) (by decide) rfl ?_
                  first | have q_69 := z_inc9 (by omega) e_69 | skip
                  refine zv_goto (tgt := 24) G dX9_either_72 (by decide) ?_
                  refine zv_sub [1, 2, 3, 0] (lv' := [(0, za_O 0 0), (1, za_I 0), (2, za_I y2_11), (3, za_I x_69)]) rfl ?_
                  exact ih_24 x_69 σ hz (by have := z_inc c_27 e_69; omega) (by have := z_inc9 (by omega) e_69; omega) (z_meas c_27 e_69 hn_24)
                · exact absurd (a59.symm.trans c_63) (by decide)
              · exact absurd (show r_35 ≤ 0 by rw [a35]; decide) c_38
        refine zv_istore_n (lv' := [(3, za_I 0), (0, za_O 0 0), (1, za_I 0), (2, za_I y2_11)]) G dX9_either_23 rfl (by decide) rfl ?_
        refine zv_sub [1, 2, 3, 0] (lv' := [(0, za_O 0 0), (1, za_I 0), (2, za_I y2_11), (3, za_I 0)]) rfl ?_
        exact J_24 _ (0 : Int32) σ hz (by decide) (by decide) (Nat.lt_succ_self _)
  refine zv_istore_n (lv' := [(2, za_I 0), (1, za_I 0), (0, za_O 0 0)]) G dX9_either_10 rfl (by decide) rfl ?_
  refine zv_sub [2, 1, 0] (lv' := [(0, za_O 0 0), (1, za_I 0), (2, za_I 0)]) rfl ?_
  exact J_11 _ (0 : Int32) σ hz (by decide) (by decide) (Nat.lt_succ_self _)
set_option maxHeartbeats 4000000 in
set_option maxRecDepth 100000 in
theorem zc_X9_sums_at0 (l : Launch) (E : za_E) (t : Int32) (fd : Int32) (td : Int32) (σ0 : za_S) (h0 : wzE σ0) : zMi l E yX9_sums cX9_sums 8 (Option.some Jvm.ClassFile.FieldType.int) 4 89 [za_O 0 0, za_I t, za_I fd, za_I td] σ0 (fun r σ' => wzAn ((0 ≤ t.toInt ∧ t.toInt ≤ 1) ∧ (0 ≤ fd.toInt ∧ fd.toInt ≤ 99) ∧ fd.toInt < td.toInt ∧ td.toInt ≤ 100) 0 (-1) r ∧ wzZ σ') := by
  refine zMi_of [(0, za_O 0 0), (1, za_I t), (2, za_I fd), (3, za_I td)] (by decide) rfl rfl (Nat.le_of_ble_eq_true rfl) ?_
  intro ho p e s m args below meth c G hr
  refine zv_gen (R9 := wzE) h0 (fun σ hz => ?_)
  refine zv_iload_n (j := 1) G dX9_sums_0 rfl rfl ?_
  refine zv_callSi (as := [za_I t]) G (zc_X9_isTable_aty l E t σ ) zk_X9_isTable zm_438 rfl ⟨(Nat.le_of_ble_eq_true rfl), (Nat.le_of_ble_eq_true rfl)⟩ ⟨Nat.zero_le _, Nat.zero_le _⟩ (Nat.le_of_ble_eq_true rfl) dX9_sums_1 (fun r_1 σ h_1 => ?_)
  obtain ⟨h_1, rfl⟩ := h_1
  refine zv_if_eq (tgt := 15) G dX9_sums_4 (by decide) (fun c_4 => ?_) (fun c_4 => ?_)
  · have f_1 := fun q9 => (h_1.2.mpr q9) c_4
    refine zv_iconst (v := (-1)) G dX9_sums_15 (by decide) ?_
    exact zv_iret G hr dX9_sums_16 ⟨(wzAn_n (fun q => by first | exact f_1 (by omega) | exact f_9 (by omega))), wzE_z hz⟩
  · have t_1 := h_1.2.mp c_4
    refine zv_iload_n (j := 2) G dX9_sums_7 rfl rfl ?_
    refine zv_iload_n (j := 3) G dX9_sums_8 rfl rfl ?_
    refine zv_callSi (as := [za_I fd, za_I td]) G (zc_X9_isPeriod_atx l E fd td σ ) zk_X9_isPeriod zm_444 rfl ⟨(Nat.le_of_ble_eq_true rfl), (Nat.le_of_ble_eq_true rfl)⟩ ⟨Nat.zero_le _, Nat.zero_le _⟩ (Nat.le_of_ble_eq_true rfl) dX9_sums_9 (fun r_9 σ h_9 => ?_)
    obtain ⟨h_9, rfl⟩ := h_9
    refine zv_if_ne (tgt := 17) G dX9_sums_12 (by decide) (fun c_12 => ?_) (fun c_12 => ?_)
    · have t_9 := h_9.2.mp c_12
      refine zv_aload_n (j := 0) G dX9_sums_17 rfl rfl ?_
      refine zg_X9_10 G dX9_sums_18 ?_
      refine zv_iload_n (j := 1) G dX9_sums_21 rfl rfl ?_
      refine zv_callVNr (as := [za_I t]) G (by decide) rfl rfl (zc_X4_table_atx l E 1 t σ (wz01i t_1)) zk_X4_table zm_453 rfl ⟨(Nat.le_of_ble_eq_true rfl), (Nat.le_of_ble_eq_true rfl)⟩ ⟨Nat.zero_le _, Nat.zero_le _⟩ (Nat.le_of_ble_eq_true rfl) dX9_sums_22 (fun r_22 σ h_22 => ?_)
      obtain ⟨w_22, rfl, h_w_22, t_22, rfl⟩ := h_22
      refine zv_astore (lv' := [(4, za_O 2 w_22), (0, za_O 0 0), (1, za_I t), (2, za_I fd), (3, za_I td)]) G dX9_sums_25 (by decide) rfl ?_
      refine zv_aload_n (j := 1) G dX9_sums_27 rfl rfl ?_
      refine zg_X9_54 G dX9_sums_28 ?_
      refine zv_callVNv (as := []) G (by decide) rfl rfl (zc_X1_clear_atx l E 85 σ ) zk_X1_clear zm_577 rfl ⟨(Nat.le_of_ble_eq_true rfl), (Nat.le_of_ble_eq_true rfl)⟩ ⟨Nat.zero_le _, Nat.zero_le _⟩ (Nat.le_of_ble_eq_true rfl) dX9_sums_31 (fun σ h_31 => ?_)
      have hz : wzE σ ∧ wzLn σ := ⟨wzE_w hz h_31.1, h_31.2⟩
      refine zv_iconst (v := 0) G dX9_sums_34 (by decide) ?_
      refine zv_istore (lv' := [(5, za_I 0), (4, za_O 2 w_22), (0, za_O 0 0), (1, za_I t), (2, za_I fd), (3, za_I td)]) G dX9_sums_35 (by decide) rfl ?_
      refine zv_iload (j := 0) G dX9_sums_37 rfl ?_
      refine zv_aload (j := 1) G dX9_sums_39 rfl ?_
      refine zg_X9_106 G dX9_sums_41 ?_
      refine zv_icmp_ge (tgt := 84) G dX9_sums_44 (by decide) (fun c_44 => ?_) (fun c_44 => ?_)
      · have k_44 := z_cle c_44 (a := (σ.1 w_22 1).toInt) (b := 0) rfl rfl
        refine zv_iconst (v := 0) G dX9_sums_84 (by decide) ?_
        refine zv_istore (lv' := [(5, za_I 0), (4, za_O 2 w_22), (0, za_O 0 0), (1, za_I t), (2, za_I fd), (3, za_I td)]) G dX9_sums_85 (by decide) rfl ?_
        refine zv_iload_n (j := 4) G dX9_sums_87 rfl rfl ?_
        refine zv_istore (lv' := [(6, za_I fd), (5, za_I 0), (4, za_O 2 w_22), (0, za_O 0 0), (1, za_I t), (2, za_I fd), (3, za_I td)]) G dX9_sums_88 (by decide) rfl ?_
        refine zv_iload_n (j := 5) G dX9_sums_90 rfl rfl ?_
        have J_93 : ∀ (n : Nat) (y5_93 : Int32) (y7_93 : Int32) (σ : za_S) (hz : wzE σ ∧ wzLn σ) (g_93 : fd.toInt ≤ y7_93.toInt) (s_93 : y5_93 = 0) (i7_93 : 0 ≤ y7_93.toInt) (hn_93 : (2147483648 - y7_93.toInt).toNat < n), zV p l e (zRm 4 89) s m args below meth c E (za_A E) 8 0 0 (MQ below (va_Qi (fun r σ' => wzAn ((0 ≤ t.toInt ∧ t.toInt ≤ 1) ∧ (0 ≤ fd.toInt ∧ fd.toInt ≤ 99) ∧ fd.toInt < td.toInt ∧ td.toInt ≤ 100) 0 (-1) r ∧ wzZ σ') (zB E) (za_A E)) args s 0 0 (za_A E)) 93 [(0, za_O 0 0), (3, za_I td), (5, za_I y5_93), (6, za_I fd), (7, za_I y7_93)] [] σ := by
          intro n
          induction n with
          | zero => intro y5_93 y7_93 σ hz g_93 s_93 i7_93 hn; exact absurd hn (Nat.not_lt_zero _)
          | succ n ih_93 =>
            intro y5_93 y7_93 σ hz g_93 s_93 i7_93 hn_93
            refine zv_iload (j := 4) G dX9_sums_93 rfl ?_
            refine zv_iload_n (j := 1) G dX9_sums_95 rfl rfl ?_
            refine zv_icmp_ge (tgt := 144) G dX9_sums_96 (by decide) (fun c_96 => ?_) (fun c_96 => ?_)
            · have k_96 := z_cle c_96 (a := td.toInt) (b := y7_93.toInt) rfl rfl
              refine zv_aload_n (j := 0) G dX9_sums_144 rfl rfl ?_
              refine zg_X9_40 G dX9_sums_145 ?_
              refine zv_aload_n (j := 0) G dX9_sums_148 rfl rfl ?_
              refine zg_X9_54 G dX9_sums_149 ?_
              refine zv_iload (j := 3) G dX9_sums_152 rfl ?_
              refine zv_callVNi (as := [za_I fd]) G (by decide) rfl rfl (zc_X1_amount_atx l E 85 fd σ (by omega)) zk_X1_amount zm_606 rfl ⟨(Nat.le_of_ble_eq_true rfl), (Nat.le_of_ble_eq_true rfl)⟩ ⟨Nat.zero_le _, Nat.zero_le _⟩ (Nat.le_of_ble_eq_true rfl) dX9_sums_154 (fun r_154 σ h_154 => ?_)
              obtain ⟨h_154, rfl⟩ := h_154
              refine zv_i2l G dX9_sums_157 ?_
              refine zv_iload (j := 3) G dX9_sums_158 rfl ?_
              refine zv_i2l G dX9_sums_160 ?_
              refine zv_callVNv (as := [za_L r_154.toInt64, za_L fd.toInt64]) G (by decide) rfl rfl (zc_X8_tell__atx l E r_154.toInt64 fd.toInt64 σ ) zk_X8_tell_ zm_608 rfl ⟨(Nat.le_of_ble_eq_true rfl), (Nat.le_of_ble_eq_true rfl)⟩ ⟨Nat.zero_le _, Nat.zero_le _⟩ (Nat.le_of_ble_eq_true rfl) dX9_sums_161 (fun σ h_161 => ?_)
              have hz : wzE σ := wzE_l hz.1 h_161
              refine zv_iload (j := 2) G dX9_sums_164 rfl ?_
              exact zv_iret G hr dX9_sums_166 ⟨wzAn_e ⟨t_1, t_9⟩ s_93, wzE_z hz⟩
            · have k_96 := z_cnle c_96 (a := td.toInt) (b := y7_93.toInt) rfl rfl
              refine zv_iload (j := 2) G dX9_sums_99 rfl ?_
              refine zv_aload_n (j := 0) G dX9_sums_101 rfl rfl ?_
              refine zg_X9_54 G dX9_sums_102 ?_
              refine zv_iload (j := 4) G dX9_sums_105 rfl ?_
              refine zv_callVNi (as := [za_I y7_93]) G (by decide) rfl rfl (zc_X1_amount_atx l E 85 y7_93 σ (by omega)) zk_X1_amount zm_606 rfl ⟨(Nat.le_of_ble_eq_true rfl), (Nat.le_of_ble_eq_true rfl)⟩ ⟨Nat.zero_le _, Nat.zero_le _⟩ (Nat.le_of_ble_eq_true rfl) dX9_sums_107 (fun r_107 σ h_107 => ?_)
              obtain ⟨h_107, rfl⟩ := h_107
              have a107 : r_107 = 0 := h_107.trans (hz.2 _ (by omega))
              refine zv_iadd G dX9_sums_110 ?_
              refine zv_top (fun x_111 e_111 => ?_)
              first | have q_111 := z_addf e_111 (a := y5_93.toInt) (b := r_107.toInt) rfl rfl (by omega) (by omega) | skip
              refine zv_istore (lv' := [(5, za_I x_111), (0, za_O 0 0), (3, za_I td), (6, za_I fd), (7, za_I y7_93)]) G dX9_sums_111 (by decide) rfl ?_
              refine zv_aload_n (j := 1) G dX9_sums_113 rfl rfl ?_
              refine zg_X9_54 G dX9_sums_114 ?_
              refine zv_iload (j := 4) G dX9_sums_117 rfl ?_
              refine zv_callVNi (as := [za_I y7_93]) G (by decide) rfl rfl (zc_X1_amount_atx l E 85 y7_93 σ (by omega)) zk_X1_amount zm_606 rfl ⟨(Nat.le_of_ble_eq_true rfl), (Nat.le_of_ble_eq_true rfl)⟩ ⟨Nat.zero_le _, Nat.zero_le _⟩ (Nat.le_of_ble_eq_true rfl) dX9_sums_119 (fun r_119 σ h_119 => ?_)
              obtain ⟨h_119, rfl⟩ := h_119
              have a119 : r_119 = 0 := h_119.trans (hz.2 _ (by omega))
              refine zv_aload_n (j := 1) G dX9_sums_122 rfl rfl ?_
              refine zg_X9_54 G dX9_sums_123 ?_
              refine zv_iload (j := 3) G dX9_sums_126 rfl ?_
              refine zv_callVNi (as := [za_I fd]) G (by decide) rfl rfl (zc_X1_amount_atx l E 85 fd σ (by omega)) zk_X1_amount zm_606 rfl ⟨(Nat.le_of_ble_eq_true rfl), (Nat.le_of_ble_eq_true rfl)⟩ ⟨Nat.zero_le _, Nat.zero_le _⟩ (Nat.le_of_ble_eq_true rfl) dX9_sums_128 (fun r_128 σ h_128 => ?_)
              obtain ⟨h_128, rfl⟩ := h_128
              have a128 : r_128 = 0 := h_128.trans (hz.2 _ (by omega))
              refine zv_icmp_le (tgt := 138) G dX9_sums_131 (by decide) (fun c_131 => ?_) (fun c_131 => ?_)
              · have k_131 := z_cle c_131 (a := r_119.toInt) (b := r_128.toInt) rfl rfl
                obtain ⟨x_138, e_138⟩ : ∃ y : Int32, y = y7_93 + 1 := ⟨_, rfl⟩
                refine zv_iinc (j := 4) (v := x_138) (lv' := [(7, za_I x_138), (5, za_I x_111), (0, za_O 0 0), (3, za_I td), (6, za_I fd)]) G dX9_sums_138 rfl (by rw [e_138]; rfl) (by decide) rfl ?_
                first | have q_138 := z_inc9 (by omega) e_138 | skip
                refine zv_goto (tgt := 93) G dX9_sums_141 (by decide) ?_
                refine zv_sub [2, 3, 1, 4, 0] (lv' := [(0, za_O 0 0), (3, za_I td), (5, za_I x_111), (6, za_I fd), (7, za_I x_138)]) rfl ?_
                exact ih_93 x_111 x_138 σ hz (by omega) (by rw [e_111, s_93, a107]; decide) (by have := z_inc c_96 e_138; omega) (z_meas c_96 e_138 hn_93)
              · exact absurd (show r_119 ≤ r_128 by rw [a119, a128]; decide) c_131
        refine zv_istore (lv' := [(7, za_I fd), (6, za_I fd), (5, za_I 0), (4, za_O 2 w_22), (0, za_O 0 0), (1, za_I t), (2, za_I fd), (3, za_I td)]) G dX9_sums_91 (by decide) rfl ?_
        refine zv_sub [4, 7, 2, 1, 0] (lv' := [(0, za_O 0 0), (3, za_I td), (5, za_I 0), (6, za_I fd), (7, za_I fd)]) rfl ?_
        exact J_93 _ (0 : Int32) fd σ hz (by omega) rfl (by first | assumption | omega) (Nat.lt_succ_self _)
      · exact absurd (show (σ.1 w_22 1) ≤ 0 by rw [wzE_t hz.1 (wz01i t_1) t_22]; decide) c_44
    · have f_9 := fun q9 => (h_9.2.mpr q9) c_12
      refine zv_iconst (v := (-1)) G dX9_sums_15 (by decide) ?_
      exact zv_iret G hr dX9_sums_16 ⟨(wzAn_n (fun q => by first | exact f_1 (by omega) | exact f_9 (by omega))), wzE_z hz⟩
set_option maxHeartbeats 4000000 in
set_option maxRecDepth 100000 in
theorem zc_X9_mean_at0 (l : Launch) (E : za_E) (t : Int32) (k : Int32) (σ0 : za_S) (h0 : wzE σ0) : zMi l E yX9_mean cX9_mean 7 (Option.some Jvm.ClassFile.FieldType.int) 5 112 [za_O 0 0, za_I t, za_I k] σ0 (fun r σ' => wzAn ((0 ≤ t.toInt ∧ t.toInt ≤ 1) ∧ (0 ≤ k.toInt ∧ k.toInt ≤ 9)) (-2) (-1) r ∧ wzZ σ') := by
  refine zMi_of [(0, za_O 0 0), (1, za_I t), (2, za_I k)] (by decide) rfl rfl (Nat.le_of_ble_eq_true rfl) ?_
  intro ho p e s m args below meth c G hr
  refine zv_gen (R9 := wzE) h0 (fun σ hz => ?_)
  refine zv_iload_n (j := 1) G dX9_mean_0 rfl rfl ?_
  refine zv_callSi (as := [za_I t]) G (zc_X9_isTable_aty l E t σ ) zk_X9_isTable zm_438 rfl ⟨(Nat.le_of_ble_eq_true rfl), (Nat.le_of_ble_eq_true rfl)⟩ ⟨Nat.zero_le _, Nat.zero_le _⟩ (Nat.le_of_ble_eq_true rfl) dX9_mean_1 (fun r_1 σ h_1 => ?_)
  obtain ⟨h_1, rfl⟩ := h_1
  refine zv_if_eq (tgt := 14) G dX9_mean_4 (by decide) (fun c_4 => ?_) (fun c_4 => ?_)
  · have f_1 := fun q9 => (h_1.2.mpr q9) c_4
    refine zv_iconst (v := (-1)) G dX9_mean_14 (by decide) ?_
    exact zv_iret G hr dX9_mean_15 ⟨(wzAn_n (fun q => by first | exact f_1 (by omega) | exact f_8 (by omega))), wzE_z hz⟩
  · have t_1 := h_1.2.mp c_4
    refine zv_iload_n (j := 2) G dX9_mean_7 rfl rfl ?_
    refine zv_callSi (as := [za_I k]) G (zc_X9_isKey_aty l E k σ ) zk_X9_isKey zm_441 rfl ⟨(Nat.le_of_ble_eq_true rfl), (Nat.le_of_ble_eq_true rfl)⟩ ⟨Nat.zero_le _, Nat.zero_le _⟩ (Nat.le_of_ble_eq_true rfl) dX9_mean_8 (fun r_8 σ h_8 => ?_)
    obtain ⟨h_8, rfl⟩ := h_8
    refine zv_if_ne (tgt := 16) G dX9_mean_11 (by decide) (fun c_11 => ?_) (fun c_11 => ?_)
    · have t_8 := h_8.2.mp c_11
      refine zv_aload_n (j := 0) G dX9_mean_16 rfl rfl ?_
      refine zg_X9_10 G dX9_mean_17 ?_
      refine zv_iload_n (j := 1) G dX9_mean_20 rfl rfl ?_
      refine zv_callVNr (as := [za_I t]) G (by decide) rfl rfl (zc_X4_table_atx l E 1 t σ (wz01i t_1)) zk_X4_table zm_453 rfl ⟨(Nat.le_of_ble_eq_true rfl), (Nat.le_of_ble_eq_true rfl)⟩ ⟨Nat.zero_le _, Nat.zero_le _⟩ (Nat.le_of_ble_eq_true rfl) dX9_mean_21 (fun r_21 σ h_21 => ?_)
      obtain ⟨w_21, rfl, h_w_21, t_21, rfl⟩ := h_21
      refine zv_astore_n (lv' := [(3, za_O 2 w_21), (0, za_O 0 0), (1, za_I t), (2, za_I k)]) G dX9_mean_24 rfl (by decide) rfl ?_
      refine zv_aload_n (j := 0) G dX9_mean_25 rfl rfl ?_
      refine zv_iload_n (j := 3) G dX9_mean_26 rfl rfl ?_
      refine zv_iconst (v := 0) G dX9_mean_27 (by decide) ?_
      refine zv_bipush (v := 100) G dX9_mean_28 (by decide) ?_
      refine zv_callVNi (as := [za_I k, za_I 0, za_I 100]) G (by decide) rfl rfl (zc_X6_daysWithin_atx l E w_21 k (0 : Int32) (100 : Int32) [] σ (wzE_T hz (wz01i t_1) t_21) wzOk_n (by decide)) zk_X6_daysWithin zm_568 rfl ⟨(Nat.le_of_ble_eq_true rfl), (Nat.le_of_ble_eq_true rfl)⟩ ⟨Nat.zero_le _, Nat.zero_le _⟩ (Nat.le_of_ble_eq_true rfl) dX9_mean_30 (fun r_30 σ h_30 => ?_)
      obtain ⟨h_30, rfl⟩ := h_30
      refine zv_istore (lv' := [(4, za_I r_30), (3, za_O 2 w_21), (0, za_O 0 0), (1, za_I t), (2, za_I k)]) G dX9_mean_33 (by decide) rfl ?_
      refine zv_iload (j := 0) G dX9_mean_35 rfl ?_
      refine zv_if_ne (tgt := 43) G dX9_mean_37 (by decide) (fun c_37 => ?_) (fun c_37 => ?_)
      · exact absurd (Int32.toInt_inj.mp h_30) c_37
      · refine zv_bipush (v := (-2)) G dX9_mean_40 (by decide) ?_
        exact zv_iret G hr dX9_mean_42 ⟨wzAn_y (by omega), wzE_z hz⟩
    · have f_8 := fun q9 => (h_8.2.mpr q9) c_11
      refine zv_iconst (v := (-1)) G dX9_mean_14 (by decide) ?_
      exact zv_iret G hr dX9_mean_15 ⟨(wzAn_n (fun q => by first | exact f_1 (by omega) | exact f_8 (by omega))), wzE_z hz⟩
set_option maxHeartbeats 4000000 in
set_option maxRecDepth 100000 in
theorem zc_X9_fullest_at0 (l : Launch) (E : za_E) (t : Int32) (σ0 : za_S) (h0 : wzE σ0) : zMi l E yX9_fullest cX9_fullest 6 (Option.some Jvm.ClassFile.FieldType.int) 4 89 [za_O 0 0, za_I t] σ0 (fun r σ' => wzAn ((0 ≤ t.toInt ∧ t.toInt ≤ 1)) 0 (-1) r ∧ wzZ σ') := by
  refine zMi_of [(0, za_O 0 0), (1, za_I t)] (by decide) rfl rfl (Nat.le_of_ble_eq_true rfl) ?_
  intro ho p e s m args below meth c G hr
  refine zv_gen (R9 := wzE) h0 (fun σ hz => ?_)
  refine zv_iload_n (j := 1) G dX9_fullest_0 rfl rfl ?_
  refine zv_callSi (as := [za_I t]) G (zc_X9_isTable_aty l E t σ ) zk_X9_isTable zm_438 rfl ⟨(Nat.le_of_ble_eq_true rfl), (Nat.le_of_ble_eq_true rfl)⟩ ⟨Nat.zero_le _, Nat.zero_le _⟩ (Nat.le_of_ble_eq_true rfl) dX9_fullest_1 (fun r_1 σ h_1 => ?_)
  obtain ⟨h_1, rfl⟩ := h_1
  refine zv_if_ne (tgt := 9) G dX9_fullest_4 (by decide) (fun c_4 => ?_) (fun c_4 => ?_)
  · have t_1 := h_1.2.mp c_4
    refine zv_aload_n (j := 0) G dX9_fullest_9 rfl rfl ?_
    refine zg_X9_10 G dX9_fullest_10 ?_
    refine zv_iload_n (j := 1) G dX9_fullest_13 rfl rfl ?_
    refine zv_callVNr (as := [za_I t]) G (by decide) rfl rfl (zc_X4_table_atx l E 1 t σ (wz01i t_1)) zk_X4_table zm_453 rfl ⟨(Nat.le_of_ble_eq_true rfl), (Nat.le_of_ble_eq_true rfl)⟩ ⟨Nat.zero_le _, Nat.zero_le _⟩ (Nat.le_of_ble_eq_true rfl) dX9_fullest_14 (fun r_14 σ h_14 => ?_)
    obtain ⟨w_14, rfl, h_w_14, t_14, rfl⟩ := h_14
    refine zv_astore_n (lv' := [(2, za_O 2 w_14), (0, za_O 0 0), (1, za_I t)]) G dX9_fullest_17 rfl (by decide) rfl ?_
    refine zv_aload_n (j := 1) G dX9_fullest_18 rfl rfl ?_
    refine zg_X9_54 G dX9_fullest_19 ?_
    refine zv_callVNv (as := []) G (by decide) rfl rfl (zc_X1_clear_atx l E 85 σ ) zk_X1_clear zm_577 rfl ⟨(Nat.le_of_ble_eq_true rfl), (Nat.le_of_ble_eq_true rfl)⟩ ⟨Nat.zero_le _, Nat.zero_le _⟩ (Nat.le_of_ble_eq_true rfl) dX9_fullest_22 (fun σ h_22 => ?_)
    have hz : wzE σ ∧ wzLn σ := ⟨wzE_w hz h_22.1, h_22.2⟩
    refine zv_iconst (v := 0) G dX9_fullest_25 (by decide) ?_
    refine zv_istore_n (lv' := [(3, za_I 0), (2, za_O 2 w_14), (0, za_O 0 0), (1, za_I t)]) G dX9_fullest_26 rfl (by decide) rfl ?_
    refine zv_iload_n (j := 0) G dX9_fullest_27 rfl rfl ?_
    refine zv_aload_n (j := 1) G dX9_fullest_28 rfl rfl ?_
    refine zg_X9_106 G dX9_fullest_29 ?_
    refine zv_icmp_ge (tgt := 61) G dX9_fullest_32 (by decide) (fun c_32 => ?_) (fun c_32 => ?_)
    · have k_32 := z_cle c_32 (a := (σ.1 w_14 1).toInt) (b := 0) rfl rfl
      refine zv_iconst (v := 0) G dX9_fullest_61 (by decide) ?_
      refine zv_istore_n (lv' := [(3, za_I 0), (2, za_O 2 w_14), (0, za_O 0 0), (1, za_I t)]) G dX9_fullest_62 rfl (by decide) rfl ?_
      refine zv_iconst (v := 0) G dX9_fullest_63 (by decide) ?_
      refine zv_istore (lv' := [(4, za_I 0), (3, za_I 0), (2, za_O 2 w_14), (0, za_O 0 0), (1, za_I t)]) G dX9_fullest_64 (by decide) rfl ?_
      refine zv_iconst (v := 0) G dX9_fullest_66 (by decide) ?_
      have J_69 : ∀ (n : Nat) (y4_69 : Int32) (y5_69 : Int32) (σ : za_S) (hz : wzE σ ∧ wzLn σ) (i5_69 : 0 ≤ y5_69.toInt) (u5_69 : y5_69.toInt ≤ 100) (hn_69 : (2147483648 - y5_69.toInt).toNat < n), zV p l e (zRm 4 89) s m args below meth c E (za_A E) 6 0 0 (MQ below (va_Qi (fun r σ' => wzAn ((0 ≤ t.toInt ∧ t.toInt ≤ 1)) 0 (-1) r ∧ wzZ σ') (zB E) (za_A E)) args s 0 0 (za_A E)) 69 [(0, za_O 0 0), (3, za_I 0), (4, za_I y4_69), (5, za_I y5_69)] [] σ := by
        intro n
        induction n with
        | zero => intro y4_69 y5_69 σ hz i5_69 u5_69 hn; exact absurd hn (Nat.not_lt_zero _)
        | succ n ih_69 =>
          intro y4_69 y5_69 σ hz i5_69 u5_69 hn_69
          refine zv_iload (j := 3) G dX9_fullest_69 rfl ?_
          refine zv_bipush (v := 100) G dX9_fullest_71 (by decide) ?_
          refine zv_icmp_ge (tgt := 131) G dX9_fullest_73 (by decide) (fun c_73 => ?_) (fun c_73 => ?_)
          · have k_73 := z_cle c_73 (a := 100) (b := y5_69.toInt) rfl rfl
            refine zv_aload_n (j := 0) G dX9_fullest_131 rfl rfl ?_
            refine zg_X9_40 G dX9_fullest_132 ?_
            refine zv_aload_n (j := 0) G dX9_fullest_135 rfl rfl ?_
            refine zg_X9_54 G dX9_fullest_136 ?_
            refine zv_iload_n (j := 1) G dX9_fullest_139 rfl rfl ?_
            refine zv_callVNi (as := [za_I 0]) G (by decide) rfl rfl (zc_X1_amount_atx l E 85 (0 : Int32) σ (by decide)) zk_X1_amount zm_606 rfl ⟨(Nat.le_of_ble_eq_true rfl), (Nat.le_of_ble_eq_true rfl)⟩ ⟨Nat.zero_le _, Nat.zero_le _⟩ (Nat.le_of_ble_eq_true rfl) dX9_fullest_140 (fun r_140 σ h_140 => ?_)
            obtain ⟨h_140, rfl⟩ := h_140
            refine zv_i2l G dX9_fullest_143 ?_
            refine zv_iload (j := 2) G dX9_fullest_144 rfl ?_
            refine zv_i2l G dX9_fullest_146 ?_
            refine zv_callVNv (as := [za_L r_140.toInt64, za_L y4_69.toInt64]) G (by decide) rfl rfl (zc_X8_tell__atx l E r_140.toInt64 y4_69.toInt64 σ ) zk_X8_tell_ zm_608 rfl ⟨(Nat.le_of_ble_eq_true rfl), (Nat.le_of_ble_eq_true rfl)⟩ ⟨Nat.zero_le _, Nat.zero_le _⟩ (Nat.le_of_ble_eq_true rfl) dX9_fullest_147 (fun σ h_147 => ?_)
            have hz : wzE σ := wzE_l hz.1 h_147
            refine zv_iload_n (j := 1) G dX9_fullest_150 rfl rfl ?_
            exact zv_iret G hr dX9_fullest_151 ⟨wzAn_y t_1, wzE_z hz⟩
          · have b_73 : 0 ≤ y5_69.toInt ∧ y5_69.toInt < 100 := ⟨i5_69, z_ltk c_73 rfl⟩
            have k_73 := z_cnle c_73 (a := 100) (b := y5_69.toInt) rfl rfl
            refine zv_aload_n (j := 0) G dX9_fullest_76 rfl rfl ?_
            refine zg_X9_54 G dX9_fullest_77 ?_
            refine zv_iload (j := 3) G dX9_fullest_80 rfl ?_
            refine zv_callVNi (as := [za_I y5_69]) G (by decide) rfl rfl (zc_X1_amount_atx l E 85 y5_69 σ (by omega)) zk_X1_amount zm_606 rfl ⟨(Nat.le_of_ble_eq_true rfl), (Nat.le_of_ble_eq_true rfl)⟩ ⟨Nat.zero_le _, Nat.zero_le _⟩ (Nat.le_of_ble_eq_true rfl) dX9_fullest_82 (fun r_82 σ h_82 => ?_)
            obtain ⟨h_82, rfl⟩ := h_82
            have a82 : r_82 = 0 := h_82.trans (hz.2 _ (by omega))
            refine zv_aload_n (j := 0) G dX9_fullest_85 rfl rfl ?_
            refine zg_X9_54 G dX9_fullest_86 ?_
            refine zv_iload_n (j := 1) G dX9_fullest_89 rfl rfl ?_
            refine zv_callVNi (as := [za_I 0]) G (by decide) rfl rfl (zc_X1_amount_atx l E 85 (0 : Int32) σ (by decide)) zk_X1_amount zm_606 rfl ⟨(Nat.le_of_ble_eq_true rfl), (Nat.le_of_ble_eq_true rfl)⟩ ⟨Nat.zero_le _, Nat.zero_le _⟩ (Nat.le_of_ble_eq_true rfl) dX9_fullest_90 (fun r_90 σ h_90 => ?_)
            obtain ⟨h_90, rfl⟩ := h_90
            have a90 : r_90 = 0 := h_90.trans (hz.2 _ (by decide))
            refine zv_icmp_le (tgt := 102) G dX9_fullest_93 (by decide) (fun c_93 => ?_) (fun c_93 => ?_)
            · have k_93 := z_cle c_93 (a := r_82.toInt) (b := r_90.toInt) rfl rfl
              refine zv_aload_n (j := 0) G dX9_fullest_102 rfl rfl ?_
              refine zg_X9_54 G dX9_fullest_103 ?_
              refine zv_iload (j := 3) G dX9_fullest_106 rfl ?_
              refine zv_callVNi (as := [za_I y5_69]) G (by decide) rfl rfl (zc_X1_amount_atx l E 85 y5_69 σ (by omega)) zk_X1_amount zm_606 rfl ⟨(Nat.le_of_ble_eq_true rfl), (Nat.le_of_ble_eq_true rfl)⟩ ⟨Nat.zero_le _, Nat.zero_le _⟩ (Nat.le_of_ble_eq_true rfl) dX9_fullest_108 (fun r_108 σ h_108 => ?_)
              obtain ⟨h_108, rfl⟩ := h_108
              refine zv_aload_n (j := 0) G dX9_fullest_111 rfl rfl ?_
              refine zg_X9_54 G dX9_fullest_112 ?_
              refine zv_iload_n (j := 1) G dX9_fullest_115 rfl rfl ?_
              refine zv_callVNi (as := [za_I 0]) G (by decide) rfl rfl (zc_X1_amount_atx l E 85 (0 : Int32) σ (by decide)) zk_X1_amount zm_606 rfl ⟨(Nat.le_of_ble_eq_true rfl), (Nat.le_of_ble_eq_true rfl)⟩ ⟨Nat.zero_le _, Nat.zero_le _⟩ (Nat.le_of_ble_eq_true rfl) dX9_fullest_116 (fun r_116 σ h_116 => ?_)
              obtain ⟨h_116, rfl⟩ := h_116
              refine zv_icmp_ne (tgt := 125) G dX9_fullest_119 (by decide) (fun c_119 => ?_) (fun c_119 => ?_)
              · have k_119 := z_cne c_119 (a := r_108.toInt) (b := r_116.toInt) rfl rfl
                obtain ⟨x_125, e_125⟩ : ∃ y : Int32, y = y5_69 + 1 := ⟨_, rfl⟩
                refine zv_iinc (j := 3) (v := x_125) (lv' := [(5, za_I x_125), (0, za_O 0 0), (3, za_I 0), (4, za_I y4_69)]) G dX9_fullest_125 rfl (by rw [e_125]; rfl) (by decide) rfl ?_
                first | have q_125 := z_inc9 (by omega) e_125 | skip
                refine zv_goto (tgt := 69) G dX9_fullest_128 (by decide) ?_
                refine zv_sub [1, 2, 3, 0] (lv' := [(0, za_O 0 0), (3, za_I 0), (4, za_I y4_69), (5, za_I x_125)]) rfl ?_
                exact ih_69 y4_69 x_125 σ hz (by have := z_inc c_73 e_125; omega) (by have := z_inc9 (by omega) e_125; omega) (z_meas c_73 e_125 hn_69)
              · have k_119 := z_ceq c_119 (a := r_108.toInt) (b := r_116.toInt) rfl rfl
                obtain ⟨x_122, e_122⟩ : ∃ y : Int32, y = y4_69 + 1 := ⟨_, rfl⟩
                refine zv_iinc (j := 2) (v := x_122) (lv' := [(4, za_I x_122), (0, za_O 0 0), (3, za_I 0), (5, za_I y5_69)]) G dX9_fullest_122 rfl (by rw [e_122]; rfl) (by decide) rfl ?_
                first | have q_122 := z_inc9 (by omega) e_122 | skip
                obtain ⟨x_125, e_125⟩ : ∃ y : Int32, y = y5_69 + 1 := ⟨_, rfl⟩
                refine zv_iinc (j := 3) (v := x_125) (lv' := [(5, za_I x_125), (4, za_I x_122), (0, za_O 0 0), (3, za_I 0)]) G dX9_fullest_125 rfl (by rw [e_125]; rfl) (by decide) rfl ?_
                first | have q_125 := z_inc9 (by omega) e_125 | skip
                refine zv_goto (tgt := 69) G dX9_fullest_128 (by decide) ?_
                refine zv_sub [2, 3, 1, 0] (lv' := [(0, za_O 0 0), (3, za_I 0), (4, za_I x_122), (5, za_I x_125)]) rfl ?_
                exact ih_69 x_122 x_125 σ hz (by have := z_inc c_73 e_125; omega) (by have := z_inc9 (by omega) e_125; omega) (z_meas c_73 e_125 hn_69)
            · exact absurd (show r_82 ≤ r_90 by rw [a82, a90]; decide) c_93
      refine zv_istore (lv' := [(5, za_I 0), (4, za_I 0), (3, za_I 0), (2, za_O 2 w_14), (0, za_O 0 0), (1, za_I t)]) G dX9_fullest_67 (by decide) rfl ?_
      refine zv_sub [4, 2, 1, 0] (lv' := [(0, za_O 0 0), (3, za_I 0), (4, za_I 0), (5, za_I 0)]) rfl ?_
      exact J_69 _ (0 : Int32) (0 : Int32) σ hz (by decide) (by decide) (Nat.lt_succ_self _)
    · exact absurd (show (σ.1 w_14 1) ≤ 0 by rw [wzE_t hz.1 (wz01i t_1) t_14]; decide) c_32
  · have f_1 := fun q9 => (h_1.2.mpr q9) c_4
    refine zv_iconst (v := (-1)) G dX9_fullest_7 (by decide) ?_
    exact zv_iret G hr dX9_fullest_8 ⟨(wzAn_n (fun q => by first | exact f_1 (by omega))), wzE_z hz⟩
set_option maxHeartbeats 4000000 in
set_option maxRecDepth 100000 in
theorem zc_X6_cell_atz (l : Launch) (E : za_E) (w : Nat) (i : Int32) (cj : Int32) (σ : za_S) (hs : σ.1 w 1 = 0) : zMi l E yX6_cell cX6_cell 3 (Option.some Jvm.ClassFile.FieldType.int) 2 42 [za_O 2 w, za_I i, za_I cj] σ (fun r σ' => (r = 0) ∧ σ' = σ) := by
  refine zMi_of [(0, za_O 2 w), (1, za_I i), (2, za_I cj)] (by decide) rfl rfl (Nat.le_of_ble_eq_true rfl) ?_
  intro ho p e s m args below meth c G hr
  have h_w : za_kd w = 2 := za_okO (by decide) (List.forall_mem_cons.mp ho).1
  refine zv_aload_n (j := 0) G dX6_cell_0 rfl rfl ?_
  refine zv_iload_n (j := 1) G dX6_cell_1 rfl rfl ?_
  refine zv_callVi (as := [za_I i]) G (by decide) rfl rfl (zc_X6_has_atx l E w i σ ) zk_X6_has zm_401 rfl ⟨(Nat.le_of_ble_eq_true rfl), (Nat.le_of_ble_eq_true rfl)⟩ ⟨Nat.zero_le _, Nat.zero_le _⟩ (Nat.le_of_ble_eq_true rfl) dX6_cell_2 (fun r_2 σ h_2 => ?_)
  obtain ⟨h_2, rfl⟩ := h_2
  refine zv_if_eq (tgt := 30) G dX6_cell_5 (by decide) (fun c_5 => ?_) (fun c_5 => ?_)
  · have f_2 := fun q9 => (h_2.2.mpr q9) c_5
    refine zv_iconst (v := 0) G dX6_cell_30 (by decide) ?_
    exact zv_iret G hr dX6_cell_31 ⟨rfl, rfl⟩
  · exact absurd (h_2.2.mp c_5) (by rw [hs]; have h8 : (0 : Int32).toInt = 0 := (by decide); omega)
set_option maxHeartbeats 4000000 in
set_option maxRecDepth 100000 in
theorem zc_X6_daysOfRowWithin_atz (l : Launch) (E : za_E) (w : Nat) (i : Int32) (fd : Int32) (td : Int32) (σ : za_S) (hs : σ.1 w 1 = 0) (hf : 0 ≤ fd.toInt ∧ fd.toInt ≤ 200 ∧ 0 ≤ td.toInt ∧ td.toInt ≤ 200) : zMi l E yX6_daysOfRowWithin cX6_daysOfRowWithin 4 (Option.some Jvm.ClassFile.FieldType.int) 3 64 [za_O 2 w, za_I i, za_I fd, za_I td] σ (fun r σ' => (r = 0) ∧ σ' = σ) := by
  refine zMi_of [(0, za_O 2 w), (1, za_I i), (2, za_I fd), (3, za_I td)] (by decide) rfl rfl (Nat.le_of_ble_eq_true rfl) ?_
  intro ho p e s m args below meth c G hr
  have h_w : za_kd w = 2 := za_okO (by decide) (List.forall_mem_cons.mp ho).1
  refine zv_iconst (v := 0) G dX6_daysOfRowWithin_0 (by decide) ?_
  refine zv_iload_n (j := 3) G dX6_daysOfRowWithin_1 rfl rfl ?_
  refine zv_aload_n (j := 0) G dX6_daysOfRowWithin_2 rfl rfl ?_
  refine zv_iload_n (j := 1) G dX6_daysOfRowWithin_3 rfl rfl ?_
  refine zv_iconst (v := 3) G dX6_daysOfRowWithin_4 (by decide) ?_
  refine zv_callVi (as := [za_I i, za_I 3]) G (by decide) rfl rfl (zc_X6_cell_atz l E w i (3 : Int32) σ (by first | assumption | decide | omega)) zk_X6_cell zm_465 rfl ⟨(Nat.le_of_ble_eq_true rfl), (Nat.le_of_ble_eq_true rfl)⟩ ⟨Nat.zero_le _, Nat.zero_le _⟩ (Nat.le_of_ble_eq_true rfl) dX6_daysOfRowWithin_5 (fun r_5 σ h_5 => ?_)
  obtain ⟨h_5, rfl⟩ := h_5
  refine zv_mmin G zm_473 zm_392 zm_147 zm_393 (Nat.le_of_ble_eq_true rfl) (Nat.le_of_ble_eq_true rfl) (Nat.zero_le _) (Nat.zero_le _) dX6_daysOfRowWithin_8 ?_
  refine zv_top (fun x_8 e_8 => ?_)
  refine zv_iload_n (j := 2) G dX6_daysOfRowWithin_11 rfl rfl ?_
  refine zv_aload_n (j := 0) G dX6_daysOfRowWithin_12 rfl rfl ?_
  refine zv_iload_n (j := 1) G dX6_daysOfRowWithin_13 rfl rfl ?_
  refine zv_iconst (v := 2) G dX6_daysOfRowWithin_14 (by decide) ?_
  refine zv_callVi (as := [za_I i, za_I 2]) G (by decide) rfl rfl (zc_X6_cell_atz l E w i (2 : Int32) σ (by first | assumption | decide | omega)) zk_X6_cell zm_465 rfl ⟨(Nat.le_of_ble_eq_true rfl), (Nat.le_of_ble_eq_true rfl)⟩ ⟨Nat.zero_le _, Nat.zero_le _⟩ (Nat.le_of_ble_eq_true rfl) dX6_daysOfRowWithin_15 (fun r_15 σ h_15 => ?_)
  obtain ⟨h_15, rfl⟩ := h_15
  refine zv_mmax G zm_474 zm_395 zm_147 zm_396 (Nat.le_of_ble_eq_true rfl) (Nat.le_of_ble_eq_true rfl) (Nat.zero_le _) (Nat.zero_le _) dX6_daysOfRowWithin_18 ?_
  refine zv_top (fun x_18 e_18 => ?_)
  refine zv_isub G dX6_daysOfRowWithin_21 ?_
  refine zv_mmax G zm_474 zm_395 zm_147 zm_396 (Nat.le_of_ble_eq_true rfl) (Nat.le_of_ble_eq_true rfl) (Nat.zero_le _) (Nat.zero_le _) dX6_daysOfRowWithin_22 ?_
  refine zv_top (fun x_22 e_22 => ?_)
  exact zv_iret G hr dX6_daysOfRowWithin_25 ⟨(wzdz hf h_5 h_15 e_8 e_18 e_22), rfl⟩
set_option maxHeartbeats 4000000 in
set_option maxRecDepth 100000 in
theorem zc_X9_fewestBehind_at0 (l : Launch) (E : za_E) (sw : Nat) (fd : Int32) (td : Int32) (σ : za_S) (hs : σ.1 sw 1 = 0) (hl : wzLn σ) (hp : (0 ≤ fd.toInt ∧ fd.toInt ≤ 99) ∧ fd.toInt < td.toInt ∧ td.toInt ≤ 100) : zMi l E yX9_fewestBehind cX9_fewestBehind 10 (Option.some Jvm.ClassFile.FieldType.int) 4 87 [za_O 0 0, za_O 2 sw, za_I (-1), za_I fd, za_I td] σ (fun r σ' => (r = 21) ∧ σ' = σ) := by
  refine zMi_of [(0, za_O 0 0), (1, za_O 2 sw), (2, za_I (-1)), (3, za_I fd), (4, za_I td)] (by decide) rfl rfl (Nat.le_of_ble_eq_true rfl) ?_
  intro ho p e s m args below meth c G hr
  have h_sw : za_kd sw = 2 := za_okO (by decide) (List.forall_mem_cons.mp (List.forall_mem_cons.mp ho).2).1
  refine zv_iconst (v := 0) G dX9_fewestBehind_0 (by decide) ?_
  refine zv_istore (lv' := [(5, za_I 0), (0, za_O 0 0), (1, za_O 2 sw), (2, za_I (-1)), (3, za_I fd), (4, za_I td)]) G dX9_fewestBehind_1 (by decide) rfl ?_
  refine zv_iload_n (j := 4) G dX9_fewestBehind_3 rfl rfl ?_
  refine zv_istore (lv' := [(6, za_I fd), (5, za_I 0), (0, za_O 0 0), (1, za_O 2 sw), (2, za_I (-1)), (3, za_I fd), (4, za_I td)]) G dX9_fewestBehind_4 (by decide) rfl ?_
  refine zv_iconst (v := 0) G dX9_fewestBehind_6 (by decide) ?_
  refine zv_istore (lv' := [(7, za_I 0), (6, za_I fd), (5, za_I 0), (0, za_O 0 0), (1, za_O 2 sw), (2, za_I (-1)), (3, za_I fd), (4, za_I td)]) G dX9_fewestBehind_7 (by decide) rfl ?_
  refine zv_iload (j := 0) G dX9_fewestBehind_9 rfl ?_
  refine zv_bipush (v := 100) G dX9_fewestBehind_11 (by decide) ?_
  refine zv_icmp_ge (tgt := 131) G dX9_fewestBehind_13 (by decide) (fun c_13 => ?_) (fun c_13 => ?_)
  · exact absurd c_13 (by decide)
  · have k_13 := z_cnle c_13 (a := 100) (b := 0) rfl rfl
    refine zv_iload (j := 1) G dX9_fewestBehind_16 rfl ?_
    refine zv_iload (j := 7) G dX9_fewestBehind_18 rfl ?_
    refine zv_icmp_ge (tgt := 131) G dX9_fewestBehind_20 (by decide) (fun c_20 => ?_) (fun c_20 => ?_)
    · exact absurd (z_cle c_20 (a := td.toInt) (b := fd.toInt) rfl rfl) (by omega)
    · have k_20 := z_cnle c_20 (a := td.toInt) (b := fd.toInt) rfl rfl
      refine zv_aload_n (j := 3) G dX9_fewestBehind_23 rfl rfl ?_
      refine zg_X9_54 G dX9_fewestBehind_24 ?_
      refine zv_iload (j := 1) G dX9_fewestBehind_27 rfl ?_
      refine zv_callVNi (as := [za_I fd]) G (by decide) rfl rfl (zc_X1_amount_atx l E 85 fd σ (by omega)) zk_X1_amount zm_606 rfl ⟨(Nat.le_of_ble_eq_true rfl), (Nat.le_of_ble_eq_true rfl)⟩ ⟨Nat.zero_le _, Nat.zero_le _⟩ (Nat.le_of_ble_eq_true rfl) dX9_fewestBehind_29 (fun r_29 σ h_29 => ?_)
      obtain ⟨h_29, rfl⟩ := h_29
      have a29 : r_29 = 0 := h_29.trans (hl _ (by omega))
      refine zv_if_gt (tgt := 49) G dX9_fewestBehind_32 (by decide) (fun c_32 => ?_) (fun c_32 => ?_)
      · exact absurd (show r_29 ≤ 0 by rw [a29]; decide) (fun q9 => absurd c_32 (by rw [a29]; decide))
      · have k_32 := z_cnlt c_32 (a := 0) (b := r_29.toInt) rfl rfl
        refine zv_aload_n (j := 4) G dX9_fewestBehind_35 rfl rfl ?_
        refine zv_iload_n (j := 5) G dX9_fewestBehind_36 rfl rfl ?_
        refine zv_iload (j := 1) G dX9_fewestBehind_37 rfl ?_
        refine zv_iload (j := 1) G dX9_fewestBehind_39 rfl ?_
        refine zv_iconst (v := 1) G dX9_fewestBehind_41 (by decide) ?_
        refine zv_iadd G dX9_fewestBehind_42 ?_
        refine zv_callVNi (as := [za_I (-1), za_I fd, za_I (fd + 1)]) G (by decide) rfl rfl (zc_X6_daysOfRowWithin_atz l E sw (-1) fd (fd + 1) σ hs (by have e9 : (fd + 1).toInt = fd.toInt + 1 := (by rw [z_add (by rw [z_one]; omega) (by rw [z_one]; omega), z_one]); omega)) zk_X6_daysOfRowWithin zm_777 rfl ⟨(Nat.le_of_ble_eq_true rfl), (Nat.le_of_ble_eq_true rfl)⟩ ⟨Nat.zero_le _, Nat.zero_le _⟩ (Nat.le_of_ble_eq_true rfl) dX9_fewestBehind_43 (fun r_43 σ h_43 => ?_)
        obtain ⟨h_43, rfl⟩ := h_43
        refine zv_if_le (tgt := 55) G dX9_fewestBehind_46 (by decide) (fun c_46 => ?_) (fun c_46 => ?_)
        · have k_46 := z_cle c_46 (a := r_43.toInt) (b := 0) rfl rfl
          refine zv_iload (j := 1) G dX9_fewestBehind_55 rfl ?_
          refine zv_istore (lv' := [(8, za_I fd), (7, za_I 0), (6, za_I fd), (5, za_I 0), (0, za_O 0 0), (1, za_O 2 sw), (2, za_I (-1)), (3, za_I fd), (4, za_I td)]) G dX9_fewestBehind_57 (by decide) rfl ?_
          refine zv_iload_n (j := 6) G dX9_fewestBehind_59 rfl rfl ?_
          refine zv_iconst (v := 1) G dX9_fewestBehind_60 (by decide) ?_
          refine zv_iadd G dX9_fewestBehind_61 ?_
          refine zv_top (fun x_62 e_62 => ?_)
          first | have q_62 := z_addf e_62 (a := -1) (b := 1) rfl rfl (by omega) (by omega) | skip
          refine zv_istore (lv' := [(9, za_I x_62), (8, za_I fd), (7, za_I 0), (6, za_I fd), (5, za_I 0), (0, za_O 0 0), (1, za_O 2 sw), (2, za_I (-1)), (3, za_I fd), (4, za_I td)]) G dX9_fewestBehind_62 (by decide) rfl ?_
          refine zv_iload (j := 0) G dX9_fewestBehind_64 rfl ?_
          refine zv_aload_n (j := 6) G dX9_fewestBehind_66 rfl rfl ?_
          refine zg_X9_106 G dX9_fewestBehind_67 ?_
          refine zv_icmp_ge (tgt := 108) G dX9_fewestBehind_70 (by decide) (fun c_70 => ?_) (fun c_70 => ?_)
          · have k_70 := z_cle c_70 (a := (σ.1 sw 1).toInt) (b := x_62.toInt) rfl rfl
            refine zv_iload (j := 1) G dX9_fewestBehind_108 rfl ?_
            refine zv_iload (j := 3) G dX9_fewestBehind_110 rfl ?_
            refine zv_icmp_ne (tgt := 118) G dX9_fewestBehind_112 (by decide) (fun c_112 => ?_) (fun c_112 => ?_)
            · exact absurd rfl c_112
            · have k_112 := z_ceq c_112 (a := fd.toInt) (b := fd.toInt) rfl rfl
              refine zv_bipush (v := 21) G dX9_fewestBehind_115 (by decide) ?_
              exact zv_iret G hr dX9_fewestBehind_117 ⟨rfl, rfl⟩
          · exact absurd (show (σ.1 sw 1) ≤ x_62 by rw [hs, e_62]; decide) c_70
        · exact absurd (show r_43 ≤ 0 by rw [h_43]; decide) c_46
set_option maxHeartbeats 4000000 in
set_option maxRecDepth 100000 in
theorem zc_X9_spans_at0 (l : Launch) (E : za_E) (t : Int32) (fd : Int32) (td : Int32) (σ0 : za_S) (h0 : wzE σ0) : zMi l E yX9_spans cX9_spans 8 (Option.some Jvm.ClassFile.FieldType.int) 5 116 [za_O 0 0, za_I t, za_I fd, za_I td] σ0 (fun r σ' => wzAn ((0 ≤ t.toInt ∧ t.toInt ≤ 1) ∧ (0 ≤ fd.toInt ∧ fd.toInt ≤ 99) ∧ fd.toInt < td.toInt ∧ td.toInt ≤ 100) (-2) (-1) r ∧ wzZ σ') := by
  refine zMi_of [(0, za_O 0 0), (1, za_I t), (2, za_I fd), (3, za_I td)] (by decide) rfl rfl (Nat.le_of_ble_eq_true rfl) ?_
  intro ho p e s m args below meth c G hr
  refine zv_gen (R9 := wzE) h0 (fun σ hz => ?_)
  refine zv_iload_n (j := 1) G dX9_spans_0 rfl rfl ?_
  refine zv_callSi (as := [za_I t]) G (zc_X9_isTable_aty l E t σ ) zk_X9_isTable zm_438 rfl ⟨(Nat.le_of_ble_eq_true rfl), (Nat.le_of_ble_eq_true rfl)⟩ ⟨Nat.zero_le _, Nat.zero_le _⟩ (Nat.le_of_ble_eq_true rfl) dX9_spans_1 (fun r_1 σ h_1 => ?_)
  obtain ⟨h_1, rfl⟩ := h_1
  refine zv_if_eq (tgt := 15) G dX9_spans_4 (by decide) (fun c_4 => ?_) (fun c_4 => ?_)
  · have f_1 := fun q9 => (h_1.2.mpr q9) c_4
    refine zv_iconst (v := (-1)) G dX9_spans_15 (by decide) ?_
    exact zv_iret G hr dX9_spans_16 ⟨(wzAn_n (fun q => by first | exact f_1 (by omega) | exact f_9 (by omega))), wzE_z hz⟩
  · have t_1 := h_1.2.mp c_4
    refine zv_iload_n (j := 2) G dX9_spans_7 rfl rfl ?_
    refine zv_iload_n (j := 3) G dX9_spans_8 rfl rfl ?_
    refine zv_callSi (as := [za_I fd, za_I td]) G (zc_X9_isPeriod_atx l E fd td σ ) zk_X9_isPeriod zm_444 rfl ⟨(Nat.le_of_ble_eq_true rfl), (Nat.le_of_ble_eq_true rfl)⟩ ⟨Nat.zero_le _, Nat.zero_le _⟩ (Nat.le_of_ble_eq_true rfl) dX9_spans_9 (fun r_9 σ h_9 => ?_)
    obtain ⟨h_9, rfl⟩ := h_9
    refine zv_if_ne (tgt := 17) G dX9_spans_12 (by decide) (fun c_12 => ?_) (fun c_12 => ?_)
    · have t_9 := h_9.2.mp c_12
      refine zv_aload_n (j := 0) G dX9_spans_17 rfl rfl ?_
      refine zg_X9_10 G dX9_spans_18 ?_
      refine zv_iload_n (j := 1) G dX9_spans_21 rfl rfl ?_
      refine zv_callVNr (as := [za_I t]) G (by decide) rfl rfl (zc_X4_table_atx l E 1 t σ (wz01i t_1)) zk_X4_table zm_453 rfl ⟨(Nat.le_of_ble_eq_true rfl), (Nat.le_of_ble_eq_true rfl)⟩ ⟨Nat.zero_le _, Nat.zero_le _⟩ (Nat.le_of_ble_eq_true rfl) dX9_spans_22 (fun r_22 σ h_22 => ?_)
      obtain ⟨w_22, rfl, h_w_22, t_22, rfl⟩ := h_22
      refine zv_astore (lv' := [(4, za_O 2 w_22), (0, za_O 0 0), (1, za_I t), (2, za_I fd), (3, za_I td)]) G dX9_spans_25 (by decide) rfl ?_
      refine zv_aload_n (j := 1) G dX9_spans_27 rfl rfl ?_
      refine zg_X9_54 G dX9_spans_28 ?_
      refine zv_callVNv (as := []) G (by decide) rfl rfl (zc_X1_clear_atx l E 85 σ ) zk_X1_clear zm_577 rfl ⟨(Nat.le_of_ble_eq_true rfl), (Nat.le_of_ble_eq_true rfl)⟩ ⟨Nat.zero_le _, Nat.zero_le _⟩ (Nat.le_of_ble_eq_true rfl) dX9_spans_31 (fun σ h_31 => ?_)
      have hz : wzE σ ∧ wzLn σ := ⟨wzE_w hz h_31.1, h_31.2⟩
      refine zv_aload_n (j := 1) G dX9_spans_34 rfl rfl ?_
      refine zv_aload (j := 0) G dX9_spans_35 rfl ?_
      refine zv_iconst (v := (-1)) G dX9_spans_37 (by decide) ?_
      refine zv_iload_n (j := 3) G dX9_spans_38 rfl rfl ?_
      refine zv_iload_n (j := 4) G dX9_spans_39 rfl rfl ?_
      refine zv_callVi (as := [za_O 2 w_22, za_I (-1), za_I fd, za_I td]) G (by decide) rfl rfl (zc_X9_fewestBehind_at0 l E w_22 fd td σ (wzE_t hz.1 (wz01i t_1) t_22) hz.2 t_9) zk_X9_fewestBehind zm_878 rfl ⟨(Nat.le_of_ble_eq_true rfl), (Nat.le_of_ble_eq_true rfl)⟩ ⟨Nat.zero_le _, Nat.zero_le _⟩ (Nat.le_of_ble_eq_true rfl) dX9_spans_40 (fun r_40 σ h_40 => ?_)
      obtain ⟨h_40, rfl⟩ := h_40
      refine zv_istore (lv' := [(5, za_I r_40), (4, za_O 2 w_22), (0, za_O 0 0), (1, za_I t), (2, za_I fd), (3, za_I td)]) G dX9_spans_43 (by decide) rfl ?_
      refine zv_iload (j := 0) G dX9_spans_45 rfl ?_
      refine zv_bipush (v := 20) G dX9_spans_47 (by decide) ?_
      refine zv_icmp_le (tgt := 55) G dX9_spans_49 (by decide) (fun c_49 => ?_) (fun c_49 => ?_)
      · exact absurd c_49 (by rw [h_40]; decide)
      · have k_49 := z_cnle c_49 (a := r_40.toInt) (b := 20) rfl rfl
        refine zv_bipush (v := (-2)) G dX9_spans_52 (by decide) ?_
        exact zv_iret G hr dX9_spans_54 ⟨wzAn_y ⟨t_1, t_9⟩, wzE_z hz.1⟩
    · have f_9 := fun q9 => (h_9.2.mpr q9) c_12
      refine zv_iconst (v := (-1)) G dX9_spans_15 (by decide) ?_
      exact zv_iret G hr dX9_spans_16 ⟨(wzAn_n (fun q => by first | exact f_1 (by omega) | exact f_9 (by omega))), wzE_z hz⟩
set_option maxHeartbeats 4000000 in
set_option maxRecDepth 100000 in
theorem zc_X9_users_at0 (l : Launch) (E : za_E) (k : Int32) (σ0 : za_S) (h0 : wzE σ0) : zMi l E yX9_users cX9_users 5 (Option.some Jvm.ClassFile.FieldType.int) 4 89 [za_O 0 0, za_I k] σ0 (fun r σ' => wzAn ((0 ≤ k.toInt ∧ k.toInt ≤ 9)) 0 (-1) r ∧ wzZ σ') := by
  refine zMi_of [(0, za_O 0 0), (1, za_I k)] (by decide) rfl rfl (Nat.le_of_ble_eq_true rfl) ?_
  intro ho p e s m args below meth c G hr
  refine zv_gen (R9 := wzE) h0 (fun σ hz => ?_)
  refine zv_iload_n (j := 1) G dX9_users_0 rfl rfl ?_
  refine zv_callSi (as := [za_I k]) G (zc_X9_isKey_aty l E k σ ) zk_X9_isKey zm_441 rfl ⟨(Nat.le_of_ble_eq_true rfl), (Nat.le_of_ble_eq_true rfl)⟩ ⟨Nat.zero_le _, Nat.zero_le _⟩ (Nat.le_of_ble_eq_true rfl) dX9_users_1 (fun r_1 σ h_1 => ?_)
  obtain ⟨h_1, rfl⟩ := h_1
  refine zv_if_ne (tgt := 9) G dX9_users_4 (by decide) (fun c_4 => ?_) (fun c_4 => ?_)
  · have t_1 := h_1.2.mp c_4
    refine zv_iconst (v := 0) G dX9_users_9 (by decide) ?_
    refine zv_istore_n (lv' := [(2, za_I 0), (0, za_O 0 0), (1, za_I k)]) G dX9_users_10 rfl (by decide) rfl ?_
    refine zv_aload_n (j := 1) G dX9_users_11 rfl rfl ?_
    refine zg_X9_54 G dX9_users_12 ?_
    refine zv_callVNv (as := []) G (by decide) rfl rfl (zc_X1_clear_atx l E 85 σ ) zk_X1_clear zm_577 rfl ⟨(Nat.le_of_ble_eq_true rfl), (Nat.le_of_ble_eq_true rfl)⟩ ⟨Nat.zero_le _, Nat.zero_le _⟩ (Nat.le_of_ble_eq_true rfl) dX9_users_15 (fun σ h_15 => ?_)
    have hz : wzE σ ∧ wzLn σ := ⟨wzE_w hz h_15.1, h_15.2⟩
    refine zv_iconst (v := 0) G dX9_users_18 (by decide) ?_
    refine zv_istore_n (lv' := [(3, za_I 0), (2, za_I 0), (0, za_O 0 0), (1, za_I k)]) G dX9_users_19 rfl (by decide) rfl ?_
    refine zv_iload_n (j := 0) G dX9_users_20 rfl rfl ?_
    refine zv_aload_n (j := 2) G dX9_users_21 rfl rfl ?_
    refine zg_X9_10 G dX9_users_22 ?_
    refine zg_X9_102 G dX9_users_25 ?_
    refine zg_X9_106 G dX9_users_28 ?_
    refine zv_icmp_ge (tgt := 91) G dX9_users_31 (by decide) (fun c_31 => ?_) (fun c_31 => ?_)
    · have k_31 := z_cle c_31 (a := (σ.1 2 1).toInt) (b := 0) rfl rfl
      refine zv_iconst (v := 0) G dX9_users_91 (by decide) ?_
      refine zv_istore_n (lv' := [(3, za_I 0), (2, za_I 0), (0, za_O 0 0), (1, za_I k)]) G dX9_users_92 rfl (by decide) rfl ?_
      refine zv_iconst (v := 0) G dX9_users_93 (by decide) ?_
      refine zv_istore (lv' := [(4, za_I 0), (3, za_I 0), (2, za_I 0), (0, za_O 0 0), (1, za_I k)]) G dX9_users_94 (by decide) rfl ?_
      refine zv_iload (j := 0) G dX9_users_96 rfl ?_
      refine zv_aload_n (j := 3) G dX9_users_98 rfl rfl ?_
      refine zg_X9_10 G dX9_users_99 ?_
      refine zg_X9_179 G dX9_users_102 ?_
      refine zg_X9_106 G dX9_users_105 ?_
      refine zv_icmp_ge (tgt := 173) G dX9_users_108 (by decide) (fun c_108 => ?_) (fun c_108 => ?_)
      · have k_108 := z_cle c_108 (a := (σ.1 4 1).toInt) (b := 0) rfl rfl
        refine zv_aload_n (j := 3) G dX9_users_173 rfl rfl ?_
        refine zg_X9_40 G dX9_users_174 ?_
        refine zv_aload_n (j := 3) G dX9_users_177 rfl rfl ?_
        refine zg_X9_54 G dX9_users_178 ?_
        refine zv_iconst (v := 0) G dX9_users_181 (by decide) ?_
        refine zv_bipush (v := 100) G dX9_users_182 (by decide) ?_
        refine zv_callVNi (as := [za_I 0, za_I 100]) G (by decide) rfl rfl (zc_X1_daysMarked l E 85 (0 : Int32) (100 : Int32) σ ) zk_X1_daysMarked zm_886 rfl ⟨(Nat.le_of_ble_eq_true rfl), (Nat.le_of_ble_eq_true rfl)⟩ ⟨Nat.zero_le _, Nat.zero_le _⟩ (Nat.le_of_ble_eq_true rfl) dX9_users_184 (fun r_184 σ h_184 => ?_)
        subst h_184
        refine zv_i2l G dX9_users_187 ?_
        refine zv_iload_n (j := 1) G dX9_users_188 rfl rfl ?_
        refine zv_i2l G dX9_users_189 ?_
        refine zv_callVNv (as := [za_L r_184.toInt64, za_L ((0 : Int32).toInt64)]) G (by decide) rfl rfl (zc_X8_tell__atx l E r_184.toInt64 ((0 : Int32).toInt64) σ ) zk_X8_tell_ zm_608 rfl ⟨(Nat.le_of_ble_eq_true rfl), (Nat.le_of_ble_eq_true rfl)⟩ ⟨Nat.zero_le _, Nat.zero_le _⟩ (Nat.le_of_ble_eq_true rfl) dX9_users_190 (fun σ h_190 => ?_)
        have hz : wzE σ := wzE_l hz.1 h_190
        refine zv_iload_n (j := 2) G dX9_users_193 rfl rfl ?_
        exact zv_iret G hr dX9_users_194 ⟨wzAn_y t_1, wzE_z hz⟩
      · exact absurd (show (σ.1 4 1) ≤ 0 by rw [hz.1.1.2.1]; decide) c_108
    · exact absurd (show (σ.1 2 1) ≤ 0 by rw [hz.1.1.1]; decide) c_31
  · have f_1 := fun q9 => (h_1.2.mpr q9) c_4
    refine zv_iconst (v := (-1)) G dX9_users_7 (by decide) ?_
    exact zv_iret G hr dX9_users_8 ⟨(wzAn_n (fun q => by first | exact f_1 (by omega))), wzE_z hz⟩
set_option maxHeartbeats 4000000 in
set_option maxRecDepth 100000 in
theorem zc_X9_drags_at0 (l : Launch) (E : za_E) (k : Int32) (fd : Int32) (td : Int32) (σ0 : za_S) (h0 : wzE σ0) : zMi l E yX9_drags cX9_drags 8 (Option.some Jvm.ClassFile.FieldType.int) 6 136 [za_O 0 0, za_I k, za_I fd, za_I td] σ0 (fun r σ' => wzAn ((0 ≤ k.toInt ∧ k.toInt ≤ 9) ∧ (0 ≤ fd.toInt ∧ fd.toInt ≤ 99) ∧ fd.toInt < td.toInt ∧ td.toInt ≤ 100) (-2) (-1) r ∧ wzZ σ') := by
  refine zMi_of [(0, za_O 0 0), (1, za_I k), (2, za_I fd), (3, za_I td)] (by decide) rfl rfl (Nat.le_of_ble_eq_true rfl) ?_
  intro ho p e s m args below meth c G hr
  refine zv_gen (R9 := wzE) h0 (fun σ hz => ?_)
  refine zv_iconst (v := 1) G dX9_drags_0 (by decide) ?_
  refine zv_iload_n (j := 1) G dX9_drags_1 rfl rfl ?_
  refine zv_iload_n (j := 2) G dX9_drags_2 rfl rfl ?_
  refine zv_iload_n (j := 3) G dX9_drags_3 rfl rfl ?_
  refine zv_callSi (as := [za_I 1, za_I k, za_I fd, za_I td]) G (zc_X9_isPortion_aty l E (1 : Int32) k fd td σ ) zk_X9_isPortion zm_435 rfl ⟨(Nat.le_of_ble_eq_true rfl), (Nat.le_of_ble_eq_true rfl)⟩ ⟨Nat.zero_le _, Nat.zero_le _⟩ (Nat.le_of_ble_eq_true rfl) dX9_drags_4 (fun r_4 σ h_4 => ?_)
  obtain ⟨h_4, rfl⟩ := h_4
  refine zv_if_ne (tgt := 12) G dX9_drags_7 (by decide) (fun c_7 => ?_) (fun c_7 => ?_)
  · have t_4 := h_4.2.mp c_7
    have p9 := t_4.2
    refine zv_aload_n (j := 0) G dX9_drags_12 rfl rfl ?_
    refine zg_X9_10 G dX9_drags_13 ?_
    refine zg_X9_179 G dX9_drags_16 ?_
    refine zv_iload_n (j := 1) G dX9_drags_19 rfl rfl ?_
    refine zv_iload_n (j := 2) G dX9_drags_20 rfl rfl ?_
    refine zv_iload_n (j := 3) G dX9_drags_21 rfl rfl ?_
    refine zv_callVNi (as := [za_I k, za_I fd, za_I td]) G (by decide) rfl rfl (zc_X6_touching_atx l E 4 k fd td [] σ (wzTb_0 hz.1.2.1) wzOk_n (by omega)) zk_X6_touching zm_457 rfl ⟨(Nat.le_of_ble_eq_true rfl), (Nat.le_of_ble_eq_true rfl)⟩ ⟨Nat.zero_le _, Nat.zero_le _⟩ (Nat.le_of_ble_eq_true rfl) dX9_drags_22 (fun r_22 σ h_22 => ?_)
    obtain ⟨h_22, rfl⟩ := h_22
    refine zv_if_ne (tgt := 31) G dX9_drags_25 (by decide) (fun c_25 => ?_) (fun c_25 => ?_)
    · exact absurd (wzr0 h_22) c_25
    · refine zv_bipush (v := (-2)) G dX9_drags_28 (by decide) ?_
      exact zv_iret G hr dX9_drags_30 ⟨wzAn_y t_4.2, wzE_z hz⟩
  · have f_4 := fun q9 => (h_4.2.mpr q9) c_7
    refine zv_iconst (v := (-1)) G dX9_drags_10 (by decide) ?_
    exact zv_iret G hr dX9_drags_11 ⟨wzAn_n (fun q => f_4 ⟨by decide, q⟩), wzE_z hz⟩
set_option maxHeartbeats 4000000 in
set_option maxRecDepth 100000 in
theorem zc_X9_differs_at0 (l : Launch) (E : za_E) (t : Int32) (i : Int32) (σ0 : za_S) (h0 : wzE σ0) : zMi l E yX9_differs cX9_differs 5 (Option.some Jvm.ClassFile.FieldType.int) 2 41 [za_O 0 0, za_I t, za_I i] σ0 (fun r σ' => wzAn ((0 ≤ t.toInt ∧ t.toInt ≤ 1) ∧ (0 ≤ i.toInt ∧ i.toInt ≤ 1)) (-2) (-1) r ∧ wzZ σ') := by
  refine zMi_of [(0, za_O 0 0), (1, za_I t), (2, za_I i)] (by decide) rfl rfl (Nat.le_of_ble_eq_true rfl) ?_
  intro ho p e s m args below meth c G hr
  refine zv_gen (R9 := wzE) h0 (fun σ hz => ?_)
  refine zv_iload_n (j := 1) G dX9_differs_0 rfl rfl ?_
  refine zv_callSi (as := [za_I t]) G (zc_X9_isTable_aty l E t σ ) zk_X9_isTable zm_438 rfl ⟨(Nat.le_of_ble_eq_true rfl), (Nat.le_of_ble_eq_true rfl)⟩ ⟨Nat.zero_le _, Nat.zero_le _⟩ (Nat.le_of_ble_eq_true rfl) dX9_differs_1 (fun r_1 σ h_1 => ?_)
  obtain ⟨h_1, rfl⟩ := h_1
  refine zv_if_eq (tgt := 14) G dX9_differs_4 (by decide) (fun c_4 => ?_) (fun c_4 => ?_)
  · have f_1 := fun q9 => (h_1.2.mpr q9) c_4
    refine zv_iconst (v := (-1)) G dX9_differs_14 (by decide) ?_
    exact zv_iret G hr dX9_differs_15 ⟨(wzAn_n (fun q => by first | exact f_1 (by omega) | exact f_8 (by omega))), wzE_z hz⟩
  · have t_1 := h_1.2.mp c_4
    refine zv_iload_n (j := 2) G dX9_differs_7 rfl rfl ?_
    refine zv_callSi (as := [za_I i]) G (zc_X9_isKeptNumber_aty l E i σ ) zk_X9_isKeptNumber zm_1012 rfl ⟨(Nat.le_of_ble_eq_true rfl), (Nat.le_of_ble_eq_true rfl)⟩ ⟨Nat.zero_le _, Nat.zero_le _⟩ (Nat.le_of_ble_eq_true rfl) dX9_differs_8 (fun r_8 σ h_8 => ?_)
    obtain ⟨h_8, rfl⟩ := h_8
    refine zv_if_ne (tgt := 16) G dX9_differs_11 (by decide) (fun c_11 => ?_) (fun c_11 => ?_)
    · have t_8 := h_8.2.mp c_11
      refine zv_aload_n (j := 0) G dX9_differs_16 rfl rfl ?_
      refine zg_X9_26 G dX9_differs_17 ?_
      refine zv_iload_n (j := 2) G dX9_differs_20 rfl rfl ?_
      refine zv_aald (kd2 := 1) (b := 69) (r := 5) G (by decide) (by decide) rfl (z_in (by omega) (by omega)) (by decide +kernel) dX9_differs_21 ?_
      refine zg_X9_378 G dX9_differs_22 ?_
      refine zv_if_ne (tgt := 31) G dX9_differs_25 (by decide) (fun c_25 => ?_) (fun c_25 => ?_)
      · exact absurd (wzE_k hz t_8) c_25
      · have k_25 := z_ceq c_25 (a := (σ.1 (69 + 5 * i.toNatClampNeg) 3).toInt) (b := 0) rfl rfl
        refine zv_bipush (v := (-2)) G dX9_differs_28 (by decide) ?_
        exact zv_iret G hr dX9_differs_30 ⟨wzAn_y ⟨t_1, t_8⟩, wzE_z hz⟩
    · have f_8 := fun q9 => (h_8.2.mpr q9) c_11
      refine zv_iconst (v := (-1)) G dX9_differs_14 (by decide) ?_
      exact zv_iret G hr dX9_differs_15 ⟨(wzAn_n (fun q => by first | exact f_1 (by omega) | exact f_8 (by omega))), wzE_z hz⟩
set_option maxHeartbeats 4000000 in
set_option maxRecDepth 100000 in
theorem zc_X9_rowsThatFit_at0 (l : Launch) (E : za_E)  (σ : za_S) (h0 : wzE σ) : zMi l E yX9_rowsThatFit cX9_rowsThatFit 3 (Option.some Jvm.ClassFile.FieldType.int) 1 21 [za_O 0 0] σ (fun r σ' => (r = 0) ∧ σ' = σ) := by
  refine zMi_of [(0, za_O 0 0)] (by decide) rfl rfl (Nat.le_of_ble_eq_true rfl) ?_
  intro ho p e s m args below meth c G hr
  refine zv_iconst (v := 1) G dX9_rowsThatFit_0 (by decide) ?_
  refine zv_aload_n (j := 0) G dX9_rowsThatFit_1 rfl rfl ?_
  refine zg_X9_10 G dX9_rowsThatFit_2 ?_
  refine zg_X9_102 G dX9_rowsThatFit_5 ?_
  refine zg_X9_106 G dX9_rowsThatFit_8 ?_
  refine zv_ishl G dX9_rowsThatFit_11 ?_
  refine zv_iconst (v := 1) G dX9_rowsThatFit_12 (by decide) ?_
  refine zv_isub G dX9_rowsThatFit_13 ?_
  refine zv_top (fun x_14 e_14 => ?_)
  first | have q_14 := z_subf e_14 (a := (1 <<< ((σ.1 2 1) &&& 31)).toInt) (b := 1) rfl rfl (by omega) (by omega) | skip
  refine zv_istore_n (lv' := [(1, za_I x_14), (0, za_O 0 0)]) G dX9_rowsThatFit_14 rfl (by decide) rfl ?_
  refine zv_iconst (v := 0) G dX9_rowsThatFit_15 (by decide) ?_
  refine zv_istore_n (lv' := [(2, za_I 0), (1, za_I x_14), (0, za_O 0 0)]) G dX9_rowsThatFit_16 rfl (by decide) rfl ?_
  refine zv_iload_n (j := 0) G dX9_rowsThatFit_17 rfl rfl ?_
  refine zv_aload_n (j := 2) G dX9_rowsThatFit_18 rfl rfl ?_
  refine zg_X9_47 G dX9_rowsThatFit_19 ?_
  refine zg_X9_392 G dX9_rowsThatFit_22 ?_
  refine zv_icmp_ge (tgt := 49) G dX9_rowsThatFit_25 (by decide) (fun c_25 => ?_) (fun c_25 => ?_)
  · have k_25 := z_cle c_25 (a := (σ.1 83 1).toInt) (b := 0) rfl rfl
    refine zv_iload_n (j := 1) G dX9_rowsThatFit_49 rfl rfl ?_
    exact zv_iret G hr dX9_rowsThatFit_50 ⟨(by rw [e_14, h0.1.1]; decide), rfl⟩
  · exact absurd (show (σ.1 83 1) ≤ 0 by rw [h0.2.2.2.1]; decide) c_25
set_option maxHeartbeats 4000000 in
set_option maxRecDepth 100000 in
theorem zc_J6_bitCount_0f7a4_at0 (l : Launch) (E : za_E)  (σ : za_S)  : zMi l E yJ6_bitCount_0f7a4 cJ6_bitCount_0f7a4 1 (Option.some Jvm.ClassFile.FieldType.int) 1 21 [za_I 0] σ (fun r σ' => (r = 0) ∧ σ' = σ) := by
  refine zMiF_of [(0, za_I 0)] (by decide +kernel) rfl rfl (Nat.le_of_ble_eq_true rfl) ?_
  intro ho p e s m args below meth c G hr
  refine zv_iload_n (j := 0) G dJ6_bitCount_0f7a4_0 rfl rfl ?_
  refine zv_iload_n (j := 0) G dJ6_bitCount_0f7a4_1 rfl rfl ?_
  refine zv_iconst (v := 1) G dJ6_bitCount_0f7a4_2 (by decide) ?_
  refine zv_iushr G dJ6_bitCount_0f7a4_3 ?_
  refine zv_ldc_w (v := 1431655765) G dJ6_bitCount_0f7a4_4 zm_1005 ?_
  refine zv_iand G dJ6_bitCount_0f7a4_7 ?_
  refine zv_isub G dJ6_bitCount_0f7a4_8 ?_
  refine zv_top (fun x_9 e_9 => ?_)
  refine zv_istore_n (lv' := [(0, za_I x_9)]) G dJ6_bitCount_0f7a4_9 rfl (by decide) rfl ?_
  refine zv_iload_n (j := 0) G dJ6_bitCount_0f7a4_10 rfl rfl ?_
  refine zv_ldc_w (v := 858993459) G dJ6_bitCount_0f7a4_11 zm_1006 ?_
  refine zv_iand G dJ6_bitCount_0f7a4_14 ?_
  refine zv_iload_n (j := 0) G dJ6_bitCount_0f7a4_15 rfl rfl ?_
  refine zv_iconst (v := 2) G dJ6_bitCount_0f7a4_16 (by decide) ?_
  refine zv_iushr G dJ6_bitCount_0f7a4_17 ?_
  refine zv_ldc_w (v := 858993459) G dJ6_bitCount_0f7a4_18 zm_1006 ?_
  refine zv_iand G dJ6_bitCount_0f7a4_21 ?_
  refine zv_iadd G dJ6_bitCount_0f7a4_22 ?_
  refine zv_top (fun x_23 e_23 => ?_)
  refine zv_istore_n (lv' := [(0, za_I x_23)]) G dJ6_bitCount_0f7a4_23 rfl (by decide) rfl ?_
  refine zv_iload_n (j := 0) G dJ6_bitCount_0f7a4_24 rfl rfl ?_
  refine zv_iload_n (j := 0) G dJ6_bitCount_0f7a4_25 rfl rfl ?_
  refine zv_iconst (v := 4) G dJ6_bitCount_0f7a4_26 (by decide) ?_
  refine zv_iushr G dJ6_bitCount_0f7a4_27 ?_
  refine zv_iadd G dJ6_bitCount_0f7a4_28 ?_
  refine zv_ldc_w (v := 252645135) G dJ6_bitCount_0f7a4_29 zm_1007 ?_
  refine zv_iand G dJ6_bitCount_0f7a4_32 ?_
  refine zv_top (fun x_33 e_33 => ?_)
  refine zv_istore_n (lv' := [(0, za_I x_33)]) G dJ6_bitCount_0f7a4_33 rfl (by decide) rfl ?_
  refine zv_iload_n (j := 0) G dJ6_bitCount_0f7a4_34 rfl rfl ?_
  refine zv_iload_n (j := 0) G dJ6_bitCount_0f7a4_35 rfl rfl ?_
  refine zv_bipush (v := 8) G dJ6_bitCount_0f7a4_36 (by decide) ?_
  refine zv_iushr G dJ6_bitCount_0f7a4_38 ?_
  refine zv_iadd G dJ6_bitCount_0f7a4_39 ?_
  refine zv_top (fun x_40 e_40 => ?_)
  refine zv_istore_n (lv' := [(0, za_I x_40)]) G dJ6_bitCount_0f7a4_40 rfl (by decide) rfl ?_
  refine zv_iload_n (j := 0) G dJ6_bitCount_0f7a4_41 rfl rfl ?_
  refine zv_iload_n (j := 0) G dJ6_bitCount_0f7a4_42 rfl rfl ?_
  refine zv_bipush (v := 16) G dJ6_bitCount_0f7a4_43 (by decide) ?_
  refine zv_iushr G dJ6_bitCount_0f7a4_45 ?_
  refine zv_iadd G dJ6_bitCount_0f7a4_46 ?_
  refine zv_top (fun x_47 e_47 => ?_)
  refine zv_istore_n (lv' := [(0, za_I x_47)]) G dJ6_bitCount_0f7a4_47 rfl (by decide) rfl ?_
  refine zv_iload_n (j := 0) G dJ6_bitCount_0f7a4_48 rfl rfl ?_
  refine zv_bipush (v := 63) G dJ6_bitCount_0f7a4_49 (by decide) ?_
  refine zv_iand G dJ6_bitCount_0f7a4_51 ?_
  exact zv_iret G hr dJ6_bitCount_0f7a4_52 ⟨(by subst_vars; decide), rfl⟩
set_option maxHeartbeats 4000000 in
set_option maxRecDepth 100000 in
theorem zc_X9_fits_at0 (l : Launch) (E : za_E)  (σ0 : za_S) (h0 : wzE σ0) : zMi l E yX9_fits cX9_fits 2 (Option.some Jvm.ClassFile.FieldType.int) 3 65 [za_O 0 0] σ0 (fun r σ' => r = 0 ∧ wzZ σ') := by
  refine zMi_of [(0, za_O 0 0)] (by decide) rfl rfl (Nat.le_of_ble_eq_true rfl) ?_
  intro ho p e s m args below meth c G hr
  refine zv_gen (R9 := wzE) h0 (fun σ hz => ?_)
  refine zv_aload_n (j := 0) G dX9_fits_0 rfl rfl ?_
  refine zv_callVi (as := []) G (by decide) rfl rfl (zc_X9_rowsThatFit_at0 l E  σ hz) zk_X9_rowsThatFit zm_1039 rfl ⟨(Nat.le_of_ble_eq_true rfl), (Nat.le_of_ble_eq_true rfl)⟩ ⟨Nat.zero_le _, Nat.zero_le _⟩ (Nat.le_of_ble_eq_true rfl) dX9_fits_1 (fun r_1 σ h_1 => ?_)
  obtain ⟨h_1, rfl⟩ := h_1
  refine zv_istore_n (lv' := [(1, za_I r_1), (0, za_O 0 0)]) G dX9_fits_4 rfl (by decide) rfl ?_
  refine zv_aload_n (j := 1) G dX9_fits_5 rfl rfl ?_
  refine zg_X9_40 G dX9_fits_6 ?_
  refine zv_iload_n (j := 0) G dX9_fits_9 rfl rfl ?_
  refine zv_callSi (as := [za_I r_1]) G (zc_J6_bitCount_0f7a4 l E r_1 σ ) zk_J6_bitCount_0f7a4 zm_1002 rfl ⟨(Nat.le_of_ble_eq_true rfl), (Nat.le_of_ble_eq_true rfl)⟩ ⟨Nat.zero_le _, Nat.zero_le _⟩ (Nat.le_of_ble_eq_true rfl) dX9_fits_10 (fun r_10 σ h_10 => ?_)
  subst h_10
  refine zv_i2l G dX9_fits_13 ?_
  refine zv_callVNv (as := [za_L r_10.toInt64]) G (by decide) rfl rfl (zc_X8_tell_atx l E r_10.toInt64 σ ) zk_X8_tell zm_527 rfl ⟨(Nat.le_of_ble_eq_true rfl), (Nat.le_of_ble_eq_true rfl)⟩ ⟨Nat.zero_le _, Nat.zero_le _⟩ (Nat.le_of_ble_eq_true rfl) dX9_fits_14 (fun σ h_14 => ?_)
  have hz9 := h_14
  have hz := wzE_l hz hz9
  refine zv_iload_n (j := 0) G dX9_fits_17 rfl rfl ?_
  exact zv_iret G hr dX9_fits_18 ⟨h_1, wzE_z hz⟩
set_option maxHeartbeats 4000000 in
set_option maxRecDepth 100000 in
theorem zc_X9_asks_at0 (l : Launch) (E : za_E)  (σ0 : za_S) (h0 : wzE σ0) : zMi l E yX9_asks cX9_asks 8 (Option.some Jvm.ClassFile.FieldType.int) 2 43 [za_O 0 0] σ0 (fun r σ' => r = -2 ∧ wzZ σ') := by
  refine zMi_of [(0, za_O 0 0)] (by decide) rfl rfl (Nat.le_of_ble_eq_true rfl) ?_
  intro ho p e s m args below meth c G hr
  refine zv_gen (R9 := wzE) h0 (fun σ hz => ?_)
  refine zv_aload_n (j := 0) G dX9_asks_0 rfl rfl ?_
  refine zv_callVi (as := []) G (by decide) rfl rfl (zc_X9_rowsThatFit_at0 l E  σ hz) zk_X9_rowsThatFit zm_1039 rfl ⟨(Nat.le_of_ble_eq_true rfl), (Nat.le_of_ble_eq_true rfl)⟩ ⟨Nat.zero_le _, Nat.zero_le _⟩ (Nat.le_of_ble_eq_true rfl) dX9_asks_1 (fun r_1 σ h_1 => ?_)
  obtain ⟨h_1, rfl⟩ := h_1
  subst h_1
  refine zv_istore_n (lv' := [(1, za_I 0), (0, za_O 0 0)]) G dX9_asks_4 rfl (by decide) rfl ?_
  refine zv_iload_n (j := 0) G dX9_asks_5 rfl rfl ?_
  refine zv_callSi (as := [za_I 0]) G (zc_J6_bitCount_0f7a4_at0 l E  σ ) zk_J6_bitCount_0f7a4 zm_1002 rfl ⟨(Nat.le_of_ble_eq_true rfl), (Nat.le_of_ble_eq_true rfl)⟩ ⟨Nat.zero_le _, Nat.zero_le _⟩ (Nat.le_of_ble_eq_true rfl) dX9_asks_6 (fun r_6 σ h_6 => ?_)
  obtain ⟨h_6, rfl⟩ := h_6
  refine zv_istore_n (lv' := [(2, za_I r_6), (1, za_I 0), (0, za_O 0 0)]) G dX9_asks_9 rfl (by decide) rfl ?_
  refine zv_iload_n (j := 0) G dX9_asks_10 rfl rfl ?_
  refine zv_if_ne (tgt := 17) G dX9_asks_11 (by decide) (fun c_11 => ?_) (fun c_11 => ?_)
  · exact absurd h_6 c_11
  · refine zv_bipush (v := (-2)) G dX9_asks_14 (by decide) ?_
    exact zv_iret G hr dX9_asks_16 ⟨rfl, wzE_z hz⟩
set_option maxHeartbeats 4000000 in
set_option maxRecDepth 100000 in
theorem zc_X6_allDays_at0 (l : Launch) (E : za_E) (w : Nat) (σ : za_S) (hs : σ.1 w 1 = 0) : zMi l E yX6_allDays cX6_allDays 3 (Option.some Jvm.ClassFile.FieldType.int) 1 21 [za_O 2 w] σ (fun r σ' => (r = 0) ∧ σ' = σ) := by
  refine zMi_of [(0, za_O 2 w)] (by decide) rfl rfl (Nat.le_of_ble_eq_true rfl) ?_
  intro ho p e s m args below meth c G hr
  have h_w : za_kd w = 2 := za_okO (by decide) (List.forall_mem_cons.mp ho).1
  refine zv_iconst (v := 0) G dX6_allDays_0 (by decide) ?_
  refine zv_istore_n (lv' := [(1, za_I 0), (0, za_O 2 w)]) G dX6_allDays_1 rfl (by decide) rfl ?_
  refine zv_iconst (v := 0) G dX6_allDays_2 (by decide) ?_
  refine zv_istore_n (lv' := [(2, za_I 0), (1, za_I 0), (0, za_O 2 w)]) G dX6_allDays_3 rfl (by decide) rfl ?_
  refine zv_iload_n (j := 0) G dX6_allDays_4 rfl rfl ?_
  refine zv_aload_n (j := 2) G dX6_allDays_5 rfl rfl ?_
  refine zg_X6_15 G dX6_allDays_6 ?_
  refine zv_icmp_ge (tgt := 26) G dX6_allDays_9 (by decide) (fun c_9 => ?_) (fun c_9 => ?_)
  · have k_9 := z_cle c_9 (a := (σ.1 w 1).toInt) (b := 0) rfl rfl
    refine zv_iload_n (j := 1) G dX6_allDays_26 rfl rfl ?_
    exact zv_iret G hr dX6_allDays_27 ⟨rfl, rfl⟩
  · exact absurd (show (σ.1 w 1) ≤ 0 by rw [hs]; decide) c_9
set_option maxHeartbeats 4000000 in
set_option maxRecDepth 100000 in
theorem zc_X6_rowsWithRef_at0 (l : Launch) (E : za_E) (w : Nat) (σ : za_S) (hs : σ.1 w 1 = 0) : zMi l E yX6_rowsWithRef cX6_rowsWithRef 3 (Option.some Jvm.ClassFile.FieldType.int) 1 21 [za_O 2 w] σ (fun r σ' => (r = 0) ∧ σ' = σ) := by
  refine zMi_of [(0, za_O 2 w)] (by decide) rfl rfl (Nat.le_of_ble_eq_true rfl) ?_
  intro ho p e s m args below meth c G hr
  have h_w : za_kd w = 2 := za_okO (by decide) (List.forall_mem_cons.mp ho).1
  refine zv_iconst (v := 0) G dX6_rowsWithRef_0 (by decide) ?_
  refine zv_istore_n (lv' := [(1, za_I 0), (0, za_O 2 w)]) G dX6_rowsWithRef_1 rfl (by decide) rfl ?_
  refine zv_iconst (v := 0) G dX6_rowsWithRef_2 (by decide) ?_
  refine zv_istore_n (lv' := [(2, za_I 0), (1, za_I 0), (0, za_O 2 w)]) G dX6_rowsWithRef_3 rfl (by decide) rfl ?_
  refine zv_iload_n (j := 0) G dX6_rowsWithRef_4 rfl rfl ?_
  refine zv_aload_n (j := 2) G dX6_rowsWithRef_5 rfl rfl ?_
  refine zg_X6_15 G dX6_rowsWithRef_6 ?_
  refine zv_icmp_ge (tgt := 32) G dX6_rowsWithRef_9 (by decide) (fun c_9 => ?_) (fun c_9 => ?_)
  · have k_9 := z_cle c_9 (a := (σ.1 w 1).toInt) (b := 0) rfl rfl
    refine zv_iload_n (j := 1) G dX6_rowsWithRef_32 rfl rfl ?_
    exact zv_iret G hr dX6_rowsWithRef_33 ⟨rfl, rfl⟩
  · exact absurd (show (σ.1 w 1) ≤ 0 by rw [hs]; decide) c_9
set_option maxHeartbeats 4000000 in
set_option maxRecDepth 100000 in
theorem zc_X9_count_at0 (l : Launch) (E : za_E) (a : Int32) (σ0 : za_S) (h0 : wzE σ0) (h81 : σ0.1 81 1 = 0) : zMi l E yX9_count cX9_count 2 (Option.some Jvm.ClassFile.FieldType.int) 2 43 [za_O 0 0, za_I a] σ0 (fun r σ' => wzAn (0 ≤ a.toInt ∧ a.toInt ≤ 9) 0 (-100) r ∧ wzZ σ') := by
  refine zMi_of [(0, za_O 0 0), (1, za_I a)] (by decide) rfl rfl (Nat.le_of_ble_eq_true rfl) ?_
  intro ho p e s m args below meth c G hr
  refine zv_gen (R9 := (fun σ => wzE σ ∧ σ.1 81 1 = 0)) ⟨h0, h81⟩ (fun σ hz => ?_)
  refine zv_iload_n (j := 1) G dX9_count_0 rfl rfl ?_
  rcases Decidable.em (a = 0) with q_1_0 | q_1_0
  · refine zv_tabIn (off := 55) (tgt := 56) G dX9_count_1 (by rw [q_1_0]; decide) (by rw [q_1_0]; decide) (by rw [q_1_0]; rfl) (by decide) ?_
    refine zv_aload_n (j := 0) G dX9_count_56 rfl rfl ?_
    refine zg_X9_10 G dX9_count_57 ?_
    refine zg_X9_102 G dX9_count_60 ?_
    refine zg_X9_106 G dX9_count_63 ?_
    exact zv_iret G hr dX9_count_66 ⟨wzAn_e (by rw [q_1_0]; decide) hz.1.1.1, wzE_z hz.1⟩
  rcases Decidable.em (a = 1) with q_1_1 | q_1_1
  · refine zv_tabIn (off := 66) (tgt := 67) G dX9_count_1 (by rw [q_1_1]; decide) (by rw [q_1_1]; decide) (by rw [q_1_1]; rfl) (by decide) ?_
    refine zv_aload_n (j := 0) G dX9_count_67 rfl rfl ?_
    refine zg_X9_10 G dX9_count_68 ?_
    refine zg_X9_179 G dX9_count_71 ?_
    refine zg_X9_106 G dX9_count_74 ?_
    exact zv_iret G hr dX9_count_77 ⟨wzAn_e (by rw [q_1_1]; decide) hz.1.1.2.1, wzE_z hz.1⟩
  rcases Decidable.em (a = 2) with q_1_2 | q_1_2
  · refine zv_tabIn (off := 77) (tgt := 78) G dX9_count_1 (by rw [q_1_2]; decide) (by rw [q_1_2]; decide) (by rw [q_1_2]; rfl) (by decide) ?_
    refine zv_aload_n (j := 0) G dX9_count_78 rfl rfl ?_
    refine zg_X9_10 G dX9_count_79 ?_
    refine zg_X9_238 G dX9_count_82 ?_
    exact zv_iret G hr dX9_count_85 ⟨wzAn_e (by rw [q_1_2]; decide) hz.1.1.2.2, wzE_z hz.1⟩
  rcases Decidable.em (a = 3) with q_1_3 | q_1_3
  · refine zv_tabIn (off := 85) (tgt := 86) G dX9_count_1 (by rw [q_1_3]; decide) (by rw [q_1_3]; decide) (by rw [q_1_3]; rfl) (by decide) ?_
    refine zv_aload_n (j := 0) G dX9_count_86 rfl rfl ?_
    refine zg_X9_10 G dX9_count_87 ?_
    refine zg_X9_102 G dX9_count_90 ?_
    refine zv_callVNi (as := []) G (by decide) rfl rfl (zc_X6_allDays_at0 l E 2 σ hz.1.1.1) zk_X6_allDays zm_812 rfl ⟨(Nat.le_of_ble_eq_true rfl), (Nat.le_of_ble_eq_true rfl)⟩ ⟨Nat.zero_le _, Nat.zero_le _⟩ (Nat.le_of_ble_eq_true rfl) dX9_count_93 (fun r_93 σ h_93 => ?_)
    obtain ⟨h_93, rfl⟩ := h_93
    exact zv_iret G hr dX9_count_96 ⟨wzAn_e (by rw [q_1_3]; decide) h_93, wzE_z hz.1⟩
  rcases Decidable.em (a = 4) with q_1_4 | q_1_4
  · refine zv_tabIn (off := 96) (tgt := 97) G dX9_count_1 (by rw [q_1_4]; decide) (by rw [q_1_4]; decide) (by rw [q_1_4]; rfl) (by decide) ?_
    refine zv_aload_n (j := 0) G dX9_count_97 rfl rfl ?_
    refine zg_X9_10 G dX9_count_98 ?_
    refine zg_X9_179 G dX9_count_101 ?_
    refine zv_callVNi (as := []) G (by decide) rfl rfl (zc_X6_allDays_at0 l E 4 σ hz.1.1.2.1) zk_X6_allDays zm_812 rfl ⟨(Nat.le_of_ble_eq_true rfl), (Nat.le_of_ble_eq_true rfl)⟩ ⟨Nat.zero_le _, Nat.zero_le _⟩ (Nat.le_of_ble_eq_true rfl) dX9_count_104 (fun r_104 σ h_104 => ?_)
    obtain ⟨h_104, rfl⟩ := h_104
    exact zv_iret G hr dX9_count_107 ⟨wzAn_e (by rw [q_1_4]; decide) h_104, wzE_z hz.1⟩
  rcases Decidable.em (a = 5) with q_1_5 | q_1_5
  · refine zv_tabIn (off := 107) (tgt := 108) G dX9_count_1 (by rw [q_1_5]; decide) (by rw [q_1_5]; decide) (by rw [q_1_5]; rfl) (by decide) ?_
    refine zv_aload_n (j := 0) G dX9_count_108 rfl rfl ?_
    refine zg_X9_10 G dX9_count_109 ?_
    refine zg_X9_102 G dX9_count_112 ?_
    refine zv_callVNi (as := []) G (by decide) rfl rfl (zc_X6_rowsWithRef_at0 l E 2 σ hz.1.1.1) zk_X6_rowsWithRef zm_1088 rfl ⟨(Nat.le_of_ble_eq_true rfl), (Nat.le_of_ble_eq_true rfl)⟩ ⟨Nat.zero_le _, Nat.zero_le _⟩ (Nat.le_of_ble_eq_true rfl) dX9_count_115 (fun r_115 σ h_115 => ?_)
    obtain ⟨h_115, rfl⟩ := h_115
    exact zv_iret G hr dX9_count_118 ⟨wzAn_e (by rw [q_1_5]; decide) h_115, wzE_z hz.1⟩
  rcases Decidable.em (a = 6) with q_1_6 | q_1_6
  · refine zv_tabIn (off := 118) (tgt := 119) G dX9_count_1 (by rw [q_1_6]; decide) (by rw [q_1_6]; decide) (by rw [q_1_6]; rfl) (by decide) ?_
    refine zv_aload_n (j := 0) G dX9_count_119 rfl rfl ?_
    refine zg_X9_47 G dX9_count_120 ?_
    refine zg_X9_392 G dX9_count_123 ?_
    exact zv_iret G hr dX9_count_126 ⟨wzAn_e (by rw [q_1_6]; decide) hz.1.2.2.2.1, wzE_z hz.1⟩
  rcases Decidable.em (a = 7) with q_1_7 | q_1_7
  · refine zv_tabIn (off := 126) (tgt := 127) G dX9_count_1 (by rw [q_1_7]; decide) (by rw [q_1_7]; decide) (by rw [q_1_7]; rfl) (by decide) ?_
    refine zv_aload_n (j := 0) G dX9_count_127 rfl rfl ?_
    refine zg_X9_22 G dX9_count_128 ?_
    refine zg_X9_186 G dX9_count_131 ?_
    exact zv_iret G hr dX9_count_134 ⟨wzAn_e (by rw [q_1_7]; decide) hz.1.2.2.1, wzE_z hz.1⟩
  rcases Decidable.em (a = 8) with q_1_8 | q_1_8
  · refine zv_tabIn (off := 134) (tgt := 135) G dX9_count_1 (by rw [q_1_8]; decide) (by rw [q_1_8]; decide) (by rw [q_1_8]; rfl) (by decide) ?_
    refine zv_aload_n (j := 0) G dX9_count_135 rfl rfl ?_
    refine zg_X9_40 G dX9_count_136 ?_
    refine zg_X9_386 G dX9_count_139 ?_
    exact zv_iret G hr dX9_count_142 ⟨wzAn_e (by rw [q_1_8]; decide) hz.2, wzE_z hz.1⟩
  rcases Decidable.em (a = 9) with q_1_9 | q_1_9
  · refine zv_tabIn (off := 142) (tgt := 143) G dX9_count_1 (by rw [q_1_9]; decide) (by rw [q_1_9]; decide) (by rw [q_1_9]; rfl) (by decide) ?_
    refine zv_aload_n (j := 0) G dX9_count_143 rfl rfl ?_
    refine zg_X9_33 G dX9_count_144 ?_
    refine zg_X9_79 G dX9_count_147 ?_
    exact zv_iret G hr dX9_count_150 ⟨wzAn_e (by rw [q_1_9]; decide) hz.1.2.1, wzE_z hz.1⟩
  have n_1_0 := lv_neT q_1_0 (a := 0) rfl
  have n_1_1 := lv_neT q_1_1 (a := 1) rfl
  have n_1_2 := lv_neT q_1_2 (a := 2) rfl
  have n_1_3 := lv_neT q_1_3 (a := 3) rfl
  have n_1_4 := lv_neT q_1_4 (a := 4) rfl
  have n_1_5 := lv_neT q_1_5 (a := 5) rfl
  have n_1_6 := lv_neT q_1_6 (a := 6) rfl
  have n_1_7 := lv_neT q_1_7 (a := 7) rfl
  have n_1_8 := lv_neT q_1_8 (a := 8) rfl
  have n_1_9 := lv_neT q_1_9 (a := 9) rfl
  refine zv_tabOut (tgt := 151) G dX9_count_1 (by omega) (by decide) ?_
  refine zv_bipush (v := (-100)) G dX9_count_151 (by decide) ?_
  exact zv_iret G hr dX9_count_153 ⟨wzAn_n (by omega), wzE_z hz.1⟩
set_option maxHeartbeats 4000000 in
set_option maxRecDepth 100000 in
theorem zc_X9_sheet_at0 (l : Launch) (E : za_E) (kd : Int32) (n : Int32) (f : Int32) (s9 : Int32) (σ0 : za_S) (h0 : wzE σ0) : zMi l E yX9_sheet cX9_sheet 9 (Option.some Jvm.ClassFile.FieldType.int) 1 21 [za_O 0 0, za_I kd, za_I n, za_I f, za_I s9] σ0 (fun r σ' => wzSh kd.toInt n.toInt r ∧ wzZ σ') := by
  refine zMi_of [(0, za_O 0 0), (1, za_I kd), (2, za_I n), (3, za_I f), (4, za_I s9)] (by decide) rfl rfl (Nat.le_of_ble_eq_true rfl) ?_
  intro ho p e s m args below meth c G hr
  refine zv_gen (R9 := wzE) h0 (fun σ hz => ?_)
  refine zv_iload_n (j := 1) G dX9_sheet_0 rfl rfl ?_
  refine zv_if_lt (tgt := 15) G dX9_sheet_1 (by decide) (fun c_1 => ?_) (fun c_1 => ?_)
  · have k_1 := z_clt c_1 (a := kd.toInt) (b := 0) rfl rfl
    refine zv_iconst (v := (-1)) G dX9_sheet_15 (by decide) ?_
    exact zv_iret G hr dX9_sheet_16 ⟨⟨fun _ => rfl, fun q => False.elim (by omega)⟩, wzE_z hz⟩
  · have k_1 := z_cnlt c_1 (a := kd.toInt) (b := 0) rfl rfl
    refine zv_iload_n (j := 1) G dX9_sheet_4 rfl rfl ?_
    refine zv_iconst (v := 3) G dX9_sheet_5 (by decide) ?_
    refine zv_icmp_gt (tgt := 15) G dX9_sheet_6 (by decide) (fun c_6 => ?_) (fun c_6 => ?_)
    · have k_6 := z_clt c_6 (a := 3) (b := kd.toInt) rfl rfl
      refine zv_iconst (v := (-1)) G dX9_sheet_15 (by decide) ?_
      exact zv_iret G hr dX9_sheet_16 ⟨⟨fun _ => rfl, fun q => False.elim (by omega)⟩, wzE_z hz⟩
    · have k_6 := z_cnlt c_6 (a := 3) (b := kd.toInt) rfl rfl
      refine zv_iload_n (j := 2) G dX9_sheet_9 rfl rfl ?_
      refine zv_bipush (v := 20) G dX9_sheet_10 (by decide) ?_
      refine zv_icmp_le (tgt := 17) G dX9_sheet_12 (by decide) (fun c_12 => ?_) (fun c_12 => ?_)
      · have k_12 := z_cle c_12 (a := n.toInt) (b := 20) rfl rfl
        refine zv_iload_n (j := 1) G dX9_sheet_17 rfl rfl ?_
        refine zv_iconst (v := 3) G dX9_sheet_18 (by decide) ?_
        refine zv_icmp_ne (tgt := 26) G dX9_sheet_19 (by decide) (fun c_19 => ?_) (fun c_19 => ?_)
        · have k_19 := z_cne c_19 (a := kd.toInt) (b := 3) rfl rfl
          refine zv_iconst (v := 0) G dX9_sheet_26 (by decide) ?_
          refine zv_istore (lv' := [(5, za_I 0), (0, za_O 0 0), (1, za_I kd), (2, za_I n), (3, za_I f), (4, za_I s9)]) G dX9_sheet_27 (by decide) rfl ?_
          refine zv_iload (j := 0) G dX9_sheet_29 rfl ?_
          refine zv_if_ne (tgt := 41) G dX9_sheet_31 (by decide) (fun c_31 => ?_) (fun c_31 => ?_)
          · exact absurd c_31 (by decide)
          · have k_31 := z_ceq c_31 (a := 0) (b := 0) rfl rfl
            refine zv_iload_n (j := 3) G dX9_sheet_34 rfl rfl ?_
            refine zv_if_ge (tgt := 41) G dX9_sheet_35 (by decide) (fun c_35 => ?_) (fun c_35 => ?_)
            · have k_35 := z_cle c_35 (a := 0) (b := n.toInt) rfl rfl
              refine zv_iconst (v := 0) G dX9_sheet_41 (by decide) ?_
              refine zv_istore (lv' := [(6, za_I 0), (5, za_I 0), (0, za_O 0 0), (1, za_I kd), (2, za_I n), (3, za_I f), (4, za_I s9)]) G dX9_sheet_42 (by decide) rfl ?_
              refine zv_iconst (v := 0) G dX9_sheet_44 (by decide) ?_
              refine zv_istore (lv' := [(7, za_I 0), (6, za_I 0), (5, za_I 0), (0, za_O 0 0), (1, za_I kd), (2, za_I n), (3, za_I f), (4, za_I s9)]) G dX9_sheet_45 (by decide) rfl ?_
              refine zv_iload (j := 0) G dX9_sheet_47 rfl ?_
              refine zv_aload_n (j := 3) G dX9_sheet_49 rfl rfl ?_
              refine zg_X9_10 G dX9_sheet_50 ?_
              refine zg_X9_102 G dX9_sheet_53 ?_
              refine zg_X9_106 G dX9_sheet_56 ?_
              refine zv_icmp_ge (tgt := 118) G dX9_sheet_59 (by decide) (fun c_59 => ?_) (fun c_59 => ?_)
              · have k_59 := z_cle c_59 (a := (σ.1 2 1).toInt) (b := 0) rfl rfl
                refine zv_iload (j := 2) G dX9_sheet_118 rfl ?_
                refine zv_if_eq (tgt := 128) G dX9_sheet_120 (by decide) (fun c_120 => ?_) (fun c_120 => ?_)
                · have k_120 := z_ceq c_120 (a := 0) (b := 0) rfl rfl
                  refine zv_iload (j := 1) G dX9_sheet_128 rfl ?_
                  exact zv_iret G hr dX9_sheet_130 ⟨⟨fun q => False.elim (by omega), fun _ => by first | exact ⟨fun q => False.elim (by omega), fun _ => rfl, fun q => False.elim (by omega)⟩ | exact ⟨fun q => False.elim (by omega), fun q => False.elim (by omega), fun _ => rfl⟩⟩, wzE_z hz⟩
                · exact absurd c_120 (by decide)
              · exact absurd (show (σ.1 2 1) ≤ 0 by rw [hz.1.1]; decide) c_59
            · have k_35 := z_cnle c_35 (a := 0) (b := n.toInt) rfl rfl
              refine zv_bipush (v := (-2)) G dX9_sheet_38 (by decide) ?_
              exact zv_iret G hr dX9_sheet_40 ⟨⟨fun q => False.elim (by omega), fun _ => ⟨fun _ => rfl, fun q => False.elim (by omega), fun q => False.elim (by omega)⟩⟩, wzE_z hz⟩
        · have k_19 := z_ceq c_19 (a := kd.toInt) (b := 3) rfl rfl
          refine zv_iconst (v := 1) G dX9_sheet_22 (by decide) ?_
          refine zv_goto (tgt := 27) G dX9_sheet_23 (by decide) ?_
          refine zv_istore (lv' := [(5, za_I 1), (0, za_O 0 0), (1, za_I kd), (2, za_I n), (3, za_I f), (4, za_I s9)]) G dX9_sheet_27 (by decide) rfl ?_
          refine zv_iload (j := 0) G dX9_sheet_29 rfl ?_
          refine zv_if_ne (tgt := 41) G dX9_sheet_31 (by decide) (fun c_31 => ?_) (fun c_31 => ?_)
          · have k_31 := z_cne c_31 (a := 1) (b := 0) rfl rfl
            refine zv_iconst (v := 0) G dX9_sheet_41 (by decide) ?_
            refine zv_istore (lv' := [(6, za_I 0), (5, za_I 1), (0, za_O 0 0), (1, za_I kd), (2, za_I n), (3, za_I f), (4, za_I s9)]) G dX9_sheet_42 (by decide) rfl ?_
            refine zv_iconst (v := 0) G dX9_sheet_44 (by decide) ?_
            refine zv_istore (lv' := [(7, za_I 0), (6, za_I 0), (5, za_I 1), (0, za_O 0 0), (1, za_I kd), (2, za_I n), (3, za_I f), (4, za_I s9)]) G dX9_sheet_45 (by decide) rfl ?_
            refine zv_iload (j := 0) G dX9_sheet_47 rfl ?_
            refine zv_aload_n (j := 3) G dX9_sheet_49 rfl rfl ?_
            refine zg_X9_10 G dX9_sheet_50 ?_
            refine zg_X9_102 G dX9_sheet_53 ?_
            refine zg_X9_106 G dX9_sheet_56 ?_
            refine zv_icmp_ge (tgt := 118) G dX9_sheet_59 (by decide) (fun c_59 => ?_) (fun c_59 => ?_)
            · have k_59 := z_cle c_59 (a := (σ.1 2 1).toInt) (b := 0) rfl rfl
              refine zv_iload (j := 2) G dX9_sheet_118 rfl ?_
              refine zv_if_eq (tgt := 128) G dX9_sheet_120 (by decide) (fun c_120 => ?_) (fun c_120 => ?_)
              · exact absurd c_120 (by decide)
              · have k_120 := z_cne c_120 (a := 1) (b := 0) rfl rfl
                refine zv_bipush (v := (-3)) G dX9_sheet_123 (by decide) ?_
                refine zv_goto (tgt := 130) G dX9_sheet_125 (by decide) ?_
                exact zv_iret G hr dX9_sheet_130 ⟨⟨fun q => False.elim (by omega), fun _ => by first | exact ⟨fun q => False.elim (by omega), fun _ => rfl, fun q => False.elim (by omega)⟩ | exact ⟨fun q => False.elim (by omega), fun q => False.elim (by omega), fun _ => rfl⟩⟩, wzE_z hz⟩
            · exact absurd (show (σ.1 2 1) ≤ 0 by rw [hz.1.1]; decide) c_59
          · exact absurd c_31 (by decide)
      · have k_12 := z_cnle c_12 (a := n.toInt) (b := 20) rfl rfl
        refine zv_iconst (v := (-1)) G dX9_sheet_15 (by decide) ?_
        exact zv_iret G hr dX9_sheet_16 ⟨⟨fun _ => rfl, fun q => False.elim (by omega)⟩, wzE_z hz⟩
set_option maxHeartbeats 4000000 in
set_option maxRecDepth 100000 in
theorem zc_X9_undo_at0 (l : Launch) (E : za_E)  (σ0 : za_S) (h0 : wzE σ0) : zMi l E yX9_undo cX9_undo 1 (Option.some Jvm.ClassFile.FieldType.int) 1 21 [za_O 0 0] σ0 (fun r σ' => r = -1 ∧ wzZ σ') := by
  refine zMi_of [(0, za_O 0 0)] (by decide) rfl rfl (Nat.le_of_ble_eq_true rfl) ?_
  intro ho p e s m args below meth c G hr
  refine zv_gen (R9 := wzE) h0 (fun σ hz => ?_)
  refine zv_aload_n (j := 0) G dX9_undo_0 rfl rfl ?_
  refine zg_X9_22 G dX9_undo_1 ?_
  refine zg_X9_186 G dX9_undo_4 ?_
  refine zv_if_ne (tgt := 12) G dX9_undo_7 (by decide) (fun c_7 => ?_) (fun c_7 => ?_)
  · exact absurd hz.2.2.1 c_7
  · have k_7 := z_ceq c_7 (a := (σ.1 11 2).toInt) (b := 0) rfl rfl
    refine zv_iconst (v := (-1)) G dX9_undo_10 (by decide) ?_
    exact zv_iret G hr dX9_undo_11 ⟨rfl, wzE_z hz⟩
set_option maxHeartbeats 4000000 in
set_option maxRecDepth 100000 in
theorem zc_X2_prepare_atx (l : Launch) (E : za_E) (sw : Nat) (σ0 : za_S) (hd : sw = 1) : zMv l E yX2_prepare cX2_prepare 2 (Option.none : Option Jvm.ClassFile.FieldType) 3 102 [za_O 4 11, za_O 1 sw] σ0 (fun σ' => ∃ j, j < 11 ∧ wzfs (13 + 5 * j) σ0 σ') := by
  refine zMv_of [(0, za_O 4 11), (1, za_O 1 sw)] (by decide) rfl rfl (Nat.le_of_ble_eq_true rfl) ?_
  intro ho p e s m args below meth c G hr
  have h_sw : za_kd sw = 1 := za_okO (by decide) (List.forall_mem_cons.mp (List.forall_mem_cons.mp ho).2).1
  refine zv_aload_n (j := 0) G dX2_prepare_0 rfl rfl ?_
  refine zv_aload_n (j := 0) G dX2_prepare_1 rfl rfl ?_
  refine zg_X2_26 G dX2_prepare_2 ?_
  refine zv_callVr (as := [za_I (σ0.1 11 2)]) G (by decide) rfl rfl (zc_X2_slot l E (σ0.1 11 2) σ0 ) zk_X2_slot zm_413 rfl ⟨(Nat.le_of_ble_eq_true rfl), (Nat.le_of_ble_eq_true rfl)⟩ ⟨Nat.zero_le _, Nat.zero_le _⟩ (Nat.le_of_ble_eq_true rfl) dX2_prepare_5 (fun r_5 σ h_5 => ?_)
  obtain ⟨w_5, rfl, h_w_5, t_5, e9⟩ := h_5
  rw [e9]
  clear e9 σ
  refine zv_aload_n (j := 1) G dX2_prepare_8 rfl rfl ?_
  refine zv_callVNv (as := [za_O 1 sw]) G (by decide) rfl rfl (zc_X4_copyOf_atx l E w_5 sw σ0 (wzpp t_5 hd)) zk_X4_copyOf zm_420 rfl ⟨(Nat.le_of_ble_eq_true rfl), (Nat.le_of_ble_eq_true rfl)⟩ ⟨Nat.zero_le _, Nat.zero_le _⟩ (Nat.le_of_ble_eq_true rfl) dX2_prepare_9 (fun σ h_9 => ?_)
  exact zv_vret G hr dX2_prepare_12 (wzpq t_5 h_9.1)
set_option maxHeartbeats 4000000 in
set_option maxRecDepth 100000 in
theorem zc_X9_noted_atx (l : Launch) (E : za_E) (a : Int32) (σ0 : za_S)  : zMi l E yX9_noted cX9_noted 2 (Option.some Jvm.ClassFile.FieldType.int) 3 63 [za_O 0 0, za_I a] σ0 (fun r σ' => r = a ∧ zc σ0 σ') := by
  refine zMi_of [(0, za_O 0 0), (1, za_I a)] (by decide) rfl rfl (Nat.le_of_ble_eq_true rfl) ?_
  intro ho p e s m args below meth c G hr
  refine zv_gen (R9 := zc σ0) (zc_r σ0) (fun σ hz => ?_)
  refine zv_iload_n (j := 1) G dX9_noted_0 rfl rfl ?_
  refine zv_if_lt (tgt := 11) G dX9_noted_1 (by decide) (fun c_1 => ?_) (fun c_1 => ?_)
  · have k_1 := z_clt c_1 (a := a.toInt) (b := 0) rfl rfl
    refine zv_iload_n (j := 1) G dX9_noted_11 rfl rfl ?_
    exact zv_iret G hr dX9_noted_12 ⟨rfl, hz⟩
  · have k_1 := z_cnlt c_1 (a := a.toInt) (b := 0) rfl rfl
    refine zv_aload_n (j := 0) G dX9_noted_4 rfl rfl ?_
    refine zg_X9_22 G dX9_noted_5 ?_
    refine zv_callVNv (as := []) G (by decide) rfl rfl (zc_X2_confirm l E  σ ) zk_X2_confirm zm_497 rfl ⟨(Nat.le_of_ble_eq_true rfl), (Nat.le_of_ble_eq_true rfl)⟩ ⟨Nat.zero_le _, Nat.zero_le _⟩ (Nat.le_of_ble_eq_true rfl) dX9_noted_8 (fun σ h_8 => ?_)
    have hz9 := h_8
    have hz := zc_t hz hz9
    refine zv_iload_n (j := 1) G dX9_noted_11 rfl rfl ?_
    exact zv_iret G hr dX9_noted_12 ⟨rfl, hz⟩
set_option maxHeartbeats 4000000 in
set_option maxRecDepth 100000 in
theorem zc_X9_setValue_aty (l : Launch) (E : za_E) (t : Int32) (k : Int32) (v : Int32) (fd : Int32) (td : Int32) (σ0 : za_S) (h0 : wzE σ0) : zMi l E yX9_setValue cX9_setValue 8 (Option.some Jvm.ClassFile.FieldType.int) 6 136 [za_O 0 0, za_I t, za_I k, za_I v, za_I fd, za_I td] σ0 (fun r σ' => wzAn ((0 ≤ t.toInt ∧ t.toInt ≤ 1) ∧ (0 ≤ k.toInt ∧ k.toInt ≤ 9) ∧ (0 ≤ v.toInt ∧ v.toInt ≤ 99) ∧ (0 ≤ fd.toInt ∧ fd.toInt ≤ 99) ∧ fd.toInt < td.toInt ∧ td.toInt ≤ 100) (-2) (-1) r ∧ wzZ σ') := by
  refine zMi_of [(0, za_O 0 0), (1, za_I t), (2, za_I k), (3, za_I v), (4, za_I fd), (5, za_I td)] (by decide) rfl rfl (Nat.le_of_ble_eq_true rfl) ?_
  intro ho p e s m args below meth c G hr
  refine zv_gen (R9 := wzE) h0 (fun σ hz => ?_)
  refine zv_iload_n (j := 1) G dX9_setValue_0 rfl rfl ?_
  refine zv_iload_n (j := 2) G dX9_setValue_1 rfl rfl ?_
  refine zv_iload (j := 4) G dX9_setValue_2 rfl ?_
  refine zv_iload (j := 5) G dX9_setValue_4 rfl ?_
  refine zv_callSi (as := [za_I t, za_I k, za_I fd, za_I td]) G (zc_X9_isPortion_aty l E t k fd td σ ) zk_X9_isPortion zm_435 rfl ⟨(Nat.le_of_ble_eq_true rfl), (Nat.le_of_ble_eq_true rfl)⟩ ⟨Nat.zero_le _, Nat.zero_le _⟩ (Nat.le_of_ble_eq_true rfl) dX9_setValue_6 (fun r_6 σ h_6 => ?_)
  obtain ⟨h_6, rfl⟩ := h_6
  refine zv_if_eq (tgt := 19) G dX9_setValue_9 (by decide) (fun c_9 => ?_) (fun c_9 => ?_)
  · have f_6 := fun q9 => (h_6.2.mpr q9) c_9
    refine zv_iconst (v := (-1)) G dX9_setValue_19 (by decide) ?_
    exact zv_iret G hr dX9_setValue_20 ⟨wzAn_n (fun q => by first | exact f_6 ⟨q.1, q.2.1, q.2.2.2⟩ | exact f_13 q.2.2.1), wzE_z hz⟩
  · have t_6 := h_6.2.mp c_9
    refine zv_iload_n (j := 3) G dX9_setValue_12 rfl rfl ?_
    refine zv_callSi (as := [za_I v]) G (zc_X9_isValue_aty l E v σ ) zk_X9_isValue zm_450 rfl ⟨(Nat.le_of_ble_eq_true rfl), (Nat.le_of_ble_eq_true rfl)⟩ ⟨Nat.zero_le _, Nat.zero_le _⟩ (Nat.le_of_ble_eq_true rfl) dX9_setValue_13 (fun r_13 σ h_13 => ?_)
    obtain ⟨h_13, rfl⟩ := h_13
    refine zv_if_ne (tgt := 21) G dX9_setValue_16 (by decide) (fun c_16 => ?_) (fun c_16 => ?_)
    · have t_13 := h_13.2.mp c_16
      refine zv_aload_n (j := 0) G dX9_setValue_21 rfl rfl ?_
      refine zg_X9_10 G dX9_setValue_22 ?_
      refine zv_iload_n (j := 1) G dX9_setValue_25 rfl rfl ?_
      refine zv_callVNr (as := [za_I t]) G (by decide) rfl rfl (zc_X4_table_atx l E 1 t σ (wz01i t_6.1)) zk_X4_table zm_453 rfl ⟨(Nat.le_of_ble_eq_true rfl), (Nat.le_of_ble_eq_true rfl)⟩ ⟨Nat.zero_le _, Nat.zero_le _⟩ (Nat.le_of_ble_eq_true rfl) dX9_setValue_26 (fun r_26 σ h_26 => ?_)
      obtain ⟨w_26, rfl, h_w_26, t_26, rfl⟩ := h_26
      refine zv_astore (lv' := [(6, za_O 2 w_26), (0, za_O 0 0), (1, za_I t), (2, za_I k), (3, za_I v), (4, za_I fd), (5, za_I td)]) G dX9_setValue_29 (by decide) rfl ?_
      refine zv_aload (j := 0) G dX9_setValue_31 rfl ?_
      refine zv_iload_n (j := 3) G dX9_setValue_33 rfl rfl ?_
      refine zv_iload (j := 5) G dX9_setValue_34 rfl ?_
      refine zv_iload (j := 6) G dX9_setValue_36 rfl ?_
      refine zv_callVNi (as := [za_I k, za_I fd, za_I td]) G (by decide) rfl rfl (zc_X6_touching_atx l E w_26 k fd td [] σ (wzE_T hz (wz01i t_6.1) t_26) wzOk_n (by omega)) zk_X6_touching zm_457 rfl ⟨(Nat.le_of_ble_eq_true rfl), (Nat.le_of_ble_eq_true rfl)⟩ ⟨Nat.zero_le _, Nat.zero_le _⟩ (Nat.le_of_ble_eq_true rfl) dX9_setValue_38 (fun r_38 σ h_38 => ?_)
      obtain ⟨h_38, rfl⟩ := h_38
      refine zv_istore (lv' := [(7, za_I r_38), (6, za_O 2 w_26), (0, za_O 0 0), (1, za_I t), (2, za_I k), (3, za_I v), (4, za_I fd), (5, za_I td)]) G dX9_setValue_41 (by decide) rfl ?_
      refine zv_iload (j := 0) G dX9_setValue_43 rfl ?_
      refine zv_if_ne (tgt := 51) G dX9_setValue_45 (by decide) (fun c_45 => ?_) (fun c_45 => ?_)
      · exact absurd (wzr0 h_38) c_45
      · refine zv_bipush (v := (-2)) G dX9_setValue_48 (by decide) ?_
        exact zv_iret G hr dX9_setValue_50 ⟨wzAn_y ⟨t_6.1, t_6.2.1, t_13, t_6.2.2⟩, wzE_z hz⟩
    · have f_13 := fun q9 => (h_13.2.mpr q9) c_16
      refine zv_iconst (v := (-1)) G dX9_setValue_19 (by decide) ?_
      exact zv_iret G hr dX9_setValue_20 ⟨wzAn_n (fun q => by first | exact f_6 ⟨q.1, q.2.1, q.2.2.2⟩ | exact f_13 q.2.2.1), wzE_z hz⟩
set_option maxHeartbeats 4000000 in
set_option maxRecDepth 100000 in
theorem zc_X9_setRef_aty (l : Launch) (E : za_E) (k : Int32) (v : Int32) (fd : Int32) (td : Int32) (σ0 : za_S) (h0 : wzE σ0) : zMi l E yX9_setRef cX9_setRef 6 (Option.some Jvm.ClassFile.FieldType.int) 6 136 [za_O 0 0, za_I k, za_I v, za_I fd, za_I td] σ0 (fun r σ' => wzAn ((0 ≤ k.toInt ∧ k.toInt ≤ 9) ∧ (0 ≤ v.toInt ∧ v.toInt ≤ 10) ∧ (0 ≤ fd.toInt ∧ fd.toInt ≤ 99) ∧ fd.toInt < td.toInt ∧ td.toInt ≤ 100) (-2) (-1) r ∧ wzZ σ') := by
  refine zMi_of [(0, za_O 0 0), (1, za_I k), (2, za_I v), (3, za_I fd), (4, za_I td)] (by decide) rfl rfl (Nat.le_of_ble_eq_true rfl) ?_
  intro ho p e s m args below meth c G hr
  refine zv_gen (R9 := wzE) h0 (fun σ hz => ?_)
  refine zv_iconst (v := 0) G dX9_setRef_0 (by decide) ?_
  refine zv_iload_n (j := 1) G dX9_setRef_1 rfl rfl ?_
  refine zv_iload_n (j := 3) G dX9_setRef_2 rfl rfl ?_
  refine zv_iload (j := 4) G dX9_setRef_3 rfl ?_
  refine zv_callSi (as := [za_I 0, za_I k, za_I fd, za_I td]) G (zc_X9_isPortion_aty l E (0 : Int32) k fd td σ ) zk_X9_isPortion zm_435 rfl ⟨(Nat.le_of_ble_eq_true rfl), (Nat.le_of_ble_eq_true rfl)⟩ ⟨Nat.zero_le _, Nat.zero_le _⟩ (Nat.le_of_ble_eq_true rfl) dX9_setRef_5 (fun r_5 σ h_5 => ?_)
  obtain ⟨h_5, rfl⟩ := h_5
  refine zv_if_eq (tgt := 21) G dX9_setRef_8 (by decide) (fun c_8 => ?_) (fun c_8 => ?_)
  · have f_5 := fun q9 => (h_5.2.mpr q9) c_8
    refine zv_iconst (v := (-1)) G dX9_setRef_21 (by decide) ?_
    exact zv_iret G hr dX9_setRef_22 ⟨wzAn_n (fun q => by first | exact f_5 ⟨by decide, q.1, q.2.2⟩ | omega), wzE_z hz⟩
  · have t_5 := h_5.2.mp c_8
    refine zv_iload_n (j := 2) G dX9_setRef_11 rfl rfl ?_
    refine zv_if_lt (tgt := 21) G dX9_setRef_12 (by decide) (fun c_12 => ?_) (fun c_12 => ?_)
    · have k_12 := z_clt c_12 (a := v.toInt) (b := 0) rfl rfl
      refine zv_iconst (v := (-1)) G dX9_setRef_21 (by decide) ?_
      exact zv_iret G hr dX9_setRef_22 ⟨wzAn_n (fun q => by first | exact f_5 ⟨by decide, q.1, q.2.2⟩ | omega), wzE_z hz⟩
    · have k_12 := z_cnlt c_12 (a := v.toInt) (b := 0) rfl rfl
      refine zv_iload_n (j := 2) G dX9_setRef_15 rfl rfl ?_
      refine zv_bipush (v := 10) G dX9_setRef_16 (by decide) ?_
      refine zv_icmp_le (tgt := 23) G dX9_setRef_18 (by decide) (fun c_18 => ?_) (fun c_18 => ?_)
      · have k_18 := z_cle c_18 (a := v.toInt) (b := 10) rfl rfl
        refine zv_aload_n (j := 0) G dX9_setRef_23 rfl rfl ?_
        refine zg_X9_10 G dX9_setRef_24 ?_
        refine zg_X9_102 G dX9_setRef_27 ?_
        refine zv_iload_n (j := 1) G dX9_setRef_30 rfl rfl ?_
        refine zv_iload_n (j := 3) G dX9_setRef_31 rfl rfl ?_
        refine zv_iload (j := 4) G dX9_setRef_32 rfl ?_
        refine zv_callVNi (as := [za_I k, za_I fd, za_I td]) G (by decide) rfl rfl (zc_X6_touching_atx l E 2 k fd td [] σ (wzTb_0 hz.1.1) wzOk_n (by omega)) zk_X6_touching zm_457 rfl ⟨(Nat.le_of_ble_eq_true rfl), (Nat.le_of_ble_eq_true rfl)⟩ ⟨Nat.zero_le _, Nat.zero_le _⟩ (Nat.le_of_ble_eq_true rfl) dX9_setRef_34 (fun r_34 σ h_34 => ?_)
        obtain ⟨h_34, rfl⟩ := h_34
        refine zv_istore (lv' := [(5, za_I r_34), (0, za_O 0 0), (1, za_I k), (2, za_I v), (3, za_I fd), (4, za_I td)]) G dX9_setRef_37 (by decide) rfl ?_
        refine zv_iload (j := 0) G dX9_setRef_39 rfl ?_
        refine zv_if_ne (tgt := 47) G dX9_setRef_41 (by decide) (fun c_41 => ?_) (fun c_41 => ?_)
        · exact absurd (wzr0 h_34) c_41
        · refine zv_bipush (v := (-2)) G dX9_setRef_44 (by decide) ?_
          exact zv_iret G hr dX9_setRef_46 ⟨wzAn_y ⟨t_5.2.1, by omega, t_5.2.2⟩, wzE_z hz⟩
      · have k_18 := z_cnle c_18 (a := v.toInt) (b := 10) rfl rfl
        refine zv_iconst (v := (-1)) G dX9_setRef_21 (by decide) ?_
        exact zv_iret G hr dX9_setRef_22 ⟨wzAn_n (fun q => by first | exact f_5 ⟨by decide, q.1, q.2.2⟩ | omega), wzE_z hz⟩
set_option maxHeartbeats 4000000 in
set_option maxRecDepth 100000 in
theorem zc_X9_cutPeriod_aty (l : Launch) (E : za_E) (t : Int32) (k : Int32) (fd : Int32) (td : Int32) (σ0 : za_S) (h0 : wzE σ0) : zMi l E yX9_cutPeriod cX9_cutPeriod 10 (Option.some Jvm.ClassFile.FieldType.int) 6 136 [za_O 0 0, za_I t, za_I k, za_I fd, za_I td] σ0 (fun r σ' => wzAn ((0 ≤ t.toInt ∧ t.toInt ≤ 1) ∧ (0 ≤ k.toInt ∧ k.toInt ≤ 9) ∧ (0 ≤ fd.toInt ∧ fd.toInt ≤ 99) ∧ fd.toInt < td.toInt ∧ td.toInt ≤ 100) (-2) (-1) r ∧ wzZ σ') := by
  refine zMi_of [(0, za_O 0 0), (1, za_I t), (2, za_I k), (3, za_I fd), (4, za_I td)] (by decide) rfl rfl (Nat.le_of_ble_eq_true rfl) ?_
  intro ho p e s m args below meth c G hr
  refine zv_gen (R9 := wzE) h0 (fun σ hz => ?_)
  refine zv_iload_n (j := 1) G dX9_cutPeriod_0 rfl rfl ?_
  refine zv_iload_n (j := 2) G dX9_cutPeriod_1 rfl rfl ?_
  refine zv_iload_n (j := 3) G dX9_cutPeriod_2 rfl rfl ?_
  refine zv_iload (j := 4) G dX9_cutPeriod_3 rfl ?_
  refine zv_callSi (as := [za_I t, za_I k, za_I fd, za_I td]) G (zc_X9_isPortion_aty l E t k fd td σ ) zk_X9_isPortion zm_435 rfl ⟨(Nat.le_of_ble_eq_true rfl), (Nat.le_of_ble_eq_true rfl)⟩ ⟨Nat.zero_le _, Nat.zero_le _⟩ (Nat.le_of_ble_eq_true rfl) dX9_cutPeriod_5 (fun r_5 σ h_5 => ?_)
  obtain ⟨h_5, rfl⟩ := h_5
  refine zv_if_ne (tgt := 13) G dX9_cutPeriod_8 (by decide) (fun c_8 => ?_) (fun c_8 => ?_)
  · have t_5 := h_5.2.mp c_8
    refine zv_aload_n (j := 0) G dX9_cutPeriod_13 rfl rfl ?_
    refine zg_X9_10 G dX9_cutPeriod_14 ?_
    refine zv_iload_n (j := 1) G dX9_cutPeriod_17 rfl rfl ?_
    refine zv_callVNr (as := [za_I t]) G (by decide) rfl rfl (zc_X4_table_atx l E 1 t σ (wz01i t_5.1)) zk_X4_table zm_453 rfl ⟨(Nat.le_of_ble_eq_true rfl), (Nat.le_of_ble_eq_true rfl)⟩ ⟨Nat.zero_le _, Nat.zero_le _⟩ (Nat.le_of_ble_eq_true rfl) dX9_cutPeriod_18 (fun r_18 σ h_18 => ?_)
    obtain ⟨w_18, rfl, h_w_18, t_18, rfl⟩ := h_18
    refine zv_astore (lv' := [(5, za_O 2 w_18), (0, za_O 0 0), (1, za_I t), (2, za_I k), (3, za_I fd), (4, za_I td)]) G dX9_cutPeriod_21 (by decide) rfl ?_
    refine zv_aload (j := 0) G dX9_cutPeriod_23 rfl ?_
    refine zv_iload_n (j := 3) G dX9_cutPeriod_25 rfl rfl ?_
    refine zv_iload_n (j := 4) G dX9_cutPeriod_26 rfl rfl ?_
    refine zv_iload (j := 5) G dX9_cutPeriod_27 rfl ?_
    refine zv_callVNi (as := [za_I k, za_I fd, za_I td]) G (by decide) rfl rfl (zc_X6_touching_atx l E w_18 k fd td [] σ (wzE_T hz (wz01i t_5.1) t_18) wzOk_n (by omega)) zk_X6_touching zm_457 rfl ⟨(Nat.le_of_ble_eq_true rfl), (Nat.le_of_ble_eq_true rfl)⟩ ⟨Nat.zero_le _, Nat.zero_le _⟩ (Nat.le_of_ble_eq_true rfl) dX9_cutPeriod_29 (fun r_29 σ h_29 => ?_)
    obtain ⟨h_29, rfl⟩ := h_29
    refine zv_istore (lv' := [(6, za_I r_29), (5, za_O 2 w_18), (0, za_O 0 0), (1, za_I t), (2, za_I k), (3, za_I fd), (4, za_I td)]) G dX9_cutPeriod_32 (by decide) rfl ?_
    refine zv_iload (j := 0) G dX9_cutPeriod_34 rfl ?_
    refine zv_if_ne (tgt := 42) G dX9_cutPeriod_36 (by decide) (fun c_36 => ?_) (fun c_36 => ?_)
    · exact absurd (wzr0 h_29) c_36
    · refine zv_bipush (v := (-2)) G dX9_cutPeriod_39 (by decide) ?_
      exact zv_iret G hr dX9_cutPeriod_41 ⟨wzAn_y t_5, wzE_z hz⟩
  · have f_5 := fun q9 => (h_5.2.mpr q9) c_8
    refine zv_iconst (v := (-1)) G dX9_cutPeriod_11 (by decide) ?_
    exact zv_iret G hr dX9_cutPeriod_12 ⟨(wzAn_n (fun q => by first | exact f_5 (by omega))), wzE_z hz⟩
set_option maxHeartbeats 4000000 in
set_option maxRecDepth 100000 in
theorem zc_X9_shiftKey_aty (l : Launch) (E : za_E) (t : Int32) (k : Int32) (sh : Int32) (σ0 : za_S) (h0 : wzE σ0) : zMi l E yX9_shiftKey cX9_shiftKey 6 (Option.some Jvm.ClassFile.FieldType.int) 6 136 [za_O 0 0, za_I t, za_I k, za_I sh] σ0 (fun r σ' => wzAn ((0 ≤ t.toInt ∧ t.toInt ≤ 1) ∧ (0 ≤ k.toInt ∧ k.toInt ≤ 9) ∧ ¬ sh.toInt = 0 ∧ -99 ≤ sh.toInt ∧ sh.toInt ≤ 99) (-2) (-1) r ∧ wzZ σ') := by
  refine zMi_of [(0, za_O 0 0), (1, za_I t), (2, za_I k), (3, za_I sh)] (by decide) rfl rfl (Nat.le_of_ble_eq_true rfl) ?_
  intro ho p e s m args below meth c G hr
  refine zv_gen (R9 := wzE) h0 (fun σ hz => ?_)
  refine zv_iload_n (j := 1) G dX9_shiftKey_0 rfl rfl ?_
  refine zv_callSi (as := [za_I t]) G (zc_X9_isTable_aty l E t σ ) zk_X9_isTable zm_438 rfl ⟨(Nat.le_of_ble_eq_true rfl), (Nat.le_of_ble_eq_true rfl)⟩ ⟨Nat.zero_le _, Nat.zero_le _⟩ (Nat.le_of_ble_eq_true rfl) dX9_shiftKey_1 (fun r_1 σ h_1 => ?_)
  obtain ⟨h_1, rfl⟩ := h_1
  refine zv_if_eq (tgt := 30) G dX9_shiftKey_4 (by decide) (fun c_4 => ?_) (fun c_4 => ?_)
  · have f_1 := fun q9 => (h_1.2.mpr q9) c_4
    refine zv_iconst (v := (-1)) G dX9_shiftKey_30 (by decide) ?_
    exact zv_iret G hr dX9_shiftKey_31 ⟨wzAn_n (fun q => by first | exact f_1 q.1 | exact f_8 q.2.1 | omega), wzE_z hz⟩
  · have t_1 := h_1.2.mp c_4
    refine zv_iload_n (j := 2) G dX9_shiftKey_7 rfl rfl ?_
    refine zv_callSi (as := [za_I k]) G (zc_X9_isKey_aty l E k σ ) zk_X9_isKey zm_441 rfl ⟨(Nat.le_of_ble_eq_true rfl), (Nat.le_of_ble_eq_true rfl)⟩ ⟨Nat.zero_le _, Nat.zero_le _⟩ (Nat.le_of_ble_eq_true rfl) dX9_shiftKey_8 (fun r_8 σ h_8 => ?_)
    obtain ⟨h_8, rfl⟩ := h_8
    refine zv_if_eq (tgt := 30) G dX9_shiftKey_11 (by decide) (fun c_11 => ?_) (fun c_11 => ?_)
    · have f_8 := fun q9 => (h_8.2.mpr q9) c_11
      refine zv_iconst (v := (-1)) G dX9_shiftKey_30 (by decide) ?_
      exact zv_iret G hr dX9_shiftKey_31 ⟨wzAn_n (fun q => by first | exact f_1 q.1 | exact f_8 q.2.1 | omega), wzE_z hz⟩
    · have t_8 := h_8.2.mp c_11
      refine zv_iload_n (j := 3) G dX9_shiftKey_14 rfl rfl ?_
      refine zv_if_eq (tgt := 30) G dX9_shiftKey_15 (by decide) (fun c_15 => ?_) (fun c_15 => ?_)
      · have k_15 := z_ceq c_15 (a := sh.toInt) (b := 0) rfl rfl
        refine zv_iconst (v := (-1)) G dX9_shiftKey_30 (by decide) ?_
        exact zv_iret G hr dX9_shiftKey_31 ⟨wzAn_n (fun q => by first | exact f_1 q.1 | exact f_8 q.2.1 | omega), wzE_z hz⟩
      · have k_15 := z_cne c_15 (a := sh.toInt) (b := 0) rfl rfl
        refine zv_iload_n (j := 3) G dX9_shiftKey_18 rfl rfl ?_
        refine zv_bipush (v := (-100)) G dX9_shiftKey_19 (by decide) ?_
        refine zv_icmp_le (tgt := 30) G dX9_shiftKey_21 (by decide) (fun c_21 => ?_) (fun c_21 => ?_)
        · have k_21 := z_cle c_21 (a := sh.toInt) (b := -100) rfl rfl
          refine zv_iconst (v := (-1)) G dX9_shiftKey_30 (by decide) ?_
          exact zv_iret G hr dX9_shiftKey_31 ⟨wzAn_n (fun q => by first | exact f_1 q.1 | exact f_8 q.2.1 | omega), wzE_z hz⟩
        · have k_21 := z_cnle c_21 (a := sh.toInt) (b := -100) rfl rfl
          refine zv_iload_n (j := 3) G dX9_shiftKey_24 rfl rfl ?_
          refine zv_bipush (v := 100) G dX9_shiftKey_25 (by decide) ?_
          refine zv_icmp_lt (tgt := 32) G dX9_shiftKey_27 (by decide) (fun c_27 => ?_) (fun c_27 => ?_)
          · have k_27 := z_clt c_27 (a := sh.toInt) (b := 100) rfl rfl
            refine zv_aload_n (j := 0) G dX9_shiftKey_32 rfl rfl ?_
            refine zg_X9_10 G dX9_shiftKey_33 ?_
            refine zv_iload_n (j := 1) G dX9_shiftKey_36 rfl rfl ?_
            refine zv_callVNr (as := [za_I t]) G (by decide) rfl rfl (zc_X4_table_atx l E 1 t σ (wz01i t_1)) zk_X4_table zm_453 rfl ⟨(Nat.le_of_ble_eq_true rfl), (Nat.le_of_ble_eq_true rfl)⟩ ⟨Nat.zero_le _, Nat.zero_le _⟩ (Nat.le_of_ble_eq_true rfl) dX9_shiftKey_37 (fun r_37 σ h_37 => ?_)
            obtain ⟨w_37, rfl, h_w_37, t_37, rfl⟩ := h_37
            refine zv_astore (lv' := [(4, za_O 2 w_37), (0, za_O 0 0), (1, za_I t), (2, za_I k), (3, za_I sh)]) G dX9_shiftKey_40 (by decide) rfl ?_
            refine zv_aload (j := 0) G dX9_shiftKey_42 rfl ?_
            refine zv_iload_n (j := 3) G dX9_shiftKey_44 rfl rfl ?_
            refine zv_iconst (v := 0) G dX9_shiftKey_45 (by decide) ?_
            refine zv_bipush (v := 100) G dX9_shiftKey_46 (by decide) ?_
            refine zv_callVNi (as := [za_I k, za_I 0, za_I 100]) G (by decide) rfl rfl (zc_X6_touching_atx l E w_37 k (0 : Int32) (100 : Int32) [] σ (wzE_T hz (wz01i t_1) t_37) wzOk_n (by decide)) zk_X6_touching zm_457 rfl ⟨(Nat.le_of_ble_eq_true rfl), (Nat.le_of_ble_eq_true rfl)⟩ ⟨Nat.zero_le _, Nat.zero_le _⟩ (Nat.le_of_ble_eq_true rfl) dX9_shiftKey_48 (fun r_48 σ h_48 => ?_)
            obtain ⟨h_48, rfl⟩ := h_48
            refine zv_istore (lv' := [(5, za_I r_48), (4, za_O 2 w_37), (0, za_O 0 0), (1, za_I t), (2, za_I k), (3, za_I sh)]) G dX9_shiftKey_51 (by decide) rfl ?_
            refine zv_iload (j := 0) G dX9_shiftKey_53 rfl ?_
            refine zv_if_ne (tgt := 61) G dX9_shiftKey_55 (by decide) (fun c_55 => ?_) (fun c_55 => ?_)
            · exact absurd (wzr0 h_48) c_55
            · refine zv_bipush (v := (-2)) G dX9_shiftKey_58 (by decide) ?_
              exact zv_iret G hr dX9_shiftKey_60 ⟨wzAn_y ⟨t_1, t_8, by omega, by omega, by omega⟩, wzE_z hz⟩
          · have k_27 := z_cnlt c_27 (a := sh.toInt) (b := 100) rfl rfl
            refine zv_iconst (v := (-1)) G dX9_shiftKey_30 (by decide) ?_
            exact zv_iret G hr dX9_shiftKey_31 ⟨wzAn_n (fun q => by first | exact f_1 q.1 | exact f_8 q.2.1 | omega), wzE_z hz⟩
set_option maxHeartbeats 4000000 in
set_option maxRecDepth 100000 in
theorem zc_X6_alikeNeighbours_at0 (l : Launch) (E : za_E) (w : Nat) (σ : za_S) (hs : σ.1 w 1 = 0) : zMi l E yX6_alikeNeighbours cX6_alikeNeighbours 3 (Option.some Jvm.ClassFile.FieldType.int) 1 21 [za_O 2 w] σ (fun r σ' => (r = 0) ∧ σ' = σ) := by
  refine zMi_of [(0, za_O 2 w)] (by decide) rfl rfl (Nat.le_of_ble_eq_true rfl) ?_
  intro ho p e s m args below meth c G hr
  have h_w : za_kd w = 2 := za_okO (by decide) (List.forall_mem_cons.mp ho).1
  refine zv_iconst (v := 0) G dX6_alikeNeighbours_0 (by decide) ?_
  refine zv_istore_n (lv' := [(1, za_I 0), (0, za_O 2 w)]) G dX6_alikeNeighbours_1 rfl (by decide) rfl ?_
  refine zv_iconst (v := 1) G dX6_alikeNeighbours_2 (by decide) ?_
  refine zv_istore_n (lv' := [(2, za_I 1), (1, za_I 0), (0, za_O 2 w)]) G dX6_alikeNeighbours_3 rfl (by decide) rfl ?_
  refine zv_iload_n (j := 0) G dX6_alikeNeighbours_4 rfl rfl ?_
  refine zv_aload_n (j := 2) G dX6_alikeNeighbours_5 rfl rfl ?_
  refine zg_X6_15 G dX6_alikeNeighbours_6 ?_
  refine zv_icmp_ge (tgt := 29) G dX6_alikeNeighbours_9 (by decide) (fun c_9 => ?_) (fun c_9 => ?_)
  · have k_9 := z_cle c_9 (a := (σ.1 w 1).toInt) (b := 1) rfl rfl
    refine zv_iload_n (j := 1) G dX6_alikeNeighbours_29 rfl rfl ?_
    exact zv_iret G hr dX6_alikeNeighbours_30 ⟨rfl, rfl⟩
  · exact absurd (show (σ.1 w 1) ≤ 1 by rw [hs]; decide) c_9
set_option maxHeartbeats 4000000 in
set_option maxRecDepth 100000 in
theorem zc_X9_joinAlike_aty (l : Launch) (E : za_E) (t : Int32) (σ0 : za_S) (h0 : wzE σ0) : zMi l E yX9_joinAlike cX9_joinAlike 4 (Option.some Jvm.ClassFile.FieldType.int) 6 128 [za_O 0 0, za_I t] σ0 (fun r σ' => wzAn ((0 ≤ t.toInt ∧ t.toInt ≤ 1)) 0 (-1) r ∧ wzZ σ') := by
  refine zMi_of [(0, za_O 0 0), (1, za_I t)] (by decide) rfl rfl (Nat.le_of_ble_eq_true rfl) ?_
  intro ho p e s m args below meth c G hr
  refine zv_gen (R9 := wzE) h0 (fun σ hz => ?_)
  refine zv_iload_n (j := 1) G dX9_joinAlike_0 rfl rfl ?_
  refine zv_callSi (as := [za_I t]) G (zc_X9_isTable_aty l E t σ ) zk_X9_isTable zm_438 rfl ⟨(Nat.le_of_ble_eq_true rfl), (Nat.le_of_ble_eq_true rfl)⟩ ⟨Nat.zero_le _, Nat.zero_le _⟩ (Nat.le_of_ble_eq_true rfl) dX9_joinAlike_1 (fun r_1 σ h_1 => ?_)
  obtain ⟨h_1, rfl⟩ := h_1
  refine zv_if_ne (tgt := 9) G dX9_joinAlike_4 (by decide) (fun c_4 => ?_) (fun c_4 => ?_)
  · have t_1 := h_1.2.mp c_4
    refine zv_aload_n (j := 0) G dX9_joinAlike_9 rfl rfl ?_
    refine zg_X9_10 G dX9_joinAlike_10 ?_
    refine zv_iload_n (j := 1) G dX9_joinAlike_13 rfl rfl ?_
    refine zv_callVNr (as := [za_I t]) G (by decide) rfl rfl (zc_X4_table_atx l E 1 t σ (wz01i t_1)) zk_X4_table zm_453 rfl ⟨(Nat.le_of_ble_eq_true rfl), (Nat.le_of_ble_eq_true rfl)⟩ ⟨Nat.zero_le _, Nat.zero_le _⟩ (Nat.le_of_ble_eq_true rfl) dX9_joinAlike_14 (fun r_14 σ h_14 => ?_)
    obtain ⟨w_14, rfl, h_w_14, t_14, rfl⟩ := h_14
    refine zv_astore_n (lv' := [(2, za_O 2 w_14), (0, za_O 0 0), (1, za_I t)]) G dX9_joinAlike_17 rfl (by decide) rfl ?_
    refine zv_aload_n (j := 0) G dX9_joinAlike_18 rfl rfl ?_
    refine zv_callVNi (as := []) G (by decide) rfl rfl (zc_X6_alikeNeighbours_at0 l E w_14 σ (wzE_t hz (wz01i t_1) t_14)) zk_X6_alikeNeighbours zm_634 rfl ⟨(Nat.le_of_ble_eq_true rfl), (Nat.le_of_ble_eq_true rfl)⟩ ⟨Nat.zero_le _, Nat.zero_le _⟩ (Nat.le_of_ble_eq_true rfl) dX9_joinAlike_19 (fun r_19 σ h_19 => ?_)
    obtain ⟨h_19, rfl⟩ := h_19
    refine zv_istore_n (lv' := [(3, za_I r_19), (2, za_O 2 w_14), (0, za_O 0 0), (1, za_I t)]) G dX9_joinAlike_22 rfl (by decide) rfl ?_
    refine zv_aload_n (j := 2) G dX9_joinAlike_23 rfl rfl ?_
    refine zg_X9_16 G dX9_joinAlike_24 ?_
    refine zv_aload_n (j := 2) G dX9_joinAlike_27 rfl rfl ?_
    refine zg_X9_10 G dX9_joinAlike_28 ?_
    refine zv_callVNv (as := [za_O 1 1]) G (by decide) rfl rfl (zc_X4_copyOf_atx l E 6 1 σ (Or.inl (by decide))) zk_X4_copyOf zm_475 rfl ⟨(Nat.le_of_ble_eq_true rfl), (Nat.le_of_ble_eq_true rfl)⟩ ⟨Nat.zero_le _, Nat.zero_le _⟩ (Nat.le_of_ble_eq_true rfl) dX9_joinAlike_31 (fun σ h_31 => ?_)
    have z0 := wzE_z hz
    have hz : wzdr ([], []) ([], []) _ σ := wzdr_0 (wzdq_0 (wzE_N hz)) h_31
    refine zv_aload_n (j := 2) G dX9_joinAlike_34 rfl rfl ?_
    refine zg_X9_16 G dX9_joinAlike_35 ?_
    refine zv_iload_n (j := 3) G dX9_joinAlike_38 rfl rfl ?_
    refine zv_callVNr (as := [za_I t]) G (by decide) rfl rfl (zc_X4_table_atx l E 6 t σ (wz01i t_1)) zk_X4_table zm_453 rfl ⟨(Nat.le_of_ble_eq_true rfl), (Nat.le_of_ble_eq_true rfl)⟩ ⟨Nat.zero_le _, Nat.zero_le _⟩ (Nat.le_of_ble_eq_true rfl) dX9_joinAlike_39 (fun r_39 σ h_39 => ?_)
    obtain ⟨w_39, rfl, h_w_39, t_39, rfl⟩ := h_39
    refine zv_aload_n (j := 1) G dX9_joinAlike_42 rfl rfl ?_
    refine zv_callVNv (as := [za_O 2 w_14]) G (by decide) rfl rfl (zc_X6_fillJoined_atx l E w_39 w_14 [] σ (wzjy hz (wz01i t_1) t_14) wzOk_n (by decide) (wzpd9 (wz01i t_1) t_14 t_39)) zk_X6_fillJoined zm_646 rfl ⟨(Nat.le_of_ble_eq_true rfl), (Nat.le_of_ble_eq_true rfl)⟩ ⟨Nat.zero_le _, Nat.zero_le _⟩ (Nat.le_of_ble_eq_true rfl) dX9_joinAlike_43 (fun σ h_43 => ?_)
    have hz := wzdr_f hz (wz01i t_1) t_39 h_43
    refine zv_aload_n (j := 2) G dX9_joinAlike_46 rfl rfl ?_
    refine zv_iload_n (j := 0) G dX9_joinAlike_47 rfl rfl ?_
    refine zv_callVi (as := [za_I r_19]) G (by decide) rfl rfl (zc_X9_taken_atx l E r_19 _ σ hz.2.1) zk_X9_taken zm_489 rfl ⟨(Nat.le_of_ble_eq_true rfl), (Nat.le_of_ble_eq_true rfl)⟩ ⟨Nat.zero_le _, Nat.zero_le _⟩ (Nat.le_of_ble_eq_true rfl) dX9_joinAlike_48 (fun r_48 σ h_48 => ?_)
    have k48 := h_48
    have hz := wzdr_t hz h_48
    exact zv_iret G hr dX9_joinAlike_51 ⟨wzAn_e t_1 (wzjr9 h_19 k48), wzZ_f z0 hz.1⟩
  · have f_1 := fun q9 => (h_1.2.mpr q9) c_4
    refine zv_iconst (v := (-1)) G dX9_joinAlike_7 (by decide) ?_
    exact zv_iret G hr dX9_joinAlike_8 ⟨(wzAn_n (fun q => by first | exact f_1 (by omega))), wzE_z hz⟩
set_option maxHeartbeats 4000000 in
set_option maxRecDepth 100000 in
theorem zc_X9_setWay_aty (l : Launch) (E : za_E) (v : Int32) (σ0 : za_S) (h0 : wzE σ0) : zMi l E yX9_setWay cX9_setWay 3 (Option.some Jvm.ClassFile.FieldType.int) 1 21 [za_O 0 0, za_I v] σ0 (fun r σ' => wzWy v.toInt r ∧ wzZ σ') := by
  refine zMi_of [(0, za_O 0 0), (1, za_I v)] (by decide) rfl rfl (Nat.le_of_ble_eq_true rfl) ?_
  intro ho p e s m args below meth c G hr
  refine zv_gen (R9 := wzE) h0 (fun σ hz => ?_)
  refine zv_iload_n (j := 1) G dX9_setWay_0 rfl rfl ?_
  refine zv_if_lt (tgt := 9) G dX9_setWay_1 (by decide) (fun c_1 => ?_) (fun c_1 => ?_)
  · have k_1 := z_clt c_1 (a := v.toInt) (b := 0) rfl rfl
    refine zv_iconst (v := (-1)) G dX9_setWay_9 (by decide) ?_
    exact zv_iret G hr dX9_setWay_10 ⟨⟨fun _ => rfl, fun q => False.elim (by omega), fun q => False.elim (by omega)⟩, wzE_z hz⟩
  · have k_1 := z_cnlt c_1 (a := v.toInt) (b := 0) rfl rfl
    refine zv_iload_n (j := 1) G dX9_setWay_4 rfl rfl ?_
    refine zv_iconst (v := 2) G dX9_setWay_5 (by decide) ?_
    refine zv_icmp_le (tgt := 11) G dX9_setWay_6 (by decide) (fun c_6 => ?_) (fun c_6 => ?_)
    · have k_6 := z_cle c_6 (a := v.toInt) (b := 2) rfl rfl
      refine zv_aload_n (j := 0) G dX9_setWay_11 rfl rfl ?_
      refine zg_X9_10 G dX9_setWay_12 ?_
      refine zg_X9_238 G dX9_setWay_15 ?_
      have w9 : σ.1 1 2 = 0 := hz.1.2.2
      refine zv_top (fun x_18 e_18 => ?_)
      refine zv_istore_n (lv' := [(2, za_I x_18), (0, za_O 0 0), (1, za_I v)]) G dX9_setWay_18 rfl (by decide) rfl ?_
      refine zv_iload_n (j := 0) G dX9_setWay_19 rfl rfl ?_
      refine zv_iload_n (j := 2) G dX9_setWay_20 rfl rfl ?_
      refine zv_icmp_ne (tgt := 27) G dX9_setWay_21 (by decide) (fun c_21 => ?_) (fun c_21 => ?_)
      · have k_21 := z_cne c_21 (a := x_18.toInt) (b := v.toInt) rfl rfl
        refine zv_aload_n (j := 1) G dX9_setWay_27 rfl rfl ?_
        refine zg_X9_10 G dX9_setWay_28 ?_
        refine zv_iload_n (j := 2) G dX9_setWay_31 rfl rfl ?_
        refine zp_X9_238 G dX9_setWay_32 ?_
        refine zv_gen (R9 := wzZ) (wzZ_1 hz) (fun σ hz => ?_)
        refine zv_bipush (v := 10) G dX9_setWay_35 (by decide) ?_
        refine zv_iload_n (j := 0) G dX9_setWay_37 rfl rfl ?_
        refine zv_iadd G dX9_setWay_38 ?_
        exact zv_iret G hr dX9_setWay_39 ⟨⟨fun q => False.elim (by omega), fun q => False.elim (by have h9 := congrArg Int32.toInt (e_18.trans w9); have h8 : (0 : Int32).toInt = 0 := (by decide); omega), fun _ => by rw [e_18, w9]; decide⟩, hz⟩
      · have k_21 := z_ceq c_21 (a := x_18.toInt) (b := v.toInt) rfl rfl
        refine zv_bipush (v := (-2)) G dX9_setWay_24 (by decide) ?_
        exact zv_iret G hr dX9_setWay_26 ⟨⟨fun q => False.elim (by omega), fun _ => rfl, fun q => False.elim (by have h9 := congrArg Int32.toInt (e_18.trans w9); have h8 : (0 : Int32).toInt = 0 := (by decide); omega)⟩, wzE_z hz⟩
    · have k_6 := z_cnle c_6 (a := v.toInt) (b := 2) rfl rfl
      refine zv_iconst (v := (-1)) G dX9_setWay_9 (by decide) ?_
      exact zv_iret G hr dX9_setWay_10 ⟨⟨fun _ => rfl, fun q => False.elim (by omega), fun q => False.elim (by omega)⟩, wzE_z hz⟩
set_option maxHeartbeats 4000000 in
set_option maxRecDepth 100000 in
theorem zc_X9_addRow_aty (l : Launch) (E : za_E) (t : Int32) (k : Int32) (v : Int32) (fd : Int32) (td : Int32) (σ0 : za_S) (hN : wzNw σ0 ([], [])) : zMi l E yX9_addRow cX9_addRow 10 (Option.some Jvm.ClassFile.FieldType.int) 6 136 [za_O 0 0, za_I t, za_I k, za_I v, za_I fd, za_I td] σ0 (fun r σ' => wzAn ((0 ≤ t.toInt ∧ t.toInt ≤ 1) ∧ (0 ≤ k.toInt ∧ k.toInt ≤ 9) ∧ (0 ≤ v.toInt ∧ v.toInt ≤ 99) ∧ (0 ≤ fd.toInt ∧ fd.toInt ≤ 99) ∧ fd.toInt < td.toInt ∧ td.toInt ≤ 100) 0 (-1) r ∧ wzfz σ0 σ') := by
  refine zMi_of [(0, za_O 0 0), (1, za_I t), (2, za_I k), (3, za_I v), (4, za_I fd), (5, za_I td)] (by decide) rfl rfl (Nat.le_of_ble_eq_true rfl) ?_
  intro ho p e s m args below meth c G hr
  refine zv_gen (R9 := (wzdq (([], []) : wzP) σ0)) (wzdq_0 hN) (fun σ hz => ?_)
  refine zv_iload_n (j := 1) G dX9_addRow_0 rfl rfl ?_
  refine zv_iload_n (j := 2) G dX9_addRow_1 rfl rfl ?_
  refine zv_iload (j := 4) G dX9_addRow_2 rfl ?_
  refine zv_iload (j := 5) G dX9_addRow_4 rfl ?_
  refine zv_callSi (as := [za_I t, za_I k, za_I fd, za_I td]) G (zc_X9_isPortion_aty l E t k fd td σ ) zk_X9_isPortion zm_435 rfl ⟨(Nat.le_of_ble_eq_true rfl), (Nat.le_of_ble_eq_true rfl)⟩ ⟨Nat.zero_le _, Nat.zero_le _⟩ (Nat.le_of_ble_eq_true rfl) dX9_addRow_6 (fun r_6 σ h_6 => ?_)
  obtain ⟨h_6, rfl⟩ := h_6
  refine zv_if_eq (tgt := 19) G dX9_addRow_9 (by decide) (fun c_9 => ?_) (fun c_9 => ?_)
  · have f_6 := fun q9 => (h_6.2.mpr q9) c_9
    refine zv_iconst (v := (-1)) G dX9_addRow_19 (by decide) ?_
    exact zv_iret G hr dX9_addRow_20 ⟨wzAn_n (fun q => by first | exact f_6 ⟨q.1, q.2.1, q.2.2.2⟩ | exact f_13 q.2.2.1), hz.1⟩
  · have t_6 := h_6.2.mp c_9
    refine zv_iload_n (j := 3) G dX9_addRow_12 rfl rfl ?_
    refine zv_callSi (as := [za_I v]) G (zc_X9_isValue_aty l E v σ ) zk_X9_isValue zm_450 rfl ⟨(Nat.le_of_ble_eq_true rfl), (Nat.le_of_ble_eq_true rfl)⟩ ⟨Nat.zero_le _, Nat.zero_le _⟩ (Nat.le_of_ble_eq_true rfl) dX9_addRow_13 (fun r_13 σ h_13 => ?_)
    obtain ⟨h_13, rfl⟩ := h_13
    refine zv_if_ne (tgt := 21) G dX9_addRow_16 (by decide) (fun c_16 => ?_) (fun c_16 => ?_)
    · have t_13 := h_13.2.mp c_16
      have ht : t = 0 ∨ t = 1 := wz01i t_6.1
      have hk := t_6.2.1
      have hp := t_6.2.2
      have hv := t_13
      have hpb : (0 ≤ fd.toInt ∧ fd.toInt ≤ 100) ∧ 0 ≤ td.toInt ∧ td.toInt ≤ 100 := by omega
      have hv9 := wzsl_v hN.2.2.1 t.toInt
      have ho9 := wzVs_ok hv9
      have h20 := wzsl_20 hN.2.2.2 t.toInt
      have t9 := wzt01 ht
      refine zv_aload_n (j := 0) G dX9_addRow_21 rfl rfl ?_
      refine zg_X9_10 G dX9_addRow_22 ?_
      refine zv_iload_n (j := 1) G dX9_addRow_25 rfl rfl ?_
      refine zv_callVNr (as := [za_I t]) G (by decide) rfl rfl (zc_X4_table_atx l E 1 t σ ht) zk_X4_table zm_453 rfl ⟨(Nat.le_of_ble_eq_true rfl), (Nat.le_of_ble_eq_true rfl)⟩ ⟨Nat.zero_le _, Nat.zero_le _⟩ (Nat.le_of_ble_eq_true rfl) dX9_addRow_26 (fun r_26 σ h_26 => ?_)
      obtain ⟨w_26, rfl, h_w_26, t_26, rfl⟩ := h_26
      refine zv_astore (lv' := [(6, za_O 2 w_26), (0, za_O 0 0), (1, za_I t), (2, za_I k), (3, za_I v), (4, za_I fd), (5, za_I td)]) G dX9_addRow_29 (by decide) rfl ?_
      refine zv_aload (j := 0) G dX9_addRow_31 rfl ?_
      refine zv_iload_n (j := 3) G dX9_addRow_33 rfl rfl ?_
      refine zv_iload (j := 5) G dX9_addRow_34 rfl ?_
      refine zv_iload (j := 6) G dX9_addRow_36 rfl ?_
      refine zv_callVNi (as := [za_I k, za_I fd, za_I td]) G (by decide) rfl rfl (zc_X6_touching_atx l E w_26 k fd td (wzsl (([], []) : wzP) t.toInt) σ (wzSt_t hz.2.1 ht t_26) ho9 hpb) zk_X6_touching zm_457 rfl ⟨(Nat.le_of_ble_eq_true rfl), (Nat.le_of_ble_eq_true rfl)⟩ ⟨Nat.zero_le _, Nat.zero_le _⟩ (Nat.le_of_ble_eq_true rfl) dX9_addRow_38 (fun r_38 σ h_38 => ?_)
      obtain ⟨h_38, rfl⟩ := h_38
      have q_38 := h_38.1
      refine zv_if_le (tgt := 47) G dX9_addRow_41 (by decide) (fun c_41 => ?_) (fun c_41 => ?_)
      · have k_41 := z_cle c_41 (a := r_38.toInt) (b := 0) rfl rfl
        refine zv_aload_n (j := 1) G dX9_addRow_47 rfl rfl ?_
        refine zg_X9_16 G dX9_addRow_48 ?_
        refine zv_aload_n (j := 1) G dX9_addRow_51 rfl rfl ?_
        refine zg_X9_10 G dX9_addRow_52 ?_
        refine zv_callVNv (as := [za_O 1 1]) G (by decide) rfl rfl (zc_X4_copyOf_atx l E 6 1 σ (Or.inl (by decide))) zk_X4_copyOf zm_475 rfl ⟨(Nat.le_of_ble_eq_true rfl), (Nat.le_of_ble_eq_true rfl)⟩ ⟨Nat.zero_le _, Nat.zero_le _⟩ (Nat.le_of_ble_eq_true rfl) dX9_addRow_55 (fun σ h_55 => ?_)
        have hz := wzdr_0 hz h_55
        refine zv_aload_n (j := 1) G dX9_addRow_58 rfl rfl ?_
        refine zg_X9_16 G dX9_addRow_59 ?_
        refine zv_iload_n (j := 2) G dX9_addRow_62 rfl rfl ?_
        refine zv_callVNr (as := [za_I t]) G (by decide) rfl rfl (zc_X4_table_atx l E 6 t σ ht) zk_X4_table zm_453 rfl ⟨(Nat.le_of_ble_eq_true rfl), (Nat.le_of_ble_eq_true rfl)⟩ ⟨Nat.zero_le _, Nat.zero_le _⟩ (Nat.le_of_ble_eq_true rfl) dX9_addRow_63 (fun r_63 σ h_63 => ?_)
        obtain ⟨w_63, rfl, h_w_63, t_63, rfl⟩ := h_63
        refine zv_astore (lv' := [(7, za_O 2 w_63), (6, za_O 2 w_26), (0, za_O 0 0), (1, za_I t), (2, za_I k), (3, za_I v), (4, za_I fd), (5, za_I td)]) G dX9_addRow_66 (by decide) rfl ?_
        refine zv_aload (j := 1) G dX9_addRow_68 rfl ?_
        refine zv_iload_n (j := 4) G dX9_addRow_70 rfl rfl ?_
        refine zv_iload (j := 6) G dX9_addRow_71 rfl ?_
        refine zv_callVNi (as := [za_I k, za_I fd]) G (by decide) rfl rfl (zc_X6_numberFor_atx l E w_26 k fd (wzsl (([], []) : wzP) t.toInt) σ (wzSt_t hz.1.2.1 ht t_26)) zk_X6_numberFor zm_476 rfl ⟨(Nat.le_of_ble_eq_true rfl), (Nat.le_of_ble_eq_true rfl)⟩ ⟨Nat.zero_le _, Nat.zero_le _⟩ (Nat.le_of_ble_eq_true rfl) dX9_addRow_73 (fun r_73 σ h_73 => ?_)
        obtain ⟨h_73, rfl⟩ := h_73
        refine zv_istore (lv' := [(8, za_I r_73), (7, za_O 2 w_63), (6, za_O 2 w_26), (0, za_O 0 0), (1, za_I t), (2, za_I k), (3, za_I v), (4, za_I fd), (5, za_I td)]) G dX9_addRow_76 (by decide) rfl ?_
        refine zv_aload (j := 1) G dX9_addRow_78 rfl ?_
        refine zv_iload (j := 0) G dX9_addRow_80 rfl ?_
        refine zp_X9_106 G dX9_addRow_82 ?_
        refine zv_gen (R9 := (fun σ => wzdr (([], []) : wzP) (wzpu (([], []) : wzP) t.toInt ((wzsl (([], []) : wzP) t.toInt).take r_73.toInt.toNat)) σ0 σ ∧ wzTb σ w_63 ((wzsl (([], []) : wzP) t.toInt).take r_73.toInt.toNat))) (wzad_0 hz ht t_63 h_73.2) (fun σ hz => ?_)
        refine zv_aload (j := 1) G dX9_addRow_85 rfl ?_
        refine zv_iload_n (j := 5) G dX9_addRow_87 rfl rfl ?_
        refine zv_iload_n (j := 6) G dX9_addRow_88 rfl rfl ?_
        refine zv_iload (j := 7) G dX9_addRow_89 rfl ?_
        refine zv_iload (j := 8) G dX9_addRow_91 rfl ?_
        refine zv_bipush (v := 10) G dX9_addRow_93 (by decide) ?_
        refine zv_callVNv (as := [za_I k, za_I v, za_I fd, za_I td, za_I 10]) G (by decide) rfl rfl (zc_X6_append_atx l E w_63 k v fd td (10 : Int32) _ σ hz.2 (by rw [List.length_take]; omega)) zk_X6_append zm_480 rfl ⟨(Nat.le_of_ble_eq_true rfl), (Nat.le_of_ble_eq_true rfl)⟩ ⟨Nat.zero_le _, Nat.zero_le _⟩ (Nat.le_of_ble_eq_true rfl) dX9_addRow_95 (fun σ h_95 => ?_)
        have hz := wzad_1 hz.1 ht t_63 h_95
        have hg9 : 0 ≤ r_73.toInt ∧ r_73.toInt ≤ (wzsl (([], []) : wzP) t.toInt).length := h_73.2
        refine zv_iload (j := 0) G dX9_addRow_98 rfl ?_
        have J_102 : ∀ (n : Nat) (y9_102 : Int32) (σ : za_S) (hz : wzdr (([], []) : wzP) (wzpu (([], []) : wzP) t.toInt (wzin9 (wzsl (([], []) : wzP) t.toInt) r_73.toInt.toNat (k.toInt, v.toInt, fd.toInt, td.toInt, 10) y9_102.toInt.toNat)) σ0 σ) (g_102 : r_73.toInt ≤ y9_102.toInt ∧ y9_102.toInt ≤ (wzsl (([], []) : wzP) t.toInt).length) (hn_102 : (2147483648 - y9_102.toInt).toNat < n), zV p l e (zRm 6 136) s m args below meth c E (za_A E) 10 0 0 (MQ below (va_Qi (fun r σ' => wzAn ((0 ≤ t.toInt ∧ t.toInt ≤ 1) ∧ (0 ≤ k.toInt ∧ k.toInt ≤ 9) ∧ (0 ≤ v.toInt ∧ v.toInt ≤ 99) ∧ (0 ≤ fd.toInt ∧ fd.toInt ≤ 99) ∧ fd.toInt < td.toInt ∧ td.toInt ≤ 100) 0 (-1) r ∧ wzfz σ0 σ') (zB E) (za_A E)) args s 0 0 (za_A E)) 102 [(0, za_O 0 0), (6, za_O 2 w_26), (7, za_O 2 w_63), (8, za_I r_73), (9, za_I y9_102)] [] σ := by
          intro n
          induction n with
          | zero => intro y9_102 σ hz g_102 hn; exact absurd hn (Nat.not_lt_zero _)
          | succ n ih_102 =>
            intro y9_102 σ hz g_102 hn_102
            have hn8 := (wzSt_t hz.1.2.1 ht t_26).1
            refine zv_iload (j := 4) G dX9_addRow_102 rfl ?_
            refine zv_aload (j := 1) G dX9_addRow_104 rfl ?_
            refine zg_X9_106 G dX9_addRow_106 ?_
            refine zv_icmp_ge (tgt := 130) G dX9_addRow_109 (by decide) (fun c_109 => ?_) (fun c_109 => ?_)
            · have k_109 := z_cle c_109 (a := (σ.1 w_26 1).toInt) (b := y9_102.toInt) rfl rfl
              refine zv_aload_n (j := 0) G dX9_addRow_130 rfl rfl ?_
              refine zv_iload (j := 3) G dX9_addRow_131 rfl ?_
              refine zv_callVi (as := [za_I r_73]) G (by decide) rfl rfl (zc_X9_taken_atx l E r_73 _ σ hz.2.1) zk_X9_taken zm_489 rfl ⟨(Nat.le_of_ble_eq_true rfl), (Nat.le_of_ble_eq_true rfl)⟩ ⟨Nat.zero_le _, Nat.zero_le _⟩ (Nat.le_of_ble_eq_true rfl) dX9_addRow_133 (fun r_133 σ h_133 => ?_)
              have k133 := h_133
              have hz := wzdr_t hz h_133
              exact zv_iret G hr dX9_addRow_136 ⟨wzAn_e ⟨t_6.1, t_6.2.1, t_13, t_6.2.2⟩ (wzad_r h_73 (by rw [show y9_102.toInt.toNat = (wzsl ([], []) t.toInt).length by omega]) k133), hz.1⟩
            · have k_109 := z_cnle c_109 (a := (σ.1 w_26 1).toInt) (b := y9_102.toInt) rfl rfl
              refine zv_aload (j := 2) G dX9_addRow_112 rfl ?_
              refine zv_aload (j := 1) G dX9_addRow_114 rfl ?_
              refine zv_iload (j := 4) G dX9_addRow_116 rfl ?_
              refine zv_iconst (v := 0) G dX9_addRow_118 (by decide) ?_
              refine zv_bipush (v := 100) G dX9_addRow_119 (by decide) ?_
              refine zv_callVNv (as := [za_O 2 w_26, za_I y9_102, za_I 0, za_I 100]) G (by decide) rfl rfl (zc_X6_appendPart_atx l E w_63 w_26 y9_102 (0 : Int32) (100 : Int32) (wzsl (([], []) : wzP) t.toInt) _ σ (wzSt_t hz.1.2.1 ht t_26) (by omega) (wzSt_x hz ht t_63) (wzin_len h20)) zk_X6_appendPart zm_484 rfl ⟨(Nat.le_of_ble_eq_true rfl), (Nat.le_of_ble_eq_true rfl)⟩ ⟨Nat.zero_le _, Nat.zero_le _⟩ (Nat.le_of_ble_eq_true rfl) dX9_addRow_121 (fun σ h_121 => ?_)
              have hz := wzdr_p hz ht t_63 h_121
              obtain ⟨x_124, e_124⟩ : ∃ y : Int32, y = y9_102 + 1 := ⟨_, rfl⟩
              refine zv_iinc (j := 4) (v := x_124) (lv' := [(9, za_I x_124), (0, za_O 0 0), (6, za_O 2 w_26), (7, za_O 2 w_63), (8, za_I r_73)]) G dX9_addRow_124 rfl (by rw [e_124]; rfl) (by decide) rfl ?_
              first | have q_124 := z_inc9 (by omega) e_124 | skip
              refine zv_goto (tgt := 102) G dX9_addRow_127 (by decide) ?_
              refine zv_sub [1, 2, 3, 4, 0] (lv' := [(0, za_O 0 0), (6, za_O 2 w_26), (7, za_O 2 w_63), (8, za_I r_73), (9, za_I x_124)]) rfl ?_
              exact ih_102 x_124 σ (by rw [show x_124.toInt.toNat = y9_102.toInt.toNat + 1 by omega, wzin_s h20 (by omega) (by omega)]; exact hz) (by omega) (z_meas c_109 e_124 hn_102)
        refine zv_istore (lv' := [(9, za_I r_73), (8, za_I r_73), (7, za_O 2 w_63), (6, za_O 2 w_26), (0, za_O 0 0), (1, za_I t), (2, za_I k), (3, za_I v), (4, za_I fd), (5, za_I td)]) G dX9_addRow_100 (by decide) rfl ?_
        refine zv_sub [4, 3, 2, 1, 0] (lv' := [(0, za_O 0 0), (6, za_O 2 w_26), (7, za_O 2 w_63), (8, za_I r_73), (9, za_I r_73)]) rfl ?_
        exact J_102 _ r_73 σ hz (by omega) (Nat.lt_succ_self _)
      · have k_41 := z_cnle c_41 (a := r_38.toInt) (b := 0) rfl rfl
        refine zv_bipush (v := (-2)) G dX9_addRow_44 (by decide) ?_
        exact zv_iret G hr dX9_addRow_46 ((wzal_yes h_38.2 (by omega)) (by rw [wzsl_n]; exact wzno_n _ _ _)).elim
    · have f_13 := fun q9 => (h_13.2.mpr q9) c_16
      refine zv_iconst (v := (-1)) G dX9_addRow_19 (by decide) ?_
      exact zv_iret G hr dX9_addRow_20 ⟨wzAn_n (fun q => by first | exact f_6 ⟨q.1, q.2.1, q.2.2.2⟩ | exact f_13 q.2.2.1), hz.1⟩
set_option maxHeartbeats 4000000 in
set_option maxRecDepth 100000 in
theorem zc_X9_sets_at0 (l : Launch) (E : za_E) (t : Int32) (k : Int32) (v : Int32) (fd : Int32) (td : Int32) (σ0 : za_S) (h0 : wzE σ0) : zMi l E yX9_sets cX9_sets 6 (Option.some Jvm.ClassFile.FieldType.int) 7 163 [za_O 0 0, za_I t, za_I k, za_I v, za_I fd, za_I td] σ0 (fun r σ' => wzAn ((0 ≤ t.toInt ∧ t.toInt ≤ 1) ∧ (0 ≤ k.toInt ∧ k.toInt ≤ 9) ∧ (0 ≤ v.toInt ∧ v.toInt ≤ 99) ∧ (0 ≤ fd.toInt ∧ fd.toInt ≤ 99) ∧ fd.toInt < td.toInt ∧ td.toInt ≤ 100) (-2) (-1) r ∧ wzZ σ') := by
  refine zMi_of [(0, za_O 0 0), (1, za_I t), (2, za_I k), (3, za_I v), (4, za_I fd), (5, za_I td)] (by decide) rfl rfl (Nat.le_of_ble_eq_true rfl) ?_
  intro ho p e s m args below meth c G hr
  refine zv_gen (R9 := wzE) h0 (fun σ hz => ?_)
  refine zv_aload_n (j := 0) G dX9_sets_0 rfl rfl ?_
  refine zg_X9_22 G dX9_sets_1 ?_
  refine zv_aload_n (j := 0) G dX9_sets_4 rfl rfl ?_
  refine zg_X9_10 G dX9_sets_5 ?_
  refine zv_callVNv (as := [za_O 1 1]) G (by decide) rfl rfl (zc_X2_prepare_atx l E 1 σ rfl) zk_X2_prepare zm_409 rfl ⟨(Nat.le_of_ble_eq_true rfl), (Nat.le_of_ble_eq_true rfl)⟩ ⟨Nat.zero_le _, Nat.zero_le _⟩ (Nat.le_of_ble_eq_true rfl) dX9_sets_8 (fun σ h_8 => ?_)
  obtain ⟨j8, j9, k8⟩ := h_8
  have hz := wzE_s hz j9 k8
  refine zv_aload_n (j := 0) G dX9_sets_11 rfl rfl ?_
  refine zv_aload_n (j := 0) G dX9_sets_12 rfl rfl ?_
  refine zv_iload_n (j := 1) G dX9_sets_13 rfl rfl ?_
  refine zv_iload_n (j := 2) G dX9_sets_14 rfl rfl ?_
  refine zv_iload_n (j := 3) G dX9_sets_15 rfl rfl ?_
  refine zv_iload (j := 4) G dX9_sets_16 rfl ?_
  refine zv_iload (j := 5) G dX9_sets_18 rfl ?_
  refine zv_callVi (as := [za_I t, za_I k, za_I v, za_I fd, za_I td]) G (by decide) rfl rfl (zc_X9_setValue_aty l E t k v fd td σ hz) zk_X9_setValue zm_505 rfl ⟨(Nat.le_of_ble_eq_true rfl), (Nat.le_of_ble_eq_true rfl)⟩ ⟨Nat.zero_le _, Nat.zero_le _⟩ (Nat.le_of_ble_eq_true rfl) dX9_sets_20 (fun r_20 σ h_20 => ?_)
  have z9 := h_20
  refine zv_callVi (as := [za_I r_20]) G (by decide) rfl rfl (zc_X9_noted_atx l E r_20 σ ) zk_X9_noted zm_493 rfl ⟨(Nat.le_of_ble_eq_true rfl), (Nat.le_of_ble_eq_true rfl)⟩ ⟨Nat.zero_le _, Nat.zero_le _⟩ (Nat.le_of_ble_eq_true rfl) dX9_sets_23 (fun r_23 σ h_23 => ?_)
  have y9 := h_23
  exact zv_iret G hr dX9_sets_26 ⟨by rw [y9.1]; exact z9.1, wzZ_c z9.2 y9.2⟩
set_option maxHeartbeats 4000000 in
set_option maxRecDepth 100000 in
theorem zc_X9_refers_at0 (l : Launch) (E : za_E) (k : Int32) (v : Int32) (fd : Int32) (td : Int32) (σ0 : za_S) (h0 : wzE σ0) : zMi l E yX9_refers cX9_refers 5 (Option.some Jvm.ClassFile.FieldType.int) 7 161 [za_O 0 0, za_I k, za_I v, za_I fd, za_I td] σ0 (fun r σ' => wzAn ((0 ≤ k.toInt ∧ k.toInt ≤ 9) ∧ (0 ≤ v.toInt ∧ v.toInt ≤ 10) ∧ (0 ≤ fd.toInt ∧ fd.toInt ≤ 99) ∧ fd.toInt < td.toInt ∧ td.toInt ≤ 100) (-2) (-1) r ∧ wzZ σ') := by
  refine zMi_of [(0, za_O 0 0), (1, za_I k), (2, za_I v), (3, za_I fd), (4, za_I td)] (by decide) rfl rfl (Nat.le_of_ble_eq_true rfl) ?_
  intro ho p e s m args below meth c G hr
  refine zv_gen (R9 := wzE) h0 (fun σ hz => ?_)
  refine zv_aload_n (j := 0) G dX9_refers_0 rfl rfl ?_
  refine zg_X9_22 G dX9_refers_1 ?_
  refine zv_aload_n (j := 0) G dX9_refers_4 rfl rfl ?_
  refine zg_X9_10 G dX9_refers_5 ?_
  refine zv_callVNv (as := [za_O 1 1]) G (by decide) rfl rfl (zc_X2_prepare_atx l E 1 σ rfl) zk_X2_prepare zm_409 rfl ⟨(Nat.le_of_ble_eq_true rfl), (Nat.le_of_ble_eq_true rfl)⟩ ⟨Nat.zero_le _, Nat.zero_le _⟩ (Nat.le_of_ble_eq_true rfl) dX9_refers_8 (fun σ h_8 => ?_)
  obtain ⟨j8, j9, k8⟩ := h_8
  have hz := wzE_s hz j9 k8
  refine zv_aload_n (j := 0) G dX9_refers_11 rfl rfl ?_
  refine zv_aload_n (j := 0) G dX9_refers_12 rfl rfl ?_
  refine zv_iload_n (j := 1) G dX9_refers_13 rfl rfl ?_
  refine zv_iload_n (j := 2) G dX9_refers_14 rfl rfl ?_
  refine zv_iload_n (j := 3) G dX9_refers_15 rfl rfl ?_
  refine zv_iload (j := 4) G dX9_refers_16 rfl ?_
  refine zv_callVi (as := [za_I k, za_I v, za_I fd, za_I td]) G (by decide) rfl rfl (zc_X9_setRef_aty l E k v fd td σ hz) zk_X9_setRef zm_543 rfl ⟨(Nat.le_of_ble_eq_true rfl), (Nat.le_of_ble_eq_true rfl)⟩ ⟨Nat.zero_le _, Nat.zero_le _⟩ (Nat.le_of_ble_eq_true rfl) dX9_refers_18 (fun r_18 σ h_18 => ?_)
  have z9 := h_18
  refine zv_callVi (as := [za_I r_18]) G (by decide) rfl rfl (zc_X9_noted_atx l E r_18 σ ) zk_X9_noted zm_493 rfl ⟨(Nat.le_of_ble_eq_true rfl), (Nat.le_of_ble_eq_true rfl)⟩ ⟨Nat.zero_le _, Nat.zero_le _⟩ (Nat.le_of_ble_eq_true rfl) dX9_refers_21 (fun r_21 σ h_21 => ?_)
  have y9 := h_21
  exact zv_iret G hr dX9_refers_24 ⟨by rw [y9.1]; exact z9.1, wzZ_c z9.2 y9.2⟩
set_option maxHeartbeats 4000000 in
set_option maxRecDepth 100000 in
theorem zc_X9_cuts_at0 (l : Launch) (E : za_E) (t : Int32) (k : Int32) (fd : Int32) (td : Int32) (σ0 : za_S) (h0 : wzE σ0) : zMi l E yX9_cuts cX9_cuts 5 (Option.some Jvm.ClassFile.FieldType.int) 7 165 [za_O 0 0, za_I t, za_I k, za_I fd, za_I td] σ0 (fun r σ' => wzAn ((0 ≤ t.toInt ∧ t.toInt ≤ 1) ∧ (0 ≤ k.toInt ∧ k.toInt ≤ 9) ∧ (0 ≤ fd.toInt ∧ fd.toInt ≤ 99) ∧ fd.toInt < td.toInt ∧ td.toInt ≤ 100) (-2) (-1) r ∧ wzZ σ') := by
  refine zMi_of [(0, za_O 0 0), (1, za_I t), (2, za_I k), (3, za_I fd), (4, za_I td)] (by decide) rfl rfl (Nat.le_of_ble_eq_true rfl) ?_
  intro ho p e s m args below meth c G hr
  refine zv_gen (R9 := wzE) h0 (fun σ hz => ?_)
  refine zv_aload_n (j := 0) G dX9_cuts_0 rfl rfl ?_
  refine zg_X9_22 G dX9_cuts_1 ?_
  refine zv_aload_n (j := 0) G dX9_cuts_4 rfl rfl ?_
  refine zg_X9_10 G dX9_cuts_5 ?_
  refine zv_callVNv (as := [za_O 1 1]) G (by decide) rfl rfl (zc_X2_prepare_atx l E 1 σ rfl) zk_X2_prepare zm_409 rfl ⟨(Nat.le_of_ble_eq_true rfl), (Nat.le_of_ble_eq_true rfl)⟩ ⟨Nat.zero_le _, Nat.zero_le _⟩ (Nat.le_of_ble_eq_true rfl) dX9_cuts_8 (fun σ h_8 => ?_)
  obtain ⟨j8, j9, k8⟩ := h_8
  have hz := wzE_s hz j9 k8
  refine zv_aload_n (j := 0) G dX9_cuts_11 rfl rfl ?_
  refine zv_aload_n (j := 0) G dX9_cuts_12 rfl rfl ?_
  refine zv_iload_n (j := 1) G dX9_cuts_13 rfl rfl ?_
  refine zv_iload_n (j := 2) G dX9_cuts_14 rfl rfl ?_
  refine zv_iload_n (j := 3) G dX9_cuts_15 rfl rfl ?_
  refine zv_iload (j := 4) G dX9_cuts_16 rfl ?_
  refine zv_callVi (as := [za_I t, za_I k, za_I fd, za_I td]) G (by decide) rfl rfl (zc_X9_cutPeriod_aty l E t k fd td σ hz) zk_X9_cutPeriod zm_564 rfl ⟨(Nat.le_of_ble_eq_true rfl), (Nat.le_of_ble_eq_true rfl)⟩ ⟨Nat.zero_le _, Nat.zero_le _⟩ (Nat.le_of_ble_eq_true rfl) dX9_cuts_18 (fun r_18 σ h_18 => ?_)
  have z9 := h_18
  refine zv_callVi (as := [za_I r_18]) G (by decide) rfl rfl (zc_X9_noted_atx l E r_18 σ ) zk_X9_noted zm_493 rfl ⟨(Nat.le_of_ble_eq_true rfl), (Nat.le_of_ble_eq_true rfl)⟩ ⟨Nat.zero_le _, Nat.zero_le _⟩ (Nat.le_of_ble_eq_true rfl) dX9_cuts_21 (fun r_21 σ h_21 => ?_)
  have y9 := h_21
  exact zv_iret G hr dX9_cuts_24 ⟨by rw [y9.1]; exact z9.1, wzZ_c z9.2 y9.2⟩
set_option maxHeartbeats 4000000 in
set_option maxRecDepth 100000 in
theorem zc_X9_shifts_at0 (l : Launch) (E : za_E) (t : Int32) (k : Int32) (sh : Int32) (σ0 : za_S) (h0 : wzE σ0) : zMi l E yX9_shifts cX9_shifts 4 (Option.some Jvm.ClassFile.FieldType.int) 7 161 [za_O 0 0, za_I t, za_I k, za_I sh] σ0 (fun r σ' => wzAn ((0 ≤ t.toInt ∧ t.toInt ≤ 1) ∧ (0 ≤ k.toInt ∧ k.toInt ≤ 9) ∧ ¬ sh.toInt = 0 ∧ -99 ≤ sh.toInt ∧ sh.toInt ≤ 99) (-2) (-1) r ∧ wzZ σ') := by
  refine zMi_of [(0, za_O 0 0), (1, za_I t), (2, za_I k), (3, za_I sh)] (by decide) rfl rfl (Nat.le_of_ble_eq_true rfl) ?_
  intro ho p e s m args below meth c G hr
  refine zv_gen (R9 := wzE) h0 (fun σ hz => ?_)
  refine zv_aload_n (j := 0) G dX9_shifts_0 rfl rfl ?_
  refine zg_X9_22 G dX9_shifts_1 ?_
  refine zv_aload_n (j := 0) G dX9_shifts_4 rfl rfl ?_
  refine zg_X9_10 G dX9_shifts_5 ?_
  refine zv_callVNv (as := [za_O 1 1]) G (by decide) rfl rfl (zc_X2_prepare_atx l E 1 σ rfl) zk_X2_prepare zm_409 rfl ⟨(Nat.le_of_ble_eq_true rfl), (Nat.le_of_ble_eq_true rfl)⟩ ⟨Nat.zero_le _, Nat.zero_le _⟩ (Nat.le_of_ble_eq_true rfl) dX9_shifts_8 (fun σ h_8 => ?_)
  obtain ⟨j8, j9, k8⟩ := h_8
  have hz := wzE_s hz j9 k8
  refine zv_aload_n (j := 0) G dX9_shifts_11 rfl rfl ?_
  refine zv_aload_n (j := 0) G dX9_shifts_12 rfl rfl ?_
  refine zv_iload_n (j := 1) G dX9_shifts_13 rfl rfl ?_
  refine zv_iload_n (j := 2) G dX9_shifts_14 rfl rfl ?_
  refine zv_iload_n (j := 3) G dX9_shifts_15 rfl rfl ?_
  refine zv_callVi (as := [za_I t, za_I k, za_I sh]) G (by decide) rfl rfl (zc_X9_shiftKey_aty l E t k sh σ hz) zk_X9_shiftKey zm_617 rfl ⟨(Nat.le_of_ble_eq_true rfl), (Nat.le_of_ble_eq_true rfl)⟩ ⟨Nat.zero_le _, Nat.zero_le _⟩ (Nat.le_of_ble_eq_true rfl) dX9_shifts_16 (fun r_16 σ h_16 => ?_)
  have z9 := h_16
  refine zv_callVi (as := [za_I r_16]) G (by decide) rfl rfl (zc_X9_noted_atx l E r_16 σ ) zk_X9_noted zm_493 rfl ⟨(Nat.le_of_ble_eq_true rfl), (Nat.le_of_ble_eq_true rfl)⟩ ⟨Nat.zero_le _, Nat.zero_le _⟩ (Nat.le_of_ble_eq_true rfl) dX9_shifts_19 (fun r_19 σ h_19 => ?_)
  have y9 := h_19
  exact zv_iret G hr dX9_shifts_22 ⟨by rw [y9.1]; exact z9.1, wzZ_c z9.2 y9.2⟩
set_option maxHeartbeats 4000000 in
set_option maxRecDepth 100000 in
theorem zc_X9_joins_at0 (l : Launch) (E : za_E) (t : Int32) (σ0 : za_S) (h0 : wzE σ0) : zMi l E yX9_joins cX9_joins 2 (Option.some Jvm.ClassFile.FieldType.int) 7 151 [za_O 0 0, za_I t] σ0 (fun r σ' => wzAn ((0 ≤ t.toInt ∧ t.toInt ≤ 1)) 0 (-1) r ∧ wzZ σ') := by
  refine zMi_of [(0, za_O 0 0), (1, za_I t)] (by decide) rfl rfl (Nat.le_of_ble_eq_true rfl) ?_
  intro ho p e s m args below meth c G hr
  refine zv_gen (R9 := wzE) h0 (fun σ hz => ?_)
  refine zv_aload_n (j := 0) G dX9_joins_0 rfl rfl ?_
  refine zg_X9_22 G dX9_joins_1 ?_
  refine zv_aload_n (j := 0) G dX9_joins_4 rfl rfl ?_
  refine zg_X9_10 G dX9_joins_5 ?_
  refine zv_callVNv (as := [za_O 1 1]) G (by decide) rfl rfl (zc_X2_prepare_atx l E 1 σ rfl) zk_X2_prepare zm_409 rfl ⟨(Nat.le_of_ble_eq_true rfl), (Nat.le_of_ble_eq_true rfl)⟩ ⟨Nat.zero_le _, Nat.zero_le _⟩ (Nat.le_of_ble_eq_true rfl) dX9_joins_8 (fun σ h_8 => ?_)
  obtain ⟨j8, j9, k8⟩ := h_8
  have hz := wzE_s hz j9 k8
  refine zv_aload_n (j := 0) G dX9_joins_11 rfl rfl ?_
  refine zv_aload_n (j := 0) G dX9_joins_12 rfl rfl ?_
  refine zv_iload_n (j := 1) G dX9_joins_13 rfl rfl ?_
  refine zv_callVi (as := [za_I t]) G (by decide) rfl rfl (zc_X9_joinAlike_aty l E t σ hz) zk_X9_joinAlike zm_630 rfl ⟨(Nat.le_of_ble_eq_true rfl), (Nat.le_of_ble_eq_true rfl)⟩ ⟨Nat.zero_le _, Nat.zero_le _⟩ (Nat.le_of_ble_eq_true rfl) dX9_joins_14 (fun r_14 σ h_14 => ?_)
  have z9 := h_14
  refine zv_callVi (as := [za_I r_14]) G (by decide) rfl rfl (zc_X9_noted_atx l E r_14 σ ) zk_X9_noted zm_493 rfl ⟨(Nat.le_of_ble_eq_true rfl), (Nat.le_of_ble_eq_true rfl)⟩ ⟨Nat.zero_le _, Nat.zero_le _⟩ (Nat.le_of_ble_eq_true rfl) dX9_joins_17 (fun r_17 σ h_17 => ?_)
  have y9 := h_17
  exact zv_iret G hr dX9_joins_20 ⟨by rw [y9.1]; exact z9.1, wzZ_c z9.2 y9.2⟩
set_option maxHeartbeats 4000000 in
set_option maxRecDepth 100000 in
theorem zc_X9_way_at0 (l : Launch) (E : za_E) (v : Int32) (σ0 : za_S) (h0 : wzE σ0) : zMi l E yX9_way cX9_way 2 (Option.some Jvm.ClassFile.FieldType.int) 4 123 [za_O 0 0, za_I v] σ0 (fun r σ' => wzWy v.toInt r ∧ wzZ σ') := by
  refine zMi_of [(0, za_O 0 0), (1, za_I v)] (by decide) rfl rfl (Nat.le_of_ble_eq_true rfl) ?_
  intro ho p e s m args below meth c G hr
  refine zv_gen (R9 := wzE) h0 (fun σ hz => ?_)
  refine zv_aload_n (j := 0) G dX9_way_0 rfl rfl ?_
  refine zg_X9_22 G dX9_way_1 ?_
  refine zv_aload_n (j := 0) G dX9_way_4 rfl rfl ?_
  refine zg_X9_10 G dX9_way_5 ?_
  refine zv_callVNv (as := [za_O 1 1]) G (by decide) rfl rfl (zc_X2_prepare_atx l E 1 σ rfl) zk_X2_prepare zm_409 rfl ⟨(Nat.le_of_ble_eq_true rfl), (Nat.le_of_ble_eq_true rfl)⟩ ⟨Nat.zero_le _, Nat.zero_le _⟩ (Nat.le_of_ble_eq_true rfl) dX9_way_8 (fun σ h_8 => ?_)
  obtain ⟨j8, j9, k8⟩ := h_8
  have hz := wzE_s hz j9 k8
  refine zv_aload_n (j := 0) G dX9_way_11 rfl rfl ?_
  refine zv_aload_n (j := 0) G dX9_way_12 rfl rfl ?_
  refine zv_iload_n (j := 1) G dX9_way_13 rfl rfl ?_
  refine zv_callVi (as := [za_I v]) G (by decide) rfl rfl (zc_X9_setWay_aty l E v σ hz) zk_X9_setWay zm_654 rfl ⟨(Nat.le_of_ble_eq_true rfl), (Nat.le_of_ble_eq_true rfl)⟩ ⟨Nat.zero_le _, Nat.zero_le _⟩ (Nat.le_of_ble_eq_true rfl) dX9_way_14 (fun r_14 σ h_14 => ?_)
  have z9 := h_14
  refine zv_callVi (as := [za_I r_14]) G (by decide) rfl rfl (zc_X9_noted_atx l E r_14 σ ) zk_X9_noted zm_493 rfl ⟨(Nat.le_of_ble_eq_true rfl), (Nat.le_of_ble_eq_true rfl)⟩ ⟨Nat.zero_le _, Nat.zero_le _⟩ (Nat.le_of_ble_eq_true rfl) dX9_way_17 (fun r_17 σ h_17 => ?_)
  have y9 := h_17
  exact zv_iret G hr dX9_way_20 ⟨by rw [y9.1]; exact z9.1, wzZ_c z9.2 y9.2⟩
set_option maxHeartbeats 4000000 in
set_option maxRecDepth 100000 in
theorem zc_X9_adds_at0 (l : Launch) (E : za_E) (t : Int32) (k : Int32) (v : Int32) (fd : Int32) (td : Int32) (σ0 : za_S) (h0 : wzE σ0) : zMi l E yX9_adds cX9_adds 6 (Option.some Jvm.ClassFile.FieldType.int) 7 165 [za_O 0 0, za_I t, za_I k, za_I v, za_I fd, za_I td] σ0 (fun r σ' => wzAn ((0 ≤ t.toInt ∧ t.toInt ≤ 1) ∧ (0 ≤ k.toInt ∧ k.toInt ≤ 9) ∧ (0 ≤ v.toInt ∧ v.toInt ≤ 99) ∧ (0 ≤ fd.toInt ∧ fd.toInt ≤ 99) ∧ fd.toInt < td.toInt ∧ td.toInt ≤ 100) 0 (-1) r ∧ wzZ σ') := by
  refine zMi_of [(0, za_O 0 0), (1, za_I t), (2, za_I k), (3, za_I v), (4, za_I fd), (5, za_I td)] (by decide) rfl rfl (Nat.le_of_ble_eq_true rfl) ?_
  intro ho p e s m args below meth c G hr
  refine zv_gen (R9 := wzE) h0 (fun σ hz => ?_)
  refine zv_aload_n (j := 0) G dX9_adds_0 rfl rfl ?_
  refine zg_X9_22 G dX9_adds_1 ?_
  refine zv_aload_n (j := 0) G dX9_adds_4 rfl rfl ?_
  refine zg_X9_10 G dX9_adds_5 ?_
  refine zv_callVNv (as := [za_O 1 1]) G (by decide) rfl rfl (zc_X2_prepare_atx l E 1 σ rfl) zk_X2_prepare zm_409 rfl ⟨(Nat.le_of_ble_eq_true rfl), (Nat.le_of_ble_eq_true rfl)⟩ ⟨Nat.zero_le _, Nat.zero_le _⟩ (Nat.le_of_ble_eq_true rfl) dX9_adds_8 (fun σ h_8 => ?_)
  obtain ⟨j8, j9, k8⟩ := h_8
  have hz := wzE_s hz j9 k8
  refine zv_aload_n (j := 0) G dX9_adds_11 rfl rfl ?_
  refine zv_aload_n (j := 0) G dX9_adds_12 rfl rfl ?_
  refine zv_iload_n (j := 1) G dX9_adds_13 rfl rfl ?_
  refine zv_iload_n (j := 2) G dX9_adds_14 rfl rfl ?_
  refine zv_iload_n (j := 3) G dX9_adds_15 rfl rfl ?_
  refine zv_iload (j := 4) G dX9_adds_16 rfl ?_
  refine zv_iload (j := 5) G dX9_adds_18 rfl ?_
  refine zv_callVi (as := [za_I t, za_I k, za_I v, za_I fd, za_I td]) G (by decide) rfl rfl (zc_X9_addRow_aty l E t k v fd td σ (wzE_N hz)) zk_X9_addRow zm_431 rfl ⟨(Nat.le_of_ble_eq_true rfl), (Nat.le_of_ble_eq_true rfl)⟩ ⟨Nat.zero_le _, Nat.zero_le _⟩ (Nat.le_of_ble_eq_true rfl) dX9_adds_20 (fun r_20 σ h_20 => ?_)
  have z8 := wzE_z hz
  have z9 := h_20
  refine zv_callVi (as := [za_I r_20]) G (by decide) rfl rfl (zc_X9_noted_atx l E r_20 σ ) zk_X9_noted zm_493 rfl ⟨(Nat.le_of_ble_eq_true rfl), (Nat.le_of_ble_eq_true rfl)⟩ ⟨Nat.zero_le _, Nat.zero_le _⟩ (Nat.le_of_ble_eq_true rfl) dX9_adds_23 (fun r_23 σ h_23 => ?_)
  have y9 := h_23
  exact zv_iret G hr dX9_adds_26 ⟨by rw [y9.1]; exact z9.1, wzZ_c (wzZ_f z8 z9.2) y9.2⟩
set_option maxHeartbeats 4000000 in
set_option maxRecDepth 100000 in
theorem zc_X7_faultOfWork_at0 (l : Launch) (E : za_E)  (σ : za_S) (hs : σ.1 79 1 = 0) : zMi l E yX7_faultOfWork cX7_faultOfWork 5 (Option.some Jvm.ClassFile.FieldType.int) 1 21 [za_O 7 79] σ (fun r σ' => (r = (-1)) ∧ σ' = σ) := by
  refine zMi_of [(0, za_O 7 79)] (by decide) rfl rfl (Nat.le_of_ble_eq_true rfl) ?_
  intro ho p e s m args below meth c G hr
  refine zv_iconst (v := 0) G dX7_faultOfWork_0 (by decide) ?_
  refine zv_istore_n (lv' := [(1, za_I 0), (0, za_O 7 79)]) G dX7_faultOfWork_1 rfl (by decide) rfl ?_
  refine zv_iconst (v := 0) G dX7_faultOfWork_2 (by decide) ?_
  refine zv_istore_n (lv' := [(2, za_I 0), (1, za_I 0), (0, za_O 7 79)]) G dX7_faultOfWork_3 rfl (by decide) rfl ?_
  refine zv_iload_n (j := 0) G dX7_faultOfWork_4 rfl rfl ?_
  refine zv_bipush (v := 80) G dX7_faultOfWork_5 (by decide) ?_
  refine zv_icmp_ge (tgt := 92) G dX7_faultOfWork_7 (by decide) (fun c_7 => ?_) (fun c_7 => ?_)
  · exact absurd c_7 (by decide)
  · have k_7 := z_cnle c_7 (a := 80) (b := 0) rfl rfl
    refine zv_iload_n (j := 1) G dX7_faultOfWork_10 rfl rfl ?_
    refine zv_aload_n (j := 2) G dX7_faultOfWork_11 rfl rfl ?_
    refine zg_X7_15 G dX7_faultOfWork_12 ?_
    refine zv_icmp_ge (tgt := 92) G dX7_faultOfWork_15 (by decide) (fun c_15 => ?_) (fun c_15 => ?_)
    · have k_15 := z_cle c_15 (a := (σ.1 79 1).toInt) (b := 0) rfl rfl
      refine zv_iconst (v := (-1)) G dX7_faultOfWork_92 (by decide) ?_
      exact zv_iret G hr dX7_faultOfWork_93 ⟨rfl, rfl⟩
    · exact absurd (show (σ.1 79 1) ≤ 0 by rw [hs]; decide) c_15
set_option maxHeartbeats 4000000 in
set_option maxRecDepth 100000 in
theorem zc_X9_work_at0 (l : Launch) (E : za_E)  (σ0 : za_S) (h0 : wzE σ0) : zMi l E yX9_work cX9_work 6 (Option.some Jvm.ClassFile.FieldType.int) 4 123 [za_O 0 0] σ0 (fun r σ' => r = 0 ∧ wzZ σ') := by
  refine zMi_of [(0, za_O 0 0)] (by decide) rfl rfl (Nat.le_of_ble_eq_true rfl) ?_
  intro ho p e s m args below meth c G hr
  refine zv_gen (R9 := wzE) h0 (fun σ hz => ?_)
  refine zv_aload_n (j := 0) G dX9_work_0 rfl rfl ?_
  refine zg_X9_33 G dX9_work_1 ?_
  refine zv_callVNi (as := []) G (by decide) rfl rfl (zc_X7_faultOfWork_at0 l E  σ hz.2.1) zk_X7_faultOfWork zm_662 rfl ⟨(Nat.le_of_ble_eq_true rfl), (Nat.le_of_ble_eq_true rfl)⟩ ⟨Nat.zero_le _, Nat.zero_le _⟩ (Nat.le_of_ble_eq_true rfl) dX9_work_4 (fun r_4 σ h_4 => ?_)
  obtain ⟨h_4, rfl⟩ := h_4
  refine zv_istore_n (lv' := [(1, za_I r_4), (0, za_O 0 0)]) G dX9_work_7 rfl (by decide) rfl ?_
  refine zv_iload_n (j := 0) G dX9_work_8 rfl rfl ?_
  refine zv_if_lt (tgt := 23) G dX9_work_9 (by decide) (fun c_9 => ?_) (fun c_9 => ?_)
  · have k_9 := z_clt c_9 (a := r_4.toInt) (b := 0) rfl rfl
    refine zv_aload_n (j := 1) G dX9_work_23 rfl rfl ?_
    refine zg_X9_22 G dX9_work_24 ?_
    refine zv_aload_n (j := 1) G dX9_work_27 rfl rfl ?_
    refine zg_X9_10 G dX9_work_28 ?_
    refine zv_callVNv (as := [za_O 1 1]) G (by decide) rfl rfl (zc_X2_prepare_atx l E 1 σ rfl) zk_X2_prepare zm_409 rfl ⟨(Nat.le_of_ble_eq_true rfl), (Nat.le_of_ble_eq_true rfl)⟩ ⟨Nat.zero_le _, Nat.zero_le _⟩ (Nat.le_of_ble_eq_true rfl) dX9_work_31 (fun σ h_31 => ?_)
    obtain ⟨j8, j9, k8⟩ := h_31
    have hz := wzE_s hz j9 k8
    refine zv_iconst (v := 0) G dX9_work_34 (by decide) ?_
    refine zv_istore_n (lv' := [(2, za_I 0), (1, za_I r_4), (0, za_O 0 0)]) G dX9_work_35 rfl (by decide) rfl ?_
    refine zv_iconst (v := 0) G dX9_work_36 (by decide) ?_
    refine zv_istore_n (lv' := [(3, za_I 0), (2, za_I 0), (1, za_I r_4), (0, za_O 0 0)]) G dX9_work_37 rfl (by decide) rfl ?_
    refine zv_iconst (v := 0) G dX9_work_38 (by decide) ?_
    refine zv_istore (lv' := [(4, za_I 0), (3, za_I 0), (2, za_I 0), (1, za_I r_4), (0, za_O 0 0)]) G dX9_work_39 (by decide) rfl ?_
    refine zv_iconst (v := 0) G dX9_work_41 (by decide) ?_
    refine zv_istore (lv' := [(5, za_I 0), (4, za_I 0), (3, za_I 0), (2, za_I 0), (1, za_I r_4), (0, za_O 0 0)]) G dX9_work_42 (by decide) rfl ?_
    refine zv_iload (j := 0) G dX9_work_44 rfl ?_
    refine zv_bipush (v := 80) G dX9_work_46 (by decide) ?_
    refine zv_icmp_ge (tgt := 112) G dX9_work_48 (by decide) (fun c_48 => ?_) (fun c_48 => ?_)
    · exact absurd c_48 (by decide)
    · have k_48 := z_cnle c_48 (a := 80) (b := 0) rfl rfl
      refine zv_iload (j := 1) G dX9_work_51 rfl ?_
      refine zv_aload_n (j := 5) G dX9_work_53 rfl rfl ?_
      refine zg_X9_33 G dX9_work_54 ?_
      refine zg_X9_79 G dX9_work_57 ?_
      refine zv_icmp_ge (tgt := 112) G dX9_work_60 (by decide) (fun c_60 => ?_) (fun c_60 => ?_)
      · have k_60 := z_cle c_60 (a := (σ.1 79 1).toInt) (b := 0) rfl rfl
        refine zv_iload_n (j := 3) G dX9_work_112 rfl rfl ?_
        refine zv_if_le (tgt := 123) G dX9_work_113 (by decide) (fun c_113 => ?_) (fun c_113 => ?_)
        · have k_113 := z_cle c_113 (a := 0) (b := 0) rfl rfl
          refine zv_aload_n (j := 5) G dX9_work_123 rfl rfl ?_
          refine zg_X9_33 G dX9_work_124 ?_
          refine zv_callVNv (as := []) G (by decide) rfl rfl (zc_X7_clear l E  σ ) zk_X7_clear zm_731 rfl ⟨(Nat.le_of_ble_eq_true rfl), (Nat.le_of_ble_eq_true rfl)⟩ ⟨Nat.zero_le _, Nat.zero_le _⟩ (Nat.le_of_ble_eq_true rfl) dX9_work_127 (fun σ h_127 => ?_)
          have hz := wzE_y hz h_127
          refine zv_aload_n (j := 5) G dX9_work_130 rfl rfl ?_
          refine zg_X9_40 G dX9_work_131 ?_
          refine zv_iload_n (j := 2) G dX9_work_134 rfl rfl ?_
          refine zv_if_eq (tgt := 142) G dX9_work_135 (by decide) (fun c_135 => ?_) (fun c_135 => ?_)
          · have k_135 := z_ceq c_135 (a := 0) (b := 0) rfl rfl
            refine zv_lconst (v := 0) G dX9_work_142 (by decide) ?_
            refine zv_aload_n (j := 5) G dX9_work_143 rfl rfl ?_
            refine zg_X9_10 G dX9_work_144 ?_
            refine zg_X9_102 G dX9_work_147 ?_
            refine zg_X9_106 G dX9_work_150 ?_
            refine zv_aload_n (j := 5) G dX9_work_153 rfl rfl ?_
            refine zg_X9_10 G dX9_work_154 ?_
            refine zg_X9_179 G dX9_work_157 ?_
            refine zg_X9_106 G dX9_work_160 ?_
            refine zv_iadd G dX9_work_163 ?_
            refine zv_i2l G dX9_work_164 ?_
            refine zv_callVNv (as := [za_L 0, za_L (((σ.1 2 1) + (σ.1 4 1)).toInt64)]) G (by decide) rfl rfl (zc_X8_tell__atx l E 0 (((σ.1 2 1) + (σ.1 4 1)).toInt64) σ ) zk_X8_tell_ zm_608 rfl ⟨(Nat.le_of_ble_eq_true rfl), (Nat.le_of_ble_eq_true rfl)⟩ ⟨Nat.zero_le _, Nat.zero_le _⟩ (Nat.le_of_ble_eq_true rfl) dX9_work_165 (fun σ h_165 => ?_)
            have hz9 := h_165
            have hz := wzE_l hz hz9
            refine zv_iload_n (j := 3) G dX9_work_168 rfl rfl ?_
            exact zv_iret G hr dX9_work_169 ⟨rfl, wzE_z hz⟩
          · exact absurd c_135 (by decide)
        · exact absurd c_113 (by decide)
      · exact absurd (show (σ.1 79 1) ≤ 0 by rw [hz.2.1]; decide) c_60
  · exact absurd (show r_4 < 0 by rw [h_4]; decide) c_9
set_option maxHeartbeats 4000000 in
set_option maxRecDepth 100000 in
theorem zc_X0_peek_ate (l : Launch) (E : za_E)  (σ : za_S) (h0 : wzEf σ) : zMi l E yX0_peek cX0_peek 1 (Option.some Jvm.ClassFile.FieldType.int) 1 21 [za_O 16 90] σ (fun r σ' => (r = (-1)) ∧ σ' = σ) := by
  refine zMi_of [(0, za_O 16 90)] (by decide) rfl rfl (Nat.le_of_ble_eq_true rfl) ?_
  intro ho p e s m args below meth c G hr
  refine zv_aload_n (j := 0) G dX0_peek_0 rfl rfl ?_
  refine zg_X0_42 G dX0_peek_1 ?_
  refine zv_iconst (v := (-1)) G dX0_peek_4 (by decide) ?_
  refine zv_icmp_ne (tgt := 40) G dX0_peek_5 (by decide) (fun c_5 => ?_) (fun c_5 => ?_)
  · have k_5 := z_cne c_5 (a := (σ.1 90 4).toInt) (b := -1) rfl rfl
    refine zv_iconst (v := (-1)) G dX0_peek_40 (by decide) ?_
    exact zv_iret G hr dX0_peek_41 ⟨rfl, rfl⟩
  · have k_5 := z_ceq c_5 (a := (σ.1 90 4).toInt) (b := -1) rfl rfl
    refine zv_aload_n (j := 0) G dX0_peek_8 rfl rfl ?_
    refine zg_X0_45 G dX0_peek_9 ?_
    refine zv_aload_n (j := 0) G dX0_peek_12 rfl rfl ?_
    refine zg_X0_31 G dX0_peek_13 ?_
    refine zv_icmp_ge (tgt := 40) G dX0_peek_16 (by decide) (fun c_16 => ?_) (fun c_16 => ?_)
    · have k_16 := z_cle c_16 (a := (σ.1 90 2).toInt) (b := (σ.1 90 3).toInt) rfl rfl
      refine zv_iconst (v := (-1)) G dX0_peek_40 (by decide) ?_
      exact zv_iret G hr dX0_peek_41 ⟨rfl, rfl⟩
    · exact absurd (show (σ.1 90 2) ≤ (σ.1 90 3) by rw [h0.2.1, h0.2.2]; decide) c_16
set_option maxHeartbeats 4000000 in
set_option maxRecDepth 100000 in
theorem zc_X0_fail_ate (l : Launch) (E : za_E)  (σ0 : za_S) (h0 : wzEf σ0) (hf : σ0.1 90 4 = -1 ∨ σ0.1 90 4 = 0) : zMv l E yX0_fail cX0_fail 1 (Option.none : Option Jvm.ClassFile.FieldType) 1 21 [za_O 16 90] σ0 (fun σ' => wzEf σ' ∧ σ'.1 90 4 = 0) := by
  refine zMv_of [(0, za_O 16 90)] (by decide) rfl rfl (Nat.le_of_ble_eq_true rfl) ?_
  intro ho p e s m args below meth c G hr
  refine zv_gen (R9 := (fun σ => wzEf σ ∧ (σ.1 90 4 = -1 ∨ σ.1 90 4 = 0))) ⟨h0, hf⟩ (fun σ hz => ?_)
  refine zv_aload_n (j := 0) G dX0_fail_0 rfl rfl ?_
  refine zg_X0_42 G dX0_fail_1 ?_
  refine zv_iconst (v := (-1)) G dX0_fail_4 (by decide) ?_
  refine zv_icmp_ne (tgt := 16) G dX0_fail_5 (by decide) (fun c_5 => ?_) (fun c_5 => ?_)
  · have k_5 := z_cne c_5 (a := (σ.1 90 4).toInt) (b := -1) rfl rfl
    exact zv_vret G hr dX0_fail_16 (by first | exact hz | exact ⟨hz.1, hz.2.resolve_left c_5⟩)
  · have k_5 := z_ceq c_5 (a := (σ.1 90 4).toInt) (b := -1) rfl rfl
    refine zv_aload_n (j := 0) G dX0_fail_8 rfl rfl ?_
    refine zv_aload_n (j := 0) G dX0_fail_9 rfl rfl ?_
    refine zg_X0_45 G dX0_fail_10 ?_
    refine zp_X0_42 G dX0_fail_13 ?_
    refine zv_gen (R9 := (fun σ => wzEf σ ∧ σ.1 90 4 = 0)) ⟨wzEf_w hz.1, by rw [za_si_same]; exact hz.1.2.2⟩ (fun σ hz => ?_)
    exact zv_vret G hr dX0_fail_16 (by first | exact hz | exact ⟨hz.1, hz.2.resolve_left c_5⟩)
set_option maxHeartbeats 4000000 in
set_option maxRecDepth 100000 in
theorem zc_X0_ofRow_ate (l : Launch) (E : za_E)  (σ0 : za_S) (h0 : wzEf σ0) (hf : σ0.1 90 4 = -1 ∨ σ0.1 90 4 = 0) : zMi l E yX0_ofRow cX0_ofRow 3 (Option.some Jvm.ClassFile.FieldType.int) 5 112 [za_O 16 90, za_I (-1)] σ0 (fun r σ' => wzEf σ' ∧ σ'.1 90 4 = 0) := by
  refine zMi_of [(0, za_O 16 90), (1, za_I (-1))] (by decide) rfl rfl (Nat.le_of_ble_eq_true rfl) ?_
  intro ho p e s m args below meth c G hr
  refine zv_gen (R9 := (fun σ => wzEf σ ∧ (σ.1 90 4 = -1 ∨ σ.1 90 4 = 0))) ⟨h0, hf⟩ (fun σ hz => ?_)
  refine zv_iload_n (j := 1) G dX0_ofRow_0 rfl rfl ?_
  refine zv_iconst (v := (-1)) G dX0_ofRow_1 (by decide) ?_
  refine zv_icmp_ne (tgt := 9) G dX0_ofRow_2 (by decide) (fun c_2 => ?_) (fun c_2 => ?_)
  · exact absurd c_2 (by decide)
  · have k_2 := z_ceq c_2 (a := -1) (b := -1) rfl rfl
    refine zv_iconst (v := (-1)) G dX0_ofRow_5 (by decide) ?_
    refine zv_goto (tgt := 16) G dX0_ofRow_6 (by decide) ?_
    refine zv_istore_n (lv' := [(2, za_I (-1)), (0, za_O 16 90), (1, za_I (-1))]) G dX0_ofRow_16 rfl (by decide) rfl ?_
    refine zv_iload_n (j := 0) G dX0_ofRow_17 rfl rfl ?_
    refine zv_if_lt (tgt := 27) G dX0_ofRow_18 (by decide) (fun c_18 => ?_) (fun c_18 => ?_)
    · have k_18 := z_clt c_18 (a := -1) (b := 0) rfl rfl
      refine zv_aload_n (j := 1) G dX0_ofRow_27 rfl rfl ?_
      refine zv_callVv (as := []) G (by decide) rfl rfl (zc_X0_fail_ate l E  σ hz.1 hz.2) zk_X0_fail zm_932 rfl ⟨(Nat.le_of_ble_eq_true rfl), (Nat.le_of_ble_eq_true rfl)⟩ ⟨Nat.zero_le _, Nat.zero_le _⟩ (Nat.le_of_ble_eq_true rfl) dX0_ofRow_28 (fun σ h_28 => ?_)
      have hz := h_28
      refine zv_iconst (v := 0) G dX0_ofRow_31 (by decide) ?_
      exact zv_iret G hr dX0_ofRow_32 hz
    · exact absurd c_18 (by decide)
set_option maxHeartbeats 4000000 in
set_option maxRecDepth 100000 in
theorem zc_X0_thing_ate (l : Launch) (E : za_E) (a : Int32) (σ0 : za_S) (h0 : wzEf σ0) (hf : σ0.1 90 4 = -1 ∨ σ0.1 90 4 = 0) : zMi l E yX0_thing cX0_thing 5 (Option.some Jvm.ClassFile.FieldType.int) 6 134 [za_O 16 90, za_I a] σ0 (fun r σ' => wzEf σ' ∧ σ'.1 90 4 = 0) := by
  refine zMi_of [(0, za_O 16 90), (1, za_I a)] (by decide) rfl rfl (Nat.le_of_ble_eq_true rfl) ?_
  intro ho p e s m args below meth c G hr
  refine zv_gen (R9 := (fun σ => wzEf σ ∧ (σ.1 90 4 = -1 ∨ σ.1 90 4 = 0))) ⟨h0, hf⟩ (fun σ hz => ?_)
  refine zv_iconst (v := 0) G dX0_thing_0 (by decide) ?_
  refine zv_istore_n (lv' := [(2, za_I 0), (0, za_O 16 90), (1, za_I a)]) G dX0_thing_1 rfl (by decide) rfl ?_
  refine zv_iconst (v := 0) G dX0_thing_2 (by decide) ?_
  refine zv_istore_n (lv' := [(3, za_I 0), (2, za_I 0), (0, za_O 16 90), (1, za_I a)]) G dX0_thing_3 rfl (by decide) rfl ?_
  refine zv_iload_n (j := 0) G dX0_thing_4 rfl rfl ?_
  refine zv_bipush (v := 40) G dX0_thing_5 (by decide) ?_
  refine zv_icmp_ge (tgt := 45) G dX0_thing_7 (by decide) (fun c_7 => ?_) (fun c_7 => ?_)
  · exact absurd c_7 (by decide)
  · have k_7 := z_cnle c_7 (a := 40) (b := 0) rfl rfl
    refine zv_aload_n (j := 2) G dX0_thing_10 rfl rfl ?_
    refine zv_callVi (as := []) G (by decide) rfl rfl (zc_X0_peek_ate l E  σ hz.1) zk_X0_peek zm_924 rfl ⟨(Nat.le_of_ble_eq_true rfl), (Nat.le_of_ble_eq_true rfl)⟩ ⟨Nat.zero_le _, Nat.zero_le _⟩ (Nat.le_of_ble_eq_true rfl) dX0_thing_11 (fun r_11 σ h_11 => ?_)
    obtain ⟨h_11, rfl⟩ := h_11
    subst h_11
    refine zv_bipush (v := 45) G dX0_thing_14 (by decide) ?_
    refine zv_icmp_ne (tgt := 45) G dX0_thing_16 (by decide) (fun c_16 => ?_) (fun c_16 => ?_)
    · have k_16 := z_cne c_16 (a := -1) (b := 45) rfl rfl
      refine zv_aload_n (j := 2) G dX0_thing_45 rfl rfl ?_
      refine zv_callVi (as := []) G (by decide) rfl rfl (zc_X0_peek_ate l E  σ hz.1) zk_X0_peek zm_924 rfl ⟨(Nat.le_of_ble_eq_true rfl), (Nat.le_of_ble_eq_true rfl)⟩ ⟨Nat.zero_le _, Nat.zero_le _⟩ (Nat.le_of_ble_eq_true rfl) dX0_thing_46 (fun r_46 σ h_46 => ?_)
      obtain ⟨h_46, rfl⟩ := h_46
      subst h_46
      refine zv_istore_n (lv' := [(3, za_I (-1)), (2, za_I 0), (0, za_O 16 90), (1, za_I a)]) G dX0_thing_49 rfl (by decide) rfl ?_
      refine zv_iload_n (j := 0) G dX0_thing_50 rfl rfl ?_
      refine zv_bipush (v := 48) G dX0_thing_51 (by decide) ?_
      refine zv_icmp_lt (tgt := 71) G dX0_thing_53 (by decide) (fun c_53 => ?_) (fun c_53 => ?_)
      · have k_53 := z_clt c_53 (a := -1) (b := 48) rfl rfl
        refine zv_iload_n (j := 0) G dX0_thing_71 rfl rfl ?_
        refine zv_bipush (v := 40) G dX0_thing_72 (by decide) ?_
        refine zv_icmp_ne (tgt := 127) G dX0_thing_74 (by decide) (fun c_74 => ?_) (fun c_74 => ?_)
        · have k_74 := z_cne c_74 (a := -1) (b := 40) rfl rfl
          refine zv_aload_n (j := 2) G dX0_thing_127 rfl rfl ?_
          refine zv_iload_n (j := 0) G dX0_thing_128 rfl rfl ?_
          refine zv_callVi (as := [za_I (-1)]) G (by decide) rfl rfl (zc_X0_ofRow_ate l E  σ hz.1 hz.2) zk_X0_ofRow zm_936 rfl ⟨(Nat.le_of_ble_eq_true rfl), (Nat.le_of_ble_eq_true rfl)⟩ ⟨Nat.zero_le _, Nat.zero_le _⟩ (Nat.le_of_ble_eq_true rfl) dX0_thing_129 (fun r_129 σ h_129 => ?_)
          have hz := h_129
          refine zv_istore (lv' := [(4, za_I r_129), (3, za_I (-1)), (2, za_I 0), (0, za_O 16 90), (1, za_I a)]) G dX0_thing_132 (by decide) rfl ?_
          refine zv_iload_n (j := 2) G dX0_thing_134 rfl rfl ?_
          refine zv_if_eq (tgt := 144) G dX0_thing_135 (by decide) (fun c_135 => ?_) (fun c_135 => ?_)
          · have k_135 := z_ceq c_135 (a := 0) (b := 0) rfl rfl
            refine zv_iload (j := 0) G dX0_thing_144 rfl ?_
            exact zv_iret G hr dX0_thing_146 hz
          · exact absurd c_135 (by decide)
        · exact absurd c_74 (by decide)
      · exact absurd c_53 (by decide)
    · exact absurd c_16 (by decide)
set_option maxHeartbeats 4000000 in
set_option maxRecDepth 100000 in
theorem zc_X0_product_ate (l : Launch) (E : za_E) (a : Int32) (σ0 : za_S) (h0 : wzEf σ0) (hf : σ0.1 90 4 = -1 ∨ σ0.1 90 4 = 0) : zMi l E yX0_product cX0_product 6 (Option.some Jvm.ClassFile.FieldType.int) 7 158 [za_O 16 90, za_I a] σ0 (fun r σ' => wzEf σ' ∧ σ'.1 90 4 = 0) := by
  refine zMi_of [(0, za_O 16 90), (1, za_I a)] (by decide) rfl rfl (Nat.le_of_ble_eq_true rfl) ?_
  intro ho p e s m args below meth c G hr
  refine zv_gen (R9 := (fun σ => wzEf σ ∧ (σ.1 90 4 = -1 ∨ σ.1 90 4 = 0))) ⟨h0, hf⟩ (fun σ hz => ?_)
  refine zv_aload_n (j := 0) G dX0_product_0 rfl rfl ?_
  refine zv_iload_n (j := 1) G dX0_product_1 rfl rfl ?_
  refine zv_callVi (as := [za_I a]) G (by decide) rfl rfl (zc_X0_thing_ate l E a σ hz.1 hz.2) zk_X0_thing zm_920 rfl ⟨(Nat.le_of_ble_eq_true rfl), (Nat.le_of_ble_eq_true rfl)⟩ ⟨Nat.zero_le _, Nat.zero_le _⟩ (Nat.le_of_ble_eq_true rfl) dX0_product_2 (fun r_2 σ h_2 => ?_)
  have hz := h_2
  refine zv_istore_n (lv' := [(2, za_I r_2), (0, za_O 16 90), (1, za_I a)]) G dX0_product_5 rfl (by decide) rfl ?_
  refine zv_iconst (v := 0) G dX0_product_6 (by decide) ?_
  refine zv_istore_n (lv' := [(3, za_I 0), (2, za_I r_2), (0, za_O 16 90), (1, za_I a)]) G dX0_product_7 rfl (by decide) rfl ?_
  refine zv_iload_n (j := 0) G dX0_product_8 rfl rfl ?_
  refine zv_bipush (v := 40) G dX0_product_9 (by decide) ?_
  refine zv_icmp_ge (tgt := 97) G dX0_product_11 (by decide) (fun c_11 => ?_) (fun c_11 => ?_)
  · exact absurd c_11 (by decide)
  · have k_11 := z_cnle c_11 (a := 40) (b := 0) rfl rfl
    refine zv_aload_n (j := 2) G dX0_product_14 rfl rfl ?_
    refine zv_callVi (as := []) G (by decide) rfl rfl (zc_X0_peek_ate l E  σ hz.1) zk_X0_peek zm_924 rfl ⟨(Nat.le_of_ble_eq_true rfl), (Nat.le_of_ble_eq_true rfl)⟩ ⟨Nat.zero_le _, Nat.zero_le _⟩ (Nat.le_of_ble_eq_true rfl) dX0_product_15 (fun r_15 σ h_15 => ?_)
    obtain ⟨h_15, rfl⟩ := h_15
    subst h_15
    refine zv_bipush (v := 42) G dX0_product_18 (by decide) ?_
    refine zv_icmp_eq (tgt := 32) G dX0_product_20 (by decide) (fun c_20 => ?_) (fun c_20 => ?_)
    · exact absurd c_20 (by decide)
    · have k_20 := z_cne c_20 (a := -1) (b := 42) rfl rfl
      refine zv_aload_n (j := 2) G dX0_product_23 rfl rfl ?_
      refine zv_callVi (as := []) G (by decide) rfl rfl (zc_X0_peek_ate l E  σ hz.1) zk_X0_peek zm_924 rfl ⟨(Nat.le_of_ble_eq_true rfl), (Nat.le_of_ble_eq_true rfl)⟩ ⟨Nat.zero_le _, Nat.zero_le _⟩ (Nat.le_of_ble_eq_true rfl) dX0_product_24 (fun r_24 σ h_24 => ?_)
      obtain ⟨h_24, rfl⟩ := h_24
      subst h_24
      refine zv_bipush (v := 47) G dX0_product_27 (by decide) ?_
      refine zv_icmp_ne (tgt := 97) G dX0_product_29 (by decide) (fun c_29 => ?_) (fun c_29 => ?_)
      · have k_29 := z_cne c_29 (a := -1) (b := 47) rfl rfl
        refine zv_iload_n (j := 1) G dX0_product_97 rfl rfl ?_
        exact zv_iret G hr dX0_product_98 hz
      · exact absurd c_29 (by decide)
set_option maxHeartbeats 4000000 in
set_option maxRecDepth 100000 in
theorem zc_X0_sum_ate (l : Launch) (E : za_E) (a : Int32) (σ0 : za_S) (h0 : wzEf σ0) (hf : σ0.1 90 4 = -1 ∨ σ0.1 90 4 = 0) : zMi l E yX0_sum cX0_sum 6 (Option.some Jvm.ClassFile.FieldType.int) 8 183 [za_O 16 90, za_I a] σ0 (fun r σ' => wzEf σ' ∧ σ'.1 90 4 = 0) := by
  refine zMi_of [(0, za_O 16 90), (1, za_I a)] (by decide) rfl rfl (Nat.le_of_ble_eq_true rfl) ?_
  intro ho p e s m args below meth c G hr
  refine zv_gen (R9 := (fun σ => wzEf σ ∧ (σ.1 90 4 = -1 ∨ σ.1 90 4 = 0))) ⟨h0, hf⟩ (fun σ hz => ?_)
  refine zv_aload_n (j := 0) G dX0_sum_0 rfl rfl ?_
  refine zv_iload_n (j := 1) G dX0_sum_1 rfl rfl ?_
  refine zv_callVi (as := [za_I a]) G (by decide) rfl rfl (zc_X0_product_ate l E a σ hz.1 hz.2) zk_X0_product zm_916 rfl ⟨(Nat.le_of_ble_eq_true rfl), (Nat.le_of_ble_eq_true rfl)⟩ ⟨Nat.zero_le _, Nat.zero_le _⟩ (Nat.le_of_ble_eq_true rfl) dX0_sum_2 (fun r_2 σ h_2 => ?_)
  have hz := h_2
  refine zv_istore_n (lv' := [(2, za_I r_2), (0, za_O 16 90), (1, za_I a)]) G dX0_sum_5 rfl (by decide) rfl ?_
  refine zv_iconst (v := 0) G dX0_sum_6 (by decide) ?_
  refine zv_istore_n (lv' := [(3, za_I 0), (2, za_I r_2), (0, za_O 16 90), (1, za_I a)]) G dX0_sum_7 rfl (by decide) rfl ?_
  refine zv_iload_n (j := 0) G dX0_sum_8 rfl rfl ?_
  refine zv_bipush (v := 40) G dX0_sum_9 (by decide) ?_
  refine zv_icmp_ge (tgt := 88) G dX0_sum_11 (by decide) (fun c_11 => ?_) (fun c_11 => ?_)
  · exact absurd c_11 (by decide)
  · have k_11 := z_cnle c_11 (a := 40) (b := 0) rfl rfl
    refine zv_aload_n (j := 2) G dX0_sum_14 rfl rfl ?_
    refine zv_callVi (as := []) G (by decide) rfl rfl (zc_X0_peek_ate l E  σ hz.1) zk_X0_peek zm_924 rfl ⟨(Nat.le_of_ble_eq_true rfl), (Nat.le_of_ble_eq_true rfl)⟩ ⟨Nat.zero_le _, Nat.zero_le _⟩ (Nat.le_of_ble_eq_true rfl) dX0_sum_15 (fun r_15 σ h_15 => ?_)
    obtain ⟨h_15, rfl⟩ := h_15
    subst h_15
    refine zv_bipush (v := 43) G dX0_sum_18 (by decide) ?_
    refine zv_icmp_eq (tgt := 32) G dX0_sum_20 (by decide) (fun c_20 => ?_) (fun c_20 => ?_)
    · exact absurd c_20 (by decide)
    · have k_20 := z_cne c_20 (a := -1) (b := 43) rfl rfl
      refine zv_aload_n (j := 2) G dX0_sum_23 rfl rfl ?_
      refine zv_callVi (as := []) G (by decide) rfl rfl (zc_X0_peek_ate l E  σ hz.1) zk_X0_peek zm_924 rfl ⟨(Nat.le_of_ble_eq_true rfl), (Nat.le_of_ble_eq_true rfl)⟩ ⟨Nat.zero_le _, Nat.zero_le _⟩ (Nat.le_of_ble_eq_true rfl) dX0_sum_24 (fun r_24 σ h_24 => ?_)
      obtain ⟨h_24, rfl⟩ := h_24
      subst h_24
      refine zv_bipush (v := 45) G dX0_sum_27 (by decide) ?_
      refine zv_icmp_ne (tgt := 88) G dX0_sum_29 (by decide) (fun c_29 => ?_) (fun c_29 => ?_)
      · have k_29 := z_cne c_29 (a := -1) (b := 45) rfl rfl
        refine zv_iload_n (j := 1) G dX0_sum_88 rfl rfl ?_
        exact zv_iret G hr dX0_sum_89 hz
      · exact absurd c_29 (by decide)
set_option maxHeartbeats 4000000 in
set_option maxRecDepth 100000 in
theorem zc_X0_comparison_ate (l : Launch) (E : za_E) (a : Int32) (σ0 : za_S) (h0 : wzEf σ0) (hf : σ0.1 90 4 = -1 ∨ σ0.1 90 4 = 0) : zMi l E yX0_comparison cX0_comparison 6 (Option.some Jvm.ClassFile.FieldType.int) 9 208 [za_O 16 90, za_I a] σ0 (fun r σ' => wzEf σ' ∧ σ'.1 90 4 = 0) := by
  refine zMi_of [(0, za_O 16 90), (1, za_I a)] (by decide) rfl rfl (Nat.le_of_ble_eq_true rfl) ?_
  intro ho p e s m args below meth c G hr
  refine zv_gen (R9 := (fun σ => wzEf σ ∧ (σ.1 90 4 = -1 ∨ σ.1 90 4 = 0))) ⟨h0, hf⟩ (fun σ hz => ?_)
  refine zv_aload_n (j := 0) G dX0_comparison_0 rfl rfl ?_
  refine zv_iload_n (j := 1) G dX0_comparison_1 rfl rfl ?_
  refine zv_callVi (as := [za_I a]) G (by decide) rfl rfl (zc_X0_sum_ate l E a σ hz.1 hz.2) zk_X0_sum zm_912 rfl ⟨(Nat.le_of_ble_eq_true rfl), (Nat.le_of_ble_eq_true rfl)⟩ ⟨Nat.zero_le _, Nat.zero_le _⟩ (Nat.le_of_ble_eq_true rfl) dX0_comparison_2 (fun r_2 σ h_2 => ?_)
  have hz := h_2
  refine zv_istore_n (lv' := [(2, za_I r_2), (0, za_O 16 90), (1, za_I a)]) G dX0_comparison_5 rfl (by decide) rfl ?_
  refine zv_aload_n (j := 1) G dX0_comparison_6 rfl rfl ?_
  refine zv_callVi (as := []) G (by decide) rfl rfl (zc_X0_peek_ate l E  σ hz.1) zk_X0_peek zm_924 rfl ⟨(Nat.le_of_ble_eq_true rfl), (Nat.le_of_ble_eq_true rfl)⟩ ⟨Nat.zero_le _, Nat.zero_le _⟩ (Nat.le_of_ble_eq_true rfl) dX0_comparison_7 (fun r_7 σ h_7 => ?_)
  obtain ⟨h_7, rfl⟩ := h_7
  subst h_7
  refine zv_istore_n (lv' := [(3, za_I (-1)), (2, za_I r_2), (0, za_O 16 90), (1, za_I a)]) G dX0_comparison_10 rfl (by decide) rfl ?_
  refine zv_iload_n (j := 0) G dX0_comparison_11 rfl rfl ?_
  refine zv_bipush (v := 60) G dX0_comparison_12 (by decide) ?_
  refine zv_icmp_eq (tgt := 31) G dX0_comparison_14 (by decide) (fun c_14 => ?_) (fun c_14 => ?_)
  · exact absurd c_14 (by decide)
  · have k_14 := z_cne c_14 (a := -1) (b := 60) rfl rfl
    refine zv_iload_n (j := 0) G dX0_comparison_17 rfl rfl ?_
    refine zv_bipush (v := 62) G dX0_comparison_18 (by decide) ?_
    refine zv_icmp_eq (tgt := 31) G dX0_comparison_20 (by decide) (fun c_20 => ?_) (fun c_20 => ?_)
    · exact absurd c_20 (by decide)
    · have k_20 := z_cne c_20 (a := -1) (b := 62) rfl rfl
      refine zv_iload_n (j := 0) G dX0_comparison_23 rfl rfl ?_
      refine zv_bipush (v := 61) G dX0_comparison_24 (by decide) ?_
      refine zv_icmp_eq (tgt := 31) G dX0_comparison_26 (by decide) (fun c_26 => ?_) (fun c_26 => ?_)
      · exact absurd c_26 (by decide)
      · have k_26 := z_cne c_26 (a := -1) (b := 61) rfl rfl
        refine zv_iload_n (j := 1) G dX0_comparison_29 rfl rfl ?_
        exact zv_iret G hr dX0_comparison_30 hz
set_option maxHeartbeats 4000000 in
set_option maxRecDepth 100000 in
theorem zc_X0_rewind_ate (l : Launch) (E : za_E)  (σ0 : za_S)  : zMv l E yX0_rewind cX0_rewind 1 (Option.none : Option Jvm.ClassFile.FieldType) 1 21 [za_O 16 90] σ0 (fun σ' => σ' = za_si (za_si σ0 90 3 0) 90 4 (-1)) := by
  refine zMv_of [(0, za_O 16 90)] (by decide) rfl rfl (Nat.le_of_ble_eq_true rfl) ?_
  intro ho p e s m args below meth c G hr
  refine zv_aload_n (j := 0) G dX0_rewind_0 rfl rfl ?_
  refine zv_iconst (v := 0) G dX0_rewind_1 (by decide) ?_
  refine zp_X0_45 G dX0_rewind_2 ?_
  refine zv_aload_n (j := 0) G dX0_rewind_5 rfl rfl ?_
  refine zv_iconst (v := (-1)) G dX0_rewind_6 (by decide) ?_
  refine zp_X0_42 G dX0_rewind_7 ?_
  exact zv_vret G hr dX0_rewind_10 rfl
set_option maxHeartbeats 4000000 in
set_option maxRecDepth 100000 in
theorem zc_X0_faultOf_ate (l : Launch) (E : za_E)  (σ0 : za_S) (h0 : wzE σ0) : zMi l E yX0_faultOf cX0_faultOf 3 (Option.some Jvm.ClassFile.FieldType.int) 10 233 [za_O 16 90, za_O 7 79] σ0 (fun r σ' => r = 0 ∧ wzE σ') := by
  refine zMi_of [(0, za_O 16 90), (1, za_O 7 79)] (by decide) rfl rfl (Nat.le_of_ble_eq_true rfl) ?_
  intro ho p e s m args below meth c G hr
  refine zv_gen (R9 := wzE) h0 (fun σ hz => ?_)
  refine zv_aload_n (j := 0) G dX0_faultOf_0 rfl rfl ?_
  refine zv_bipush (v := 40) G dX0_faultOf_1 (by decide) ?_
  refine zv_aload_n (j := 1) G dX0_faultOf_3 rfl rfl ?_
  refine zg_X0_19 G dX0_faultOf_4 ?_
  refine zv_mmin G zm_902 zm_392 zm_147 zm_393 (Nat.le_of_ble_eq_true rfl) (Nat.le_of_ble_eq_true rfl) (Nat.zero_le _) (Nat.zero_le _) dX0_faultOf_7 ?_
  refine zv_top (fun x_7 e_7 => ?_)
  refine zp_X0_31 G dX0_faultOf_10 ?_
  refine zv_gen (R9 := (fun σ => wzE σ ∧ σ.1 90 2 = 0)) ⟨wzE_90 hz, by rw [za_si_same, e_7, hz.2.1]; decide⟩ (fun σ hz => ?_)
  refine zv_iconst (v := 0) G dX0_faultOf_13 (by decide) ?_
  refine zv_istore_n (lv' := [(2, za_I 0), (0, za_O 16 90), (1, za_O 7 79)]) G dX0_faultOf_14 rfl (by decide) rfl ?_
  refine zv_iload_n (j := 0) G dX0_faultOf_15 rfl rfl ?_
  refine zv_aload_n (j := 1) G dX0_faultOf_16 rfl rfl ?_
  refine zg_X0_31 G dX0_faultOf_17 ?_
  refine zv_icmp_ge (tgt := 41) G dX0_faultOf_20 (by decide) (fun c_20 => ?_) (fun c_20 => ?_)
  · have k_20 := z_cle c_20 (a := (σ.1 90 2).toInt) (b := 0) rfl rfl
    refine zv_aload_n (j := 1) G dX0_faultOf_41 rfl rfl ?_
    refine zv_callVv (as := []) G (by decide) rfl rfl (zc_X0_rewind_ate l E  σ ) zk_X0_rewind zm_904 rfl ⟨(Nat.le_of_ble_eq_true rfl), (Nat.le_of_ble_eq_true rfl)⟩ ⟨Nat.zero_le _, Nat.zero_le _⟩ (Nat.le_of_ble_eq_true rfl) dX0_faultOf_42 (fun σ h_42 => ?_)
    have hz := wzfq9 hz h_42
    refine zv_aload_n (j := 1) G dX0_faultOf_45 rfl rfl ?_
    refine zv_iconst (v := 0) G dX0_faultOf_46 (by decide) ?_
    refine zv_callVi (as := [za_I 0]) G (by decide) rfl rfl (zc_X0_comparison_ate l E (0 : Int32) σ hz.1 (Or.inl hz.2)) zk_X0_comparison zm_908 rfl ⟨(Nat.le_of_ble_eq_true rfl), (Nat.le_of_ble_eq_true rfl)⟩ ⟨Nat.zero_le _, Nat.zero_le _⟩ (Nat.le_of_ble_eq_true rfl) dX0_faultOf_47 (fun r_47 σ h_47 => ?_)
    have hz := h_47
    refine zv_popI G dX0_faultOf_50 ?_
    refine zv_aload_n (j := 1) G dX0_faultOf_51 rfl rfl ?_
    refine zg_X0_42 G dX0_faultOf_52 ?_
    refine zv_iconst (v := (-1)) G dX0_faultOf_55 (by decide) ?_
    refine zv_icmp_ne (tgt := 78) G dX0_faultOf_56 (by decide) (fun c_56 => ?_) (fun c_56 => ?_)
    · have k_56 := z_cne c_56 (a := (σ.1 90 4).toInt) (b := -1) rfl rfl
      refine zv_aload_n (j := 1) G dX0_faultOf_78 rfl rfl ?_
      refine zg_X0_42 G dX0_faultOf_79 ?_
      exact zv_iret G hr dX0_faultOf_82 ⟨hz.2, hz.1.1⟩
    · exact absurd (hz.2.symm.trans c_56) (by decide)
  · exact absurd (show (σ.1 90 2) ≤ 0 by rw [hz.2]; decide) c_20
set_option maxHeartbeats 4000000 in
set_option maxRecDepth 100000 in
theorem zc_X9_where_at0 (l : Launch) (E : za_E) (t : Int32) (σ0 : za_S) (h0 : wzE σ0) : zMi l E yX9_where cX9_where 9 (Option.some Jvm.ClassFile.FieldType.int) 11 255 [za_O 0 0, za_I t] σ0 (fun r σ' => r = (-1000) ∧ wzZ σ') := by
  refine zMi_of [(0, za_O 0 0), (1, za_I t)] (by decide) rfl rfl (Nat.le_of_ble_eq_true rfl) ?_
  intro ho p e s m args below meth c G hr
  refine zv_gen (R9 := wzE) h0 (fun σ hz => ?_)
  refine zv_aload_n (j := 0) G dX9_where_0 rfl rfl ?_
  refine zg_X9_71 G dX9_where_1 ?_
  refine zv_aload_n (j := 0) G dX9_where_4 rfl rfl ?_
  refine zg_X9_33 G dX9_where_5 ?_
  refine zv_callVNi (as := [za_O 7 79]) G (by decide) rfl rfl (zc_X0_faultOf_ate l E  σ hz) zk_X0_faultOf zm_898 rfl ⟨(Nat.le_of_ble_eq_true rfl), (Nat.le_of_ble_eq_true rfl)⟩ ⟨Nat.zero_le _, Nat.zero_le _⟩ (Nat.le_of_ble_eq_true rfl) dX9_where_8 (fun r_8 σ h_8 => ?_)
  have z8 := h_8.1
  have hz := h_8.2
  refine zv_istore_n (lv' := [(2, za_I r_8), (0, za_O 0 0), (1, za_I t)]) G dX9_where_11 rfl (by decide) rfl ?_
  refine zv_aload_n (j := 1) G dX9_where_12 rfl rfl ?_
  refine zg_X9_33 G dX9_where_13 ?_
  refine zv_callVNv (as := []) G (by decide) rfl rfl (zc_X7_clear l E  σ ) zk_X7_clear zm_731 rfl ⟨(Nat.le_of_ble_eq_true rfl), (Nat.le_of_ble_eq_true rfl)⟩ ⟨Nat.zero_le _, Nat.zero_le _⟩ (Nat.le_of_ble_eq_true rfl) dX9_where_16 (fun σ h_16 => ?_)
  have hz := wzE_y hz h_16
  refine zv_iload_n (j := 0) G dX9_where_19 rfl rfl ?_
  refine zv_if_lt (tgt := 29) G dX9_where_20 (by decide) (fun c_20 => ?_) (fun c_20 => ?_)
  · exact absurd c_20 (by rw [z8]; decide)
  · have k_20 := z_cnlt c_20 (a := r_8.toInt) (b := 0) rfl rfl
    refine zv_sipush (v := (-1000)) G dX9_where_23 (by decide) ?_
    refine zv_iload_n (j := 0) G dX9_where_26 rfl rfl ?_
    refine zv_isub G dX9_where_27 ?_
    exact zv_iret G hr dX9_where_28 ⟨by rw [z8]; decide, wzE_z hz⟩
