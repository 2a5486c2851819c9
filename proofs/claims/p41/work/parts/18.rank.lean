/-! ===== what a text's codes do to a stack ===== -/
def zcok (c : Int32) (d : Nat) : Prop := (c.toInt = 3000 ∧ 1 ≤ d) ∨ (2000 ≤ c.toInt ∧ ¬ c.toInt = 3000 ∧ 2 ≤ d) ∨ c.toInt < 1000 ∨ (1000 ≤ c.toInt ∧ c.toInt ≤ 1006)
def zstp (c : Int32) (d : Nat) : Nat := if c.toInt = 3000 then d else if 2000 ≤ c.toInt then d - 1 else d + 1
def zsq (f : Nat → Int32) (a : Nat) : Nat → Nat → Nat → Prop
  | 0, d, e => e = d
  | n + 1, d, e => ∃ m, zsq f a n d m ∧ zcok (f (a + n)) m ∧ e = zstp (f (a + n)) m
theorem zsq_cong {f g : Nat → Int32} {a : Nat} : ∀ (n d e : Nat), (∀ i, a ≤ i → i < a + n → g i = f i) → zsq f a n d e → zsq g a n d e
  | 0, _, _, _, h => h
  | n + 1, d, e, hi, ⟨m, h1, h2, h3⟩ => by
    refine ⟨m, zsq_cong n d m (fun i a1 a2 => hi i a1 (by omega)) h1, ?_, ?_⟩
    · rw [hi (a + n) (by omega) (by omega)]; exact h2
    · rw [hi (a + n) (by omega) (by omega)]; exact h3
theorem zsq_app {f : Nat → Int32} {a n d m : Nat} : ∀ (k e : Nat), zsq f a n d m → zsq f (a + n) k m e → zsq f a (n + k) d e
  | 0, _, h1, h2 => by
    have h3 : _ = m := h2
    rw [h3]
    exact h1
  | k + 1, e, h1, ⟨m', h2, h3, h4⟩ => by
    refine ⟨m', zsq_app k m' h1 h2, ?_, ?_⟩
    · show zcok (f (a + (n + k))) m'
      rw [← Nat.add_assoc]; exact h3
    · show e = zstp (f (a + (n + k))) m'
      rw [← Nat.add_assoc]; exact h4
theorem zsq_det {f : Nat → Int32} {a : Nat} : ∀ (n d e e' : Nat), zsq f a n d e → zsq f a n d e' → e = e'
  | 0, _, _, _, h1, h2 => (show _ = _ from h1).trans (show _ = _ from h2).symm
  | n + 1, d, e, e', ⟨m, h1, _, h3⟩, ⟨m', k1, _, k3⟩ => by
    rw [h3, k3, zsq_det n d m m' h1 k1]
theorem zsq_at {f : Nat → Int32} : ∀ (n e k d : Nat), zsq f 0 n 0 e → k < n → zsq f 0 k 0 d → zcok (f k) d
  | 0, _, _, _, _, h, _ => absurd h (Nat.not_lt_zero _)
  | n + 1, e, k, d, ⟨m, h1, h2, _⟩, hk, h4 => by
    by_cases c : k = n
    · subst c
      rw [zsq_det k 0 d m h4 h1]
      rw [Nat.zero_add] at h2
      exact h2
    · exact zsq_at n m k d h1 (by omega) h4
theorem zsq_le {f : Nat → Int32} {a : Nat} : ∀ (n d e : Nat), zsq f a n d e → e ≤ d + n
  | 0, _, _, h => Nat.le_of_eq h
  | n + 1, d, e, ⟨m, h1, _, h3⟩ => by
    have h4 := zsq_le n d m h1
    rw [h3]
    unfold zstp
    split
    · omega
    · split <;> omega
/-! a reading goes on -/
def zpr (σ0 σ : za_S) : Prop := (∀ w, w ≠ 93 → w ≠ 96 → σ.1 w = σ0.1 w) ∧ σ.2 = σ0.2 ∧ ∀ j, j ≠ 5 → j ≠ 7 → j ≠ 9 → σ.1 93 j = σ0.1 93 j
def zpk (k : Int) (σ0 σ : za_S) : Prop := zpr σ0 σ ∧ ((σ0.1 93 5).toInt + k ≤ (σ.1 93 5).toInt ∧ (σ.1 93 5).toInt ≤ (σ0.1 93 6).toInt) ∧ ((σ0.1 93 9).toInt ≤ (σ.1 93 9).toInt ∧ (σ.1 93 9).toInt - (σ0.1 93 9).toInt + k ≤ (σ.1 93 5).toInt - (σ0.1 93 5).toInt) ∧ ∀ i, i < (σ0.1 93 9).toInt.toNat → σ.1 96 i = σ0.1 96 i
def zpd (e : Nat) (σ0 σ : za_S) : Prop := ∀ d, zsq (σ.1 96) (σ0.1 93 9).toInt.toNat ((σ.1 93 9).toInt.toNat - (σ0.1 93 9).toInt.toNat) d (d + e)
def zpq (σ : za_S) : Prop := zpo σ ∧ 0 ≤ (σ.1 93 9).toInt ∧ (σ.1 93 9).toInt ≤ (σ.1 93 5).toInt
def zpt (r : Int32) (σ0 σ : za_S) : Prop := (r = 0 ∨ r = 1) ∧ zpk 0 σ0 σ ∧ (¬ r = 0 → zpd 1 σ0 σ)
theorem zpr_t {a b d : za_S} (h : zpr a b) (k : zpr b d) : zpr a d := ⟨fun w h1 h2 => (k.1 w h1 h2).trans (h.1 w h1 h2), k.2.1.trans h.2.1, fun j h1 h2 h3 => (k.2.2 j h1 h2 h3).trans (h.2.2 j h1 h2 h3)⟩
theorem zpk_z {σ : za_S} (h : zpq σ) : zpk 0 σ σ := ⟨⟨fun _ _ _ => rfl, rfl, fun _ _ _ _ => rfl⟩, ⟨by omega, h.1.2.1⟩, ⟨by omega, by omega⟩, fun _ _ => rfl⟩
theorem zpd_z (σ : za_S) : zpd 0 σ σ := by
  intro d
  rw [Nat.sub_self]
  rfl
theorem zpk_m {k k' : Int} {σ0 σ : za_S} (h : zpk k σ0 σ) (q : k' ≤ k) : zpk k' σ0 σ := ⟨h.1, ⟨by have := h.2.1.1; omega, h.2.1.2⟩, ⟨h.2.2.1.1, by have := h.2.2.1.2; omega⟩, h.2.2.2⟩
theorem zpk_6 {k : Int} {σ0 σ : za_S} (h : zpk k σ0 σ) : σ.1 93 6 = σ0.1 93 6 := h.1.2.2 6 (by decide) (by decide) (by decide)
theorem zpk_q {k : Int} {σ0 σ : za_S} (hq : zpq σ0) (h : zpk k σ0 σ) (hk : 0 ≤ k) : zpq σ := by
  have e6 := zpk_6 h
  obtain ⟨⟨o1, o2, o3⟩, o4, o5⟩ := hq
  obtain ⟨-, ⟨a1, a2⟩, ⟨a3, a4⟩, -⟩ := h
  unfold zpq zpo
  rw [e6]
  omega
theorem zpk_t {k k' : Int} {a b d : za_S} (h : zpk k a b) (q : zpk k' b d) : zpk (k + k') a d := by
  have e6 := zpk_6 h
  obtain ⟨h1, ⟨a1, a2⟩, ⟨a3, a4⟩, a5⟩ := h
  obtain ⟨q1, ⟨b1, b2⟩, ⟨b3, b4⟩, b5⟩ := q
  rw [e6] at b2
  exact ⟨zpr_t h1 q1, ⟨by omega, by omega⟩, ⟨by omega, by omega⟩, fun i hi => (b5 i (by omega)).trans (a5 i hi)⟩
theorem zpd_t {k k' : Int} {e e' : Nat} {a b d : za_S} (ha : zpd e a b) (h : zpk k a b) (q : zpk k' b d) (hd : zpd e' b d) : zpd (e + e') a d := by
  intro x
  have a3 := h.2.2.1.1
  have b3 := q.2.2.1.1
  have b5 := q.2.2.2
  have h1 := zsq_cong (g := d.1 96) _ _ _ (fun i _ i2 => b5 i (by omega)) (ha x)
  have h2 := hd (x + e)
  have e1 : (a.1 93 9).toInt.toNat + ((b.1 93 9).toInt.toNat - (a.1 93 9).toInt.toNat) = (b.1 93 9).toInt.toNat := by omega
  rw [← e1] at h2
  have h3 := zsq_app _ _ h1 h2
  have e2 : (b.1 93 9).toInt.toNat - (a.1 93 9).toInt.toNat + ((d.1 93 9).toInt.toNat - ((a.1 93 9).toInt.toNat + ((b.1 93 9).toInt.toNat - (a.1 93 9).toInt.toNat))) = (d.1 93 9).toInt.toNat - (a.1 93 9).toInt.toNat := by omega
  rw [e2, Nat.add_assoc] at h3
  exact h3
theorem zpk_a {k k' : Int} {σ0 σ σ' : za_S} (h : zpk k σ0 σ) (q : zat k' σ σ') : zpk (k + k') σ0 σ' := by
  have e6 := zpk_6 h
  obtain ⟨h1, ⟨a1, a2⟩, ⟨a3, a4⟩, a5⟩ := h
  obtain ⟨⟨q1, q2, q3⟩, q4, q5⟩ := q
  rw [e6] at q5
  have e9 := q3 9 (by decide)
  refine ⟨⟨fun w w1 w2 => (q1 w w1).trans (h1.1 w w1 w2), q2.trans h1.2.1, fun j j1 j2 j3 => (q3 j j1).trans (h1.2.2 j j1 j2 j3)⟩, ⟨by omega, q5⟩, ?_, fun i hi => by rw [q1 96 (by decide)]; exact a5 i hi⟩
  rw [e9]
  omega
theorem zpd_a {e : Nat} {σ0 σ σ' : za_S} (h : zpd e σ0 σ) (q : zaf σ σ') : zpd e σ0 σ' := by
  intro d
  rw [q.2.2 9 (by decide), q.1 96 (by decide)]
  exact h d
theorem zat_tk {σ σ' : za_S} {r : Int32} (ho : zpo σ) (h : (r = 0 ∨ r = 1) ∧ zaf σ σ' ∧ (σ'.1 93 5).toInt = (σ.1 93 5).toInt + r.toInt ∧ (r = 1 → (σ.1 93 5).toInt < (σ.1 93 6).toInt)) : zat r.toInt σ σ' := by
  obtain ⟨h1, h2, h3, h4⟩ := h
  refine ⟨h2, by omega, ?_⟩
  have o := ho.2.1
  rcases h1 with e | e
  · have e0 : r.toInt = 0 := by rw [e]; decide
    omega
  · have e0 : r.toInt = 1 := by rw [e]; decide
    have := h4 e
    omega
theorem z_b01 {r : Int32} (h : r = 0 ∨ r = 1) (c : ¬ r = 0) : r.toInt = 1 := by
  rcases h with e | e
  · exact absurd e c
  · rw [e]; decide
theorem zpk_n {k : Int} {σ0 σ : za_S} {x : Int32} (h : zpk k σ0 σ) : zpk k σ0 (za_si σ 93 7 x) := by
  obtain ⟨h1, a1, a2, a3⟩ := h
  refine ⟨⟨fun w w1 w2 => by rw [(za_si_off w w1).1]; exact h1.1 w w1 w2, h1.2.1, fun j j1 j2 j3 => by rw [za_si_ne _ _ (Or.inr j2)]; exact h1.2.2 j j1 j2 j3⟩, ?_, ?_, ?_⟩
  · rw [za_si_ne _ _ (Or.inr (by decide))]; exact a1
  · rw [za_si_ne _ _ (Or.inr (by decide)), za_si_ne _ _ (Or.inr (by decide))]; exact a2
  · rw [(za_si_off 96 (by decide)).1]; exact a3
theorem zpd_n {e : Nat} {σ0 σ : za_S} {x : Int32} (h : zpd e σ0 σ) : zpd e σ0 (za_si σ 93 7 x) := by
  intro d
  rw [za_si_ne _ _ (Or.inr (by decide)), (za_si_off 96 (by decide)).1]
  exact h d
theorem zpk_cl {k : Int} {σ0 σ : za_S} (hq : zpq σ0) (h : zpk k σ0 σ) (hk : 1 ≤ k) : 0 ≤ (σ.1 93 9).toInt ∧ (σ.1 93 9).toInt ≤ 79 := by
  obtain ⟨⟨o1, o2, o3⟩, o4, o5⟩ := hq
  obtain ⟨-, ⟨a1, a2⟩, ⟨a3, a4⟩, -⟩ := h
  omega
theorem zcd_e {σ σ' : za_S} {v : Int32} (e : σ' = za_si (za_si σ 96 (σ.1 93 9).toNatClampNeg v) 93 9 (σ.1 93 9 + 1)) : σ'.1 93 5 = σ.1 93 5 ∧ σ'.1 93 6 = σ.1 93 6 := by
  rw [e, za_si_ne _ _ (Or.inr (by decide)), za_si_ne _ _ (Or.inl (by decide)), za_si_ne _ _ (Or.inr (by decide)), za_si_ne _ _ (Or.inl (by decide))]
  exact ⟨rfl, rfl⟩
theorem zpk_c {k : Int} {σ0 σ σ' : za_S} {v : Int32} (hq : zpq σ0) (h : zpk k σ0 σ) (hk : 1 ≤ k) (e : σ' = za_si (za_si σ 96 (σ.1 93 9).toNatClampNeg v) 93 9 (σ.1 93 9 + 1)) : zpk (k - 1) σ0 σ' := by
  have hc := zpk_cl hq h hk
  obtain ⟨h1, ⟨a1, a2⟩, ⟨a3, a4⟩, a5⟩ := h
  have e1 : (σ.1 93 9 + 1).toInt = (σ.1 93 9).toInt + 1 := by rw [z_add (by rw [z_one]; omega) (by rw [z_one]; omega), z_one]
  rw [e]
  refine ⟨⟨fun w w1 w2 => by rw [(za_si_off w w1).1, (za_si_off w w2).1]; exact h1.1 w w1 w2, h1.2.1, fun j j1 j2 j3 => by rw [za_si_ne _ _ (Or.inr j3), za_si_ne _ _ (Or.inl (by decide))]; exact h1.2.2 j j1 j2 j3⟩, ?_, ?_, fun i hi => ?_⟩
  · rw [za_si_ne _ _ (Or.inr (by decide)), za_si_ne _ _ (Or.inl (by decide))]
    omega
  · rw [za_si_same, za_si_ne _ _ (Or.inr (by decide)), za_si_ne _ _ (Or.inl (by decide)), e1]
    omega
  · rw [(za_si_off 96 (by decide)).1, za_si_ne _ _ (Or.inr (show i ≠ (σ.1 93 9).toNatClampNeg from fun q9 => absurd (show i = (σ.1 93 9).toInt.toNat from q9) (by omega)))]
    exact a5 i hi
theorem zpd_c {k : Int} {x x' : Nat} {σ0 σ σ' : za_S} {v : Int32} (hq : zpq σ0) (h : zpk k σ0 σ) (hk : 1 ≤ k) (hd : zpd x σ0 σ) (hv : ∀ d, zcok v (d + x) ∧ zstp v (d + x) = d + x') (e : σ' = za_si (za_si σ 96 (σ.1 93 9).toNatClampNeg v) 93 9 (σ.1 93 9 + 1)) : zpd x' σ0 σ' := by
  have hc := zpk_cl hq h hk
  have a3 := h.2.2.1.1
  have o4 := hq.2.1
  have e1 : (σ.1 93 9 + 1).toInt = (σ.1 93 9).toInt + 1 := by rw [z_add (by rw [z_one]; omega) (by rw [z_one]; omega), z_one]
  intro d
  rw [e, za_si_same, e1, (za_si_off 96 (by decide)).1]
  have en : ((σ.1 93 9).toInt + 1).toNat - (σ0.1 93 9).toInt.toNat = ((σ.1 93 9).toInt.toNat - (σ0.1 93 9).toInt.toNat) + 1 := by omega
  have ei : (σ0.1 93 9).toInt.toNat + ((σ.1 93 9).toInt.toNat - (σ0.1 93 9).toInt.toNat) = (σ.1 93 9).toNatClampNeg := by
    show _ = (σ.1 93 9).toInt.toNat
    omega
  rw [en]
  refine ⟨d + x, zsq_cong _ _ _ (fun i i1 i2 => ?_) (hd d), ?_, ?_⟩
  · rw [za_si_ne _ _ (Or.inr (show i ≠ (σ.1 93 9).toNatClampNeg from fun q9 => absurd (show i = (σ.1 93 9).toInt.toNat from q9) (by omega)))]
  · rw [ei, za_si_same]; exact (hv d).1
  · rw [ei, za_si_same]; exact (hv d).2.symm
theorem zok_less : ∀ d : Nat, zcok 3000 (d + 1) ∧ zstp 3000 (d + 1) = d + 1 := fun d => ⟨Or.inl ⟨by decide, by omega⟩, if_pos (by decide)⟩
theorem zok_num {v : Int32} (h : v.toInt ≤ 999) : ∀ d : Nat, zcok v (d + 0) ∧ zstp v (d + 0) = d + 1 := fun d => ⟨Or.inr (Or.inr (Or.inl (by omega))), by unfold zstp; rw [if_neg (by omega), if_neg (by omega)]⟩
theorem zok_th {r : Int32} (h : 0 ≤ r.toInt ∧ r.toInt < 7) : ∀ d : Nat, zcok (1000 + r) (d + 0) ∧ zstp (1000 + r) (d + 0) = d + 1 := by
  intro d
  have h9 : (1000 : Int32).toInt = 1000 := by decide
  have e : (1000 + r).toInt = 1000 + r.toInt := by rw [z_add (by rw [h9]; omega) (by rw [h9]; omega), h9]
  exact ⟨Or.inr (Or.inr (Or.inr (by omega))), by unfold zstp; rw [if_neg (by omega), if_neg (by omega)]⟩
theorem zok_act {r q : Int32} (h : 0 ≤ r.toInt ∧ r.toInt < 3) (hq : 0 ≤ q.toInt ∧ q.toInt ≤ 5) : ∀ d : Nat, zcok (2000 + r + q) (d + 2) ∧ zstp (2000 + r + q) (d + 2) = d + 1 := by
  intro d
  have h9 : (2000 : Int32).toInt = 2000 := by decide
  have e : (2000 + r).toInt = 2000 + r.toInt := by rw [z_add (by rw [h9]; omega) (by rw [h9]; omega), h9]
  have e2 : (2000 + r + q).toInt = 2000 + r.toInt + q.toInt := by rw [z_add (by rw [e]; omega) (by rw [e]; omega), e]
  exact ⟨Or.inr (Or.inl ⟨by omega, by omega, by omega⟩), by unfold zstp; rw [if_neg (by omega), if_pos (by omega)]; omega⟩
theorem zpk_pos {σ0 σ : za_S} {n : Nat} (h : zpk 1 σ0 σ) (hn : (σ0.1 93 6).toInt - (σ0.1 93 5).toInt ≤ n) : 0 < n := by
  have h1 := h.2.1
  omega
theorem zpk_rm {σ0 σ : za_S} {n : Nat} (h : zpk 1 σ0 σ) (hn : (σ0.1 93 6).toInt - (σ0.1 93 5).toInt ≤ n) : (σ.1 93 6).toInt - (σ.1 93 5).toInt ≤ ((n - 1 : Nat) : Int) := by
  have h1 := h.2.1
  rw [zpk_6 h]
  omega
theorem zpk_r0 {k : Int} {σ0 σ : za_S} {n : Nat} (h : zpk k σ0 σ) (hk : 0 ≤ k) (hn : (σ0.1 93 6).toInt - (σ0.1 93 5).toInt ≤ n) : (σ.1 93 6).toInt - (σ.1 93 5).toInt ≤ n := by
  have h1 := h.2.1
  rw [zpk_6 h]
  omega
def zTh (n : Nat) : Prop := ∀ (l : Launch) (E : za_E) (σ0 : za_S), zpq σ0 → (σ0.1 93 6).toInt - (σ0.1 93 5).toInt ≤ n → zMi l E yX10_readsThing cX10_readsThing 2 (Option.some Jvm.ClassFile.FieldType.boolean) (5 * n + 10) (150 * n + 200) [za_O 19 93] σ0 (fun r σ' => zpt r σ0 σ')
def zRk (q : Int32) (a b n : Nat) : Prop := ∀ (l : Launch) (E : za_E) (σ0 : za_S), zpq σ0 → (σ0.1 93 6).toInt - (σ0.1 93 5).toInt ≤ n → zMi l E yX10_readsRank cX10_readsRank 4 (Option.some Jvm.ClassFile.FieldType.boolean) (5 * n + a) (150 * n + b) [za_O 19 93, za_I q] σ0 (fun r σ' => zpt r σ0 σ')
set_option maxHeartbeats 4000000 in
set_option maxRecDepth 100000 in
theorem zc_X10_readsThing (l : Launch) (E : za_E) (n9 : Nat) (ih : ∀ k, k < n9 → zTh k ∧ zRk 0 14 320 k) (σ0 : za_S) (hq : zpq σ0) (hn : (σ0.1 93 6).toInt - (σ0.1 93 5).toInt ≤ n9) : zMi l E yX10_readsThing cX10_readsThing 2 (Option.some Jvm.ClassFile.FieldType.boolean) (5 * n9 + 10) (150 * n9 + 200) [za_O 19 93] σ0 (fun r σ' => zpt r σ0 σ') := by
  refine zMi_of [(0, za_O 19 93)] (by decide) rfl rfl (Nat.le_of_ble_eq_true rfl) ?_
  intro ho p e s m args below meth c G hr
  refine zv_gen (R9 := (fun σ => zpk 0 σ0 σ ∧ zpd 0 σ0 σ)) ⟨zpk_z hq, zpd_z σ0⟩ (fun σ hz => ?_)
  refine zv_aload_n (j := 0) G dX10_readsThing_0 rfl rfl ?_
  refine zv_bipush (v := 45) G dX10_readsThing_1 (by decide) ?_
  refine zv_callVi (as := [za_I 45]) G (by decide) rfl rfl (zc_X10_takes l E (45 : Int32) σ (zpk_q hq hz.1 (by decide)).1) zk_X10_takes zm_1646 rfl ⟨(show 2 + 1 ≤ (5 * n9 + 10) by omega), (show 8 + (3 + 11) + 41 ≤ (150 * n9 + 200) by omega)⟩ ⟨Nat.zero_le _, Nat.zero_le _⟩ (Nat.le_of_ble_eq_true rfl) dX10_readsThing_3 (fun r_3 σ h_3 => ?_)
  have a_3 := zat_tk (zpk_q hq hz.1 (by decide)).1 h_3
  have h_3 := h_3.1
  have hz : zpk (0 + r_3.toInt) σ0 σ ∧ zpd 0 σ0 σ := ⟨zpk_a hz.1 a_3, zpd_a hz.2 a_3.1⟩
  refine zv_if_eq (tgt := 23) G dX10_readsThing_6 (by decide) (fun c_6 => ?_) (fun c_6 => ?_)
  · have hz : zpk 0 σ0 σ ∧ zpd 0 σ0 σ := ⟨zpk_m hz.1 (by rw [c_6]; decide), hz.2⟩
    refine zv_aload_n (j := 0) G dX10_readsThing_23 rfl rfl ?_
    refine zv_callVi (as := []) G (by decide) rfl rfl (zc_X10_isDigit l E  σ (zpk_q hq hz.1 (by decide)).1) zk_X10_isDigit zm_1510 rfl ⟨(show 2 + 1 ≤ (5 * n9 + 10) by omega), (show 8 + (1 + 11) + 46 ≤ (150 * n9 + 200) by omega)⟩ ⟨Nat.zero_le _, Nat.zero_le _⟩ (Nat.le_of_ble_eq_true rfl) dX10_readsThing_24 (fun r_24 σ h_24 => ?_)
    obtain ⟨h_24, rfl⟩ := h_24
    refine zv_if_eq (tgt := 41) G dX10_readsThing_27 (by decide) (fun c_27 => ?_) (fun c_27 => ?_)
    · have f_24 := fun q9 => (h_24.2.mpr q9) c_27
      refine zv_aload_n (j := 0) G dX10_readsThing_41 rfl rfl ?_
      refine zv_lds (q := 15) (tx := "kvrftli") G (by decide +kernel) (by decide) dX10_readsThing_42 ?_
      refine zv_callVi (as := [za_O 50 15]) G (by decide) rfl rfl (zc_X10_takesOf l E 15 σ (zpk_q hq hz.1 (by decide)).1) zk_X10_takesOf zm_1487 rfl ⟨(show 5 + 1 ≤ (5 * n9 + 10) by omega), (show 8 + (3 + 11) + 106 ≤ (150 * n9 + 200) by omega)⟩ ⟨Nat.zero_le _, Nat.zero_le _⟩ (Nat.le_of_ble_eq_true rfl) dX10_readsThing_44 (fun r_44 σ h_44 => ?_)
      have hz0 := hz
      have hz : zpk 0 σ0 σ ∧ zpd 0 σ0 σ := by rcases h_44 with ⟨-, k9⟩ | ⟨-, k9⟩ <;> exact ⟨zpk_m (zpk_a hz.1 k9) (by decide), zpd_a hz.2 k9.1⟩
      refine zv_istore_n (lv' := [(1, za_I r_44), (0, za_O 19 93)]) G dX10_readsThing_47 rfl (by decide) rfl ?_
      refine zv_iload_n (j := 0) G dX10_readsThing_48 rfl rfl ?_
      refine zv_if_lt (tgt := 63) G dX10_readsThing_49 (by decide) (fun c_49 => ?_) (fun c_49 => ?_)
      · refine zv_aload_n (j := 1) G dX10_readsThing_63 rfl rfl ?_
        refine zg_X10_32 G dX10_readsThing_64 ?_
        refine zv_iconst (v := 4) G dX10_readsThing_67 (by decide) ?_
        refine zv_icmp_eq (tgt := 80) G dX10_readsThing_68 (by decide) (fun c_68 => ?_) (fun c_68 => ?_)
        · refine zv_iconst (v := 0) G dX10_readsThing_80 (by decide) ?_
          exact zv_zret G hr dX10_readsThing_81 (by decide) ⟨Or.inl rfl, zpk_m hz.1 (by decide), fun h => absurd rfl h⟩
        · refine zv_aload_n (j := 1) G dX10_readsThing_71 rfl rfl ?_
          refine zv_bipush (v := 40) G dX10_readsThing_72 (by decide) ?_
          refine zv_callVi (as := [za_I 40]) G (by decide) rfl rfl (zc_X10_takes l E (40 : Int32) σ (zpk_q hq hz.1 (by decide)).1) zk_X10_takes zm_1646 rfl ⟨(show 2 + 1 ≤ (5 * n9 + 10) by omega), (show 8 + (3 + 11) + 41 ≤ (150 * n9 + 200) by omega)⟩ ⟨Nat.zero_le _, Nat.zero_le _⟩ (Nat.le_of_ble_eq_true rfl) dX10_readsThing_74 (fun r_74 σ h_74 => ?_)
          have a_74 := zat_tk (zpk_q hq hz.1 (by decide)).1 h_74
          have h_74 := h_74.1
          have hz : zpk (0 + r_74.toInt) σ0 σ ∧ zpd 0 σ0 σ := ⟨zpk_a hz.1 a_74, zpd_a hz.2 a_74.1⟩
          refine zv_if_ne (tgt := 82) G dX10_readsThing_77 (by decide) (fun c_77 => ?_) (fun c_77 => ?_)
          · have b9 := z_b01 h_74 c_77
            have hz : zpk 1 σ0 σ ∧ zpd 0 σ0 σ := ⟨zpk_m hz.1 (by omega), hz.2⟩
            have l_9 := zpk_pos hz.1 hn
            refine zv_aload_n (j := 1) G dX10_readsThing_82 rfl rfl ?_
            refine zv_dupO G dX10_readsThing_83 ?_
            refine zg_X10_32 G dX10_readsThing_84 ?_
            refine zv_iconst (v := 1) G dX10_readsThing_87 (by decide) ?_
            refine zv_iadd G dX10_readsThing_88 ?_
            refine zp_X10_32 G dX10_readsThing_89 ?_
            refine zv_gen (R9 := (fun σ => zpk 1 σ0 σ ∧ zpd 0 σ0 σ)) ⟨zpk_n hz.1, zpd_n hz.2⟩ (fun σ hz => ?_)
            refine zv_aload_n (j := 1) G dX10_readsThing_92 rfl rfl ?_
            refine zv_iconst (v := 0) G dX10_readsThing_93 (by decide) ?_
            refine zv_callVi (as := [za_I 0]) G (by decide) rfl rfl ((ih (n9 - 1) (by omega)).2 l E  σ (zpk_q hq hz.1 (by decide)) (zpk_rm hz.1 hn)) zk_X10_readsRank zm_1638 rfl ⟨(show (5 * (n9 - 1) + 14) + 1 ≤ (5 * n9 + 10) by omega), (show 8 + (4 + 11) + (150 * (n9 - 1) + 320) ≤ (150 * n9 + 200) by omega)⟩ ⟨Nat.zero_le _, Nat.zero_le _⟩ (Nat.le_of_ble_eq_true rfl) dX10_readsThing_94 (fun r_94 σ h_94 => ?_)
            have hz : zpk 1 σ0 σ ∧ (¬ r_94 = 0 → zpd 1 σ0 σ) := ⟨zpk_m (zpk_t hz.1 h_94.2.1) (by decide), fun c9 => zpd_t hz.2 hz.1 h_94.2.1 (h_94.2.2 c9)⟩
            have b_94 := h_94.1
            refine zv_if_eq (tgt := 109) G dX10_readsThing_97 (by decide) (fun c_97 => ?_) (fun c_97 => ?_)
            · refine zv_iconst (v := 0) G dX10_readsThing_109 (by decide) ?_
              exact zv_zret G hr dX10_readsThing_110 (by decide) ⟨Or.inl rfl, zpk_m hz.1 (by decide), fun h => absurd rfl h⟩
            · have hz : zpk 1 σ0 σ ∧ zpd 1 σ0 σ := ⟨hz.1, hz.2 c_97⟩
              refine zv_aload_n (j := 1) G dX10_readsThing_100 rfl rfl ?_
              refine zv_bipush (v := 41) G dX10_readsThing_101 (by decide) ?_
              refine zv_callVi (as := [za_I 41]) G (by decide) rfl rfl (zc_X10_takes l E (41 : Int32) σ (zpk_q hq hz.1 (by decide)).1) zk_X10_takes zm_1646 rfl ⟨(show 2 + 1 ≤ (5 * n9 + 10) by omega), (show 8 + (3 + 11) + 41 ≤ (150 * n9 + 200) by omega)⟩ ⟨Nat.zero_le _, Nat.zero_le _⟩ (Nat.le_of_ble_eq_true rfl) dX10_readsThing_103 (fun r_103 σ h_103 => ?_)
              have a_103 := zat_tk (zpk_q hq hz.1 (by decide)).1 h_103
              have h_103 := h_103.1
              have hz : zpk (1 + r_103.toInt) σ0 σ ∧ zpd 1 σ0 σ := ⟨zpk_a hz.1 a_103, zpd_a hz.2 a_103.1⟩
              refine zv_if_ne (tgt := 111) G dX10_readsThing_106 (by decide) (fun c_106 => ?_) (fun c_106 => ?_)
              · have b9 := z_b01 h_103 c_106
                have hz : zpk 2 σ0 σ ∧ zpd 1 σ0 σ := ⟨zpk_m hz.1 (by omega), hz.2⟩
                refine zv_aload_n (j := 1) G dX10_readsThing_111 rfl rfl ?_
                refine zv_dupO G dX10_readsThing_112 ?_
                refine zg_X10_32 G dX10_readsThing_113 ?_
                refine zv_iconst (v := 1) G dX10_readsThing_116 (by decide) ?_
                refine zv_isub G dX10_readsThing_117 ?_
                refine zp_X10_32 G dX10_readsThing_118 ?_
                refine zv_gen (R9 := (fun σ => zpk 0 σ0 σ ∧ zpd 1 σ0 σ)) ⟨zpk_n (zpk_m hz.1 (by decide)), zpd_n hz.2⟩ (fun σ hz => ?_)
                refine zv_iconst (v := 1) G dX10_readsThing_121 (by decide) ?_
                exact zv_zret G hr dX10_readsThing_122 (by decide) ⟨Or.inr rfl, hz.1, fun _ => hz.2⟩
              · have hz : zpk 1 σ0 σ ∧ zpd 1 σ0 σ := ⟨zpk_m hz.1 (by rw [c_106]; decide), hz.2⟩
                refine zv_iconst (v := 0) G dX10_readsThing_109 (by decide) ?_
                exact zv_zret G hr dX10_readsThing_110 (by decide) ⟨Or.inl rfl, zpk_m hz.1 (by decide), fun h => absurd rfl h⟩
          · have hz : zpk 0 σ0 σ ∧ zpd 0 σ0 σ := ⟨zpk_m hz.1 (by rw [c_77]; decide), hz.2⟩
            refine zv_iconst (v := 0) G dX10_readsThing_80 (by decide) ?_
            exact zv_zret G hr dX10_readsThing_81 (by decide) ⟨Or.inl rfl, zpk_m hz.1 (by decide), fun h => absurd rfl h⟩
      · have h9 := h_44.resolve_left (fun q => absurd q.1 (fun e9 => c_49 (by rw [e9]; decide)))
        have hz : zpk 1 σ0 σ ∧ zpd 0 σ0 σ := ⟨zpk_m (zpk_a hz0.1 h9.2) (by decide), hz.2⟩
        refine zv_aload_n (j := 1) G dX10_readsThing_52 rfl rfl ?_
        refine zv_sipush (v := 1000) G dX10_readsThing_53 (by decide) ?_
        refine zv_iload_n (j := 0) G dX10_readsThing_56 rfl rfl ?_
        refine zv_iadd G dX10_readsThing_57 ?_
        refine zv_callVv (as := [za_I (1000 + r_44)]) G (by decide) rfl rfl (zc_X10_codes l E (1000 + r_44) σ (zpk_cl hq hz.1 (by decide))) zk_X10_codes zm_1650 rfl ⟨(show 1 + 1 ≤ (5 * n9 + 10) by omega), (show 8 + (2 + 11) + 21 ≤ (150 * n9 + 200) by omega)⟩ ⟨Nat.zero_le _, Nat.zero_le _⟩ (Nat.le_of_ble_eq_true rfl) dX10_readsThing_58 (fun σ h_58 => ?_)
        have hz : zpk 0 σ0 σ ∧ zpd 1 σ0 σ := ⟨zpk_c hq hz.1 (by decide) h_58, zpd_c hq hz.1 (by decide) hz.2 (zok_th ⟨h9.1.1, by have u9 : ((za_len.getD 15 0 : Nat) : Int) = 7 := (by decide); have u8 := h9.1.2; omega⟩) h_58⟩
        refine zv_iconst (v := 1) G dX10_readsThing_61 (by decide) ?_
        exact zv_zret G hr dX10_readsThing_62 (by decide) ⟨Or.inr rfl, hz.1, fun _ => hz.2⟩
    · have t_24 := h_24.2.mp c_27
      refine zv_aload_n (j := 0) G dX10_readsThing_30 rfl rfl ?_
      refine zv_aload_n (j := 0) G dX10_readsThing_31 rfl rfl ?_
      refine zv_iconst (v := 3) G dX10_readsThing_32 (by decide) ?_
      refine zv_callVi (as := [za_I 3]) G (by decide) rfl rfl (zc_X10_number l E (3 : Int32) σ (zpk_q hq hz.1 (by decide)).1 (by decide)) zk_X10_number zm_1506 rfl ⟨(show 3 + 1 ≤ (5 * n9 + 10) by omega), (show 8 + (4 + 11) + 66 ≤ (150 * n9 + 200) by omega)⟩ ⟨Nat.zero_le _, Nat.zero_le _⟩ (Nat.le_of_ble_eq_true rfl) dX10_readsThing_33 (fun r_33 σ h_33 => ?_)
      have k_33 := h_33.resolve_left (fun q => q.2.1 t_24)
      have hz : zpk 1 σ0 σ ∧ zpd 0 σ0 σ := ⟨zpk_m (zpk_a hz.1 k_33.2) (by decide), zpd_a hz.2 k_33.2.1⟩
      refine zv_callVv (as := [za_I r_33]) G (by decide) rfl rfl (zc_X10_codes l E r_33 σ (zpk_cl hq hz.1 (by decide))) zk_X10_codes zm_1650 rfl ⟨(show 1 + 1 ≤ (5 * n9 + 10) by omega), (show 8 + (2 + 11) + 21 ≤ (150 * n9 + 200) by omega)⟩ ⟨Nat.zero_le _, Nat.zero_le _⟩ (Nat.le_of_ble_eq_true rfl) dX10_readsThing_36 (fun σ h_36 => ?_)
      have hz : zpk 0 σ0 σ ∧ zpd 1 σ0 σ := ⟨zpk_c hq hz.1 (by decide) h_36, zpd_c hq hz.1 (by decide) hz.2 (zok_num k_33.1.2) h_36⟩
      refine zv_iconst (v := 1) G dX10_readsThing_39 (by decide) ?_
      exact zv_zret G hr dX10_readsThing_40 (by decide) ⟨Or.inr rfl, hz.1, fun _ => hz.2⟩
  · have b9 := z_b01 h_3 c_6
    have hz : zpk 1 σ0 σ ∧ zpd 0 σ0 σ := ⟨zpk_m hz.1 (by omega), hz.2⟩
    have l_9 := zpk_pos hz.1 hn
    refine zv_aload_n (j := 0) G dX10_readsThing_9 rfl rfl ?_
    refine zv_callVi (as := []) G (by decide) rfl rfl ((ih (n9 - 1) (by omega)).1 l E  σ (zpk_q hq hz.1 (by decide)) (zpk_rm hz.1 hn)) zk_X10_readsThing zm_1642 rfl ⟨(show (5 * (n9 - 1) + 10) + 1 ≤ (5 * n9 + 10) by omega), (show 8 + (2 + 11) + (150 * (n9 - 1) + 200) ≤ (150 * n9 + 200) by omega)⟩ ⟨Nat.zero_le _, Nat.zero_le _⟩ (Nat.le_of_ble_eq_true rfl) dX10_readsThing_10 (fun r_10 σ h_10 => ?_)
    have hz : zpk 1 σ0 σ ∧ (¬ r_10 = 0 → zpd 1 σ0 σ) := ⟨zpk_m (zpk_t hz.1 h_10.2.1) (by decide), fun c9 => zpd_t hz.2 hz.1 h_10.2.1 (h_10.2.2 c9)⟩
    have b_10 := h_10.1
    refine zv_istore_n (lv' := [(1, za_I r_10), (0, za_O 19 93)]) G dX10_readsThing_13 rfl (by decide) rfl ?_
    refine zv_aload_n (j := 1) G dX10_readsThing_14 rfl rfl ?_
    refine zv_sipush (v := 3000) G dX10_readsThing_15 (by decide) ?_
    refine zv_callVv (as := [za_I 3000]) G (by decide) rfl rfl (zc_X10_codes l E (3000 : Int32) σ (zpk_cl hq hz.1 (by decide))) zk_X10_codes zm_1650 rfl ⟨(show 1 + 1 ≤ (5 * n9 + 10) by omega), (show 8 + (2 + 11) + 21 ≤ (150 * n9 + 200) by omega)⟩ ⟨Nat.zero_le _, Nat.zero_le _⟩ (Nat.le_of_ble_eq_true rfl) dX10_readsThing_18 (fun σ h_18 => ?_)
    have hz : zpk 0 σ0 σ ∧ (¬ r_10 = 0 → zpd 1 σ0 σ) := ⟨zpk_c hq hz.1 (by decide) h_18, fun c9 => zpd_c hq hz.1 (by decide) (hz.2 c9) zok_less h_18⟩
    refine zv_iload_n (j := 0) G dX10_readsThing_21 rfl rfl ?_
    exact zv_zret G hr dX10_readsThing_22 (z_nar b_10) ⟨b_10, hz.1, hz.2⟩
set_option maxHeartbeats 4000000 in
set_option maxRecDepth 100000 in
theorem zc_X10_readsRank_at3 (l : Launch) (E : za_E) (n9 : Nat) (hT : zTh n9) (σ0 : za_S) (hq : zpq σ0) (hn : (σ0.1 93 6).toInt - (σ0.1 93 5).toInt ≤ n9) : zMi l E yX10_readsRank cX10_readsRank 4 (Option.some Jvm.ClassFile.FieldType.boolean) (5 * n9 + 11) (150 * n9 + 230) [za_O 19 93, za_I 3] σ0 (fun r σ' => zpt r σ0 σ') := by
  refine zMi_of [(0, za_O 19 93), (1, za_I 3)] (by decide) rfl rfl (Nat.le_of_ble_eq_true rfl) ?_
  intro ho p e s m args below meth c G hr
  refine zv_gen (R9 := (fun σ => zpk 0 σ0 σ ∧ zpd 0 σ0 σ)) ⟨zpk_z hq, zpd_z σ0⟩ (fun σ hz => ?_)
  refine zv_iload_n (j := 1) G dX10_readsRank_0 rfl rfl ?_
  refine zv_iconst (v := 3) G dX10_readsRank_1 (by decide) ?_
  refine zv_icmp_ne (tgt := 10) G dX10_readsRank_2 (by decide) (fun c_2 => ?_) (fun c_2 => ?_)
  · exact absurd c_2 (by decide)
  · refine zv_aload_n (j := 0) G dX10_readsRank_5 rfl rfl ?_
    refine zv_callVi (as := []) G (by decide) rfl rfl (hT l E  σ (zpk_q hq hz.1 (by decide)) (zpk_r0 hz.1 (by decide) hn)) zk_X10_readsThing zm_1642 rfl ⟨(show (5 * n9 + 10) + 1 ≤ (5 * n9 + 11) by omega), (show 8 + (2 + 11) + (150 * n9 + 200) ≤ (150 * n9 + 230) by omega)⟩ ⟨Nat.zero_le _, Nat.zero_le _⟩ (Nat.le_of_ble_eq_true rfl) dX10_readsRank_6 (fun r_6 σ h_6 => ?_)
    have hz : zpk 0 σ0 σ ∧ (¬ r_6 = 0 → zpd 1 σ0 σ) := ⟨zpk_m (zpk_t hz.1 h_6.2.1) (by decide), fun c9 => zpd_t hz.2 hz.1 h_6.2.1 (h_6.2.2 c9)⟩
    have b_6 := h_6.1
    exact zv_zret G hr dX10_readsRank_9 (z_nar b_6) ⟨b_6, hz.1, hz.2⟩
set_option maxHeartbeats 4000000 in
set_option maxRecDepth 100000 in
theorem zc_X10_readsRank_at2 (l : Launch) (E : za_E) (n9 : Nat) (hK : zRk 3 11 230 n9) (σ0 : za_S) (hq : zpq σ0) (hn : (σ0.1 93 6).toInt - (σ0.1 93 5).toInt ≤ n9) : zMi l E yX10_readsRank cX10_readsRank 4 (Option.some Jvm.ClassFile.FieldType.boolean) (5 * n9 + 12) (150 * n9 + 260) [za_O 19 93, za_I 2] σ0 (fun r σ' => zpt r σ0 σ') := by
  refine zMi_of [(0, za_O 19 93), (1, za_I 2)] (by decide) rfl rfl (Nat.le_of_ble_eq_true rfl) ?_
  intro ho p e s m args below meth c G hr
  refine zv_gen (R9 := (fun σ => zpk 0 σ0 σ ∧ zpd 0 σ0 σ)) ⟨zpk_z hq, zpd_z σ0⟩ (fun σ hz => ?_)
  refine zv_iload_n (j := 1) G dX10_readsRank_0 rfl rfl ?_
  refine zv_iconst (v := 3) G dX10_readsRank_1 (by decide) ?_
  refine zv_icmp_ne (tgt := 10) G dX10_readsRank_2 (by decide) (fun c_2 => ?_) (fun c_2 => ?_)
  · refine zv_aload_n (j := 0) G dX10_readsRank_10 rfl rfl ?_
    refine zv_iload_n (j := 1) G dX10_readsRank_11 rfl rfl ?_
    refine zv_iconst (v := 1) G dX10_readsRank_12 (by decide) ?_
    refine zv_iadd G dX10_readsRank_13 ?_
    refine zv_cst (y := 3) (by decide) ?_
    refine zv_callVi (as := [za_I 3]) G (by decide) rfl rfl (hK l E  σ (zpk_q hq hz.1 (by decide)) (zpk_r0 hz.1 (by decide) hn)) zk_X10_readsRank zm_1638 rfl ⟨(show (5 * n9 + 11) + 1 ≤ (5 * n9 + 12) by omega), (show 8 + (4 + 11) + (150 * n9 + 230) ≤ (150 * n9 + 260) by omega)⟩ ⟨Nat.zero_le _, Nat.zero_le _⟩ (Nat.le_of_ble_eq_true rfl) dX10_readsRank_14 (fun r_14 σ h_14 => ?_)
    have hz : zpk 0 σ0 σ ∧ (¬ r_14 = 0 → zpd 1 σ0 σ) := ⟨zpk_m (zpk_t hz.1 h_14.2.1) (by decide), fun c9 => zpd_t hz.2 hz.1 h_14.2.1 (h_14.2.2 c9)⟩
    have b_14 := h_14.1
    refine zv_if_ne (tgt := 22) G dX10_readsRank_17 (by decide) (fun c_17 => ?_) (fun c_17 => ?_)
    · have hz : zpk 0 σ0 σ ∧ zpd 1 σ0 σ := ⟨hz.1, hz.2 c_17⟩
      refine zv_iconst (v := 1) G dX10_readsRank_22 (by decide) ?_
      have J_24 : ∀ (n : Nat) (y2_24 : Int32) (σ : za_S) (hz : zpk 0 σ0 σ ∧ zpd 1 σ0 σ) (b2_24 : y2_24 = 0 ∨ y2_24 = 1) (hn_24 : ((σ.1 93 6).toInt - (σ.1 93 5).toInt).toNat < n), zV p l e (zRm (5 * n9 + 12) (150 * n9 + 260)) s m args below meth c E (za_A E) 4 0 0 (MQ below (va_Qi (fun r σ' => zpt r σ0 σ') (zB E) (za_A E)) args s 0 0 (za_A E)) 24 [(0, za_O 19 93), (1, za_I 2), (2, za_I y2_24)] [] σ := by
        intro n
        induction n with
        | zero => intro y2_24 σ hz b2_24 hn; exact absurd hn (Nat.not_lt_zero _)
        | succ n ih_24 =>
          intro y2_24 σ hz b2_24 hn_24
          refine zv_iload_n (j := 2) G dX10_readsRank_24 rfl rfl ?_
          refine zv_if_eq (tgt := 113) G dX10_readsRank_25 (by decide) (fun c_25 => ?_) (fun c_25 => ?_)
          · refine zv_iconst (v := 1) G dX10_readsRank_113 (by decide) ?_
            exact zv_zret G hr dX10_readsRank_114 (by decide) ⟨Or.inr rfl, hz.1, fun _ => hz.2⟩
          · refine zv_aload_n (j := 0) G dX10_readsRank_28 rfl rfl ?_
            refine zv_iload_n (j := 1) G dX10_readsRank_29 rfl rfl ?_
            refine zv_if_ne (tgt := 38) G dX10_readsRank_30 (by decide) (fun c_30 => ?_) (fun c_30 => ?_)
            · refine zv_iload_n (j := 1) G dX10_readsRank_38 rfl rfl ?_
              refine zv_iconst (v := 1) G dX10_readsRank_39 (by decide) ?_
              refine zv_icmp_ne (tgt := 48) G dX10_readsRank_40 (by decide) (fun c_40 => ?_) (fun c_40 => ?_)
              · refine zv_lds (q := 18) (tx := "*/") G (by decide +kernel) (by decide) dX10_readsRank_48 ?_
                refine zv_callVi (as := [za_O 50 18]) G (by decide) rfl rfl (zc_X10_takesOf l E 18 σ (zpk_q hq hz.1 (by decide)).1) zk_X10_takesOf zm_1487 rfl ⟨(show 5 + 1 ≤ (5 * n9 + 12) by omega), (show 8 + (3 + 11) + 106 ≤ (150 * n9 + 260) by omega)⟩ ⟨Nat.zero_le _, Nat.zero_le _⟩ (Nat.le_of_ble_eq_true rfl) dX10_readsRank_50 (fun r_50 σ h_50 => ?_)
                have hz0 := hz
                have hz : zpk 0 σ0 σ ∧ zpd 1 σ0 σ := by rcases h_50 with ⟨-, k9⟩ | ⟨-, k9⟩ <;> exact ⟨zpk_m (zpk_a hz.1 k9) (by decide), zpd_a hz.2 k9.1⟩
                refine zv_istore_n (lv' := [(3, za_I r_50), (0, za_O 19 93), (1, za_I 2), (2, za_I y2_24)]) G dX10_readsRank_53 rfl (by decide) rfl ?_
                refine zv_iload_n (j := 0) G dX10_readsRank_54 rfl rfl ?_
                refine zv_if_ge (tgt := 60) G dX10_readsRank_55 (by decide) (fun c_55 => ?_) (fun c_55 => ?_)
                · have h9 := h_50.resolve_left (fun q => absurd q.1 (fun e9 => absurd c_55 (by rw [e9]; decide)))
                  have hz : zpk 1 σ0 σ ∧ zpd 1 σ0 σ := ⟨zpk_m (zpk_a hz0.1 h9.2) (by decide), hz.2⟩
                  refine zv_aload_n (j := 1) G dX10_readsRank_60 rfl rfl ?_
                  refine zv_iload_n (j := 2) G dX10_readsRank_61 rfl rfl ?_
                  refine zv_iconst (v := 1) G dX10_readsRank_62 (by decide) ?_
                  refine zv_iadd G dX10_readsRank_63 ?_
                  refine zv_cst (y := 3) (by decide) ?_
                  refine zv_callVi (as := [za_I 3]) G (by decide) rfl rfl (hK l E  σ (zpk_q hq hz.1 (by decide)) (zpk_r0 hz.1 (by decide) hn)) zk_X10_readsRank zm_1638 rfl ⟨(show (5 * n9 + 11) + 1 ≤ (5 * n9 + 12) by omega), (show 8 + (4 + 11) + (150 * n9 + 230) ≤ (150 * n9 + 260) by omega)⟩ ⟨Nat.zero_le _, Nat.zero_le _⟩ (Nat.le_of_ble_eq_true rfl) dX10_readsRank_64 (fun r_64 σ h_64 => ?_)
                  have hz : zpk 1 σ0 σ ∧ (¬ r_64 = 0 → zpd 2 σ0 σ) := ⟨zpk_m (zpk_t hz.1 h_64.2.1) (by decide), fun c9 => zpd_t hz.2 hz.1 h_64.2.1 (h_64.2.2 c9)⟩
                  have b_64 := h_64.1
                  refine zv_if_ne (tgt := 72) G dX10_readsRank_67 (by decide) (fun c_67 => ?_) (fun c_67 => ?_)
                  · have hz : zpk 1 σ0 σ ∧ zpd 2 σ0 σ := ⟨hz.1, hz.2 c_67⟩
                    refine zv_aload_n (j := 1) G dX10_readsRank_72 rfl rfl ?_
                    refine zv_sipush (v := 2000) G dX10_readsRank_73 (by decide) ?_
                    refine zv_iload_n (j := 0) G dX10_readsRank_76 rfl rfl ?_
                    refine zv_iadd G dX10_readsRank_77 ?_
                    refine zv_iload_n (j := 2) G dX10_readsRank_78 rfl rfl ?_
                    refine zv_if_ne (tgt := 86) G dX10_readsRank_79 (by decide) (fun c_79 => ?_) (fun c_79 => ?_)
                    · refine zv_iload_n (j := 2) G dX10_readsRank_86 rfl rfl ?_
                      refine zv_iconst (v := 1) G dX10_readsRank_87 (by decide) ?_
                      refine zv_icmp_ne (tgt := 95) G dX10_readsRank_88 (by decide) (fun c_88 => ?_) (fun c_88 => ?_)
                      · refine zv_iconst (v := 5) G dX10_readsRank_95 (by decide) ?_
                        refine zv_iadd G dX10_readsRank_96 ?_
                        refine zv_callVv (as := [za_I ((2000 + r_50) + 5)]) G (by decide) rfl rfl (zc_X10_codes l E ((2000 + r_50) + 5) σ (zpk_cl hq hz.1 (by decide))) zk_X10_codes zm_1650 rfl ⟨(show 1 + 1 ≤ (5 * n9 + 12) by omega), (show 8 + (2 + 11) + 21 ≤ (150 * n9 + 260) by omega)⟩ ⟨Nat.zero_le _, Nat.zero_le _⟩ (Nat.le_of_ble_eq_true rfl) dX10_readsRank_97 (fun σ h_97 => ?_)
                        have e9 := zcd_e h_97
                        have hz : zpk 0 σ0 σ ∧ zpd 1 σ0 σ := ⟨zpk_c hq hz.1 (by decide) h_97, zpd_c hq hz.1 (by decide) hz.2 (zok_act ⟨h9.1.1, by have u9 : ((za_len.getD 18 0 : Nat) : Int) = 2 := (by decide); have u8 := h9.1.2; omega⟩ (by decide)) h_97⟩
                        refine zv_iload_n (j := 2) G dX10_readsRank_100 rfl rfl ?_
                        refine zv_if_le (tgt := 108) G dX10_readsRank_101 (by decide) (fun c_101 => ?_) (fun c_101 => ?_)
                        · exact absurd c_101 (by decide)
                        · refine zv_iconst (v := 1) G dX10_readsRank_104 (by decide) ?_
                          refine zv_goto (tgt := 109) G dX10_readsRank_105 (by decide) ?_
                          refine zv_istore_n (lv' := [(2, za_I 1), (3, za_I r_50), (0, za_O 19 93), (1, za_I 2)]) G dX10_readsRank_109 rfl (by decide) rfl ?_
                          refine zv_goto (tgt := 24) G dX10_readsRank_110 (by decide) ?_
                          refine zv_sub [2, 3, 0] (lv' := [(0, za_O 19 93), (1, za_I 2), (2, za_I 1)]) rfl ?_
                          exact ih_24 (1 : Int32) σ hz (Or.inr rfl) (by have a1 := h9.2.2.1; have a2 := h_64.2.1.2.1.1; have a3 := h9.2.2.2; have a4 := h9.2.1.2.2 6 (by decide); have a5 := zpk_6 h_64.2.1; rw [e9.1, e9.2, a5, a4]; omega)
                      · exact absurd c_88 (by decide)
                    · exact absurd c_79 (by decide)
                  · refine zv_iconst (v := 0) G dX10_readsRank_70 (by decide) ?_
                    exact zv_zret G hr dX10_readsRank_71 (by decide) ⟨Or.inl rfl, zpk_m hz.1 (by decide), fun h => absurd rfl h⟩
                · refine zv_iconst (v := 1) G dX10_readsRank_58 (by decide) ?_
                  exact zv_zret G hr dX10_readsRank_59 (by decide) ⟨Or.inr rfl, hz.1, fun _ => hz.2⟩
              · exact absurd c_40 (by decide)
            · exact absurd c_30 (by decide)
      refine zv_istore_n (lv' := [(2, za_I 1), (0, za_O 19 93), (1, za_I 2)]) G dX10_readsRank_23 rfl (by decide) rfl ?_
      refine zv_sub [1, 2, 0] (lv' := [(0, za_O 19 93), (1, za_I 2), (2, za_I 1)]) rfl ?_
      exact J_24 _ (1 : Int32) σ hz (Or.inr rfl) (Nat.lt_succ_self _)
    · refine zv_iconst (v := 0) G dX10_readsRank_20 (by decide) ?_
      exact zv_zret G hr dX10_readsRank_21 (by decide) ⟨Or.inl rfl, zpk_m hz.1 (by decide), fun h => absurd rfl h⟩
  · exact absurd c_2 (by decide)
set_option maxHeartbeats 4000000 in
set_option maxRecDepth 100000 in
theorem zc_X10_readsRank_at1 (l : Launch) (E : za_E) (n9 : Nat) (hK : zRk 2 12 260 n9) (σ0 : za_S) (hq : zpq σ0) (hn : (σ0.1 93 6).toInt - (σ0.1 93 5).toInt ≤ n9) : zMi l E yX10_readsRank cX10_readsRank 4 (Option.some Jvm.ClassFile.FieldType.boolean) (5 * n9 + 13) (150 * n9 + 290) [za_O 19 93, za_I 1] σ0 (fun r σ' => zpt r σ0 σ') := by
  refine zMi_of [(0, za_O 19 93), (1, za_I 1)] (by decide) rfl rfl (Nat.le_of_ble_eq_true rfl) ?_
  intro ho p e s m args below meth c G hr
  refine zv_gen (R9 := (fun σ => zpk 0 σ0 σ ∧ zpd 0 σ0 σ)) ⟨zpk_z hq, zpd_z σ0⟩ (fun σ hz => ?_)
  refine zv_iload_n (j := 1) G dX10_readsRank_0 rfl rfl ?_
  refine zv_iconst (v := 3) G dX10_readsRank_1 (by decide) ?_
  refine zv_icmp_ne (tgt := 10) G dX10_readsRank_2 (by decide) (fun c_2 => ?_) (fun c_2 => ?_)
  · refine zv_aload_n (j := 0) G dX10_readsRank_10 rfl rfl ?_
    refine zv_iload_n (j := 1) G dX10_readsRank_11 rfl rfl ?_
    refine zv_iconst (v := 1) G dX10_readsRank_12 (by decide) ?_
    refine zv_iadd G dX10_readsRank_13 ?_
    refine zv_cst (y := 2) (by decide) ?_
    refine zv_callVi (as := [za_I 2]) G (by decide) rfl rfl (hK l E  σ (zpk_q hq hz.1 (by decide)) (zpk_r0 hz.1 (by decide) hn)) zk_X10_readsRank zm_1638 rfl ⟨(show (5 * n9 + 12) + 1 ≤ (5 * n9 + 13) by omega), (show 8 + (4 + 11) + (150 * n9 + 260) ≤ (150 * n9 + 290) by omega)⟩ ⟨Nat.zero_le _, Nat.zero_le _⟩ (Nat.le_of_ble_eq_true rfl) dX10_readsRank_14 (fun r_14 σ h_14 => ?_)
    have hz : zpk 0 σ0 σ ∧ (¬ r_14 = 0 → zpd 1 σ0 σ) := ⟨zpk_m (zpk_t hz.1 h_14.2.1) (by decide), fun c9 => zpd_t hz.2 hz.1 h_14.2.1 (h_14.2.2 c9)⟩
    have b_14 := h_14.1
    refine zv_if_ne (tgt := 22) G dX10_readsRank_17 (by decide) (fun c_17 => ?_) (fun c_17 => ?_)
    · have hz : zpk 0 σ0 σ ∧ zpd 1 σ0 σ := ⟨hz.1, hz.2 c_17⟩
      refine zv_iconst (v := 1) G dX10_readsRank_22 (by decide) ?_
      have J_24 : ∀ (n : Nat) (y2_24 : Int32) (σ : za_S) (hz : zpk 0 σ0 σ ∧ zpd 1 σ0 σ) (b2_24 : y2_24 = 0 ∨ y2_24 = 1) (hn_24 : ((σ.1 93 6).toInt - (σ.1 93 5).toInt).toNat < n), zV p l e (zRm (5 * n9 + 13) (150 * n9 + 290)) s m args below meth c E (za_A E) 4 0 0 (MQ below (va_Qi (fun r σ' => zpt r σ0 σ') (zB E) (za_A E)) args s 0 0 (za_A E)) 24 [(0, za_O 19 93), (1, za_I 1), (2, za_I y2_24)] [] σ := by
        intro n
        induction n with
        | zero => intro y2_24 σ hz b2_24 hn; exact absurd hn (Nat.not_lt_zero _)
        | succ n ih_24 =>
          intro y2_24 σ hz b2_24 hn_24
          refine zv_iload_n (j := 2) G dX10_readsRank_24 rfl rfl ?_
          refine zv_if_eq (tgt := 113) G dX10_readsRank_25 (by decide) (fun c_25 => ?_) (fun c_25 => ?_)
          · refine zv_iconst (v := 1) G dX10_readsRank_113 (by decide) ?_
            exact zv_zret G hr dX10_readsRank_114 (by decide) ⟨Or.inr rfl, hz.1, fun _ => hz.2⟩
          · refine zv_aload_n (j := 0) G dX10_readsRank_28 rfl rfl ?_
            refine zv_iload_n (j := 1) G dX10_readsRank_29 rfl rfl ?_
            refine zv_if_ne (tgt := 38) G dX10_readsRank_30 (by decide) (fun c_30 => ?_) (fun c_30 => ?_)
            · refine zv_iload_n (j := 1) G dX10_readsRank_38 rfl rfl ?_
              refine zv_iconst (v := 1) G dX10_readsRank_39 (by decide) ?_
              refine zv_icmp_ne (tgt := 48) G dX10_readsRank_40 (by decide) (fun c_40 => ?_) (fun c_40 => ?_)
              · exact absurd c_40 (by decide)
              · refine zv_lds (q := 17) (tx := "+-") G (by decide +kernel) (by decide) dX10_readsRank_43 ?_
                refine zv_goto (tgt := 50) G dX10_readsRank_45 (by decide) ?_
                refine zv_callVi (as := [za_O 50 17]) G (by decide) rfl rfl (zc_X10_takesOf l E 17 σ (zpk_q hq hz.1 (by decide)).1) zk_X10_takesOf zm_1487 rfl ⟨(show 5 + 1 ≤ (5 * n9 + 13) by omega), (show 8 + (3 + 11) + 106 ≤ (150 * n9 + 290) by omega)⟩ ⟨Nat.zero_le _, Nat.zero_le _⟩ (Nat.le_of_ble_eq_true rfl) dX10_readsRank_50 (fun r_50 σ h_50 => ?_)
                have hz0 := hz
                have hz : zpk 0 σ0 σ ∧ zpd 1 σ0 σ := by rcases h_50 with ⟨-, k9⟩ | ⟨-, k9⟩ <;> exact ⟨zpk_m (zpk_a hz.1 k9) (by decide), zpd_a hz.2 k9.1⟩
                refine zv_istore_n (lv' := [(3, za_I r_50), (0, za_O 19 93), (1, za_I 1), (2, za_I y2_24)]) G dX10_readsRank_53 rfl (by decide) rfl ?_
                refine zv_iload_n (j := 0) G dX10_readsRank_54 rfl rfl ?_
                refine zv_if_ge (tgt := 60) G dX10_readsRank_55 (by decide) (fun c_55 => ?_) (fun c_55 => ?_)
                · have h9 := h_50.resolve_left (fun q => absurd q.1 (fun e9 => absurd c_55 (by rw [e9]; decide)))
                  have hz : zpk 1 σ0 σ ∧ zpd 1 σ0 σ := ⟨zpk_m (zpk_a hz0.1 h9.2) (by decide), hz.2⟩
                  refine zv_aload_n (j := 1) G dX10_readsRank_60 rfl rfl ?_
                  refine zv_iload_n (j := 2) G dX10_readsRank_61 rfl rfl ?_
                  refine zv_iconst (v := 1) G dX10_readsRank_62 (by decide) ?_
                  refine zv_iadd G dX10_readsRank_63 ?_
                  refine zv_cst (y := 2) (by decide) ?_
                  refine zv_callVi (as := [za_I 2]) G (by decide) rfl rfl (hK l E  σ (zpk_q hq hz.1 (by decide)) (zpk_r0 hz.1 (by decide) hn)) zk_X10_readsRank zm_1638 rfl ⟨(show (5 * n9 + 12) + 1 ≤ (5 * n9 + 13) by omega), (show 8 + (4 + 11) + (150 * n9 + 260) ≤ (150 * n9 + 290) by omega)⟩ ⟨Nat.zero_le _, Nat.zero_le _⟩ (Nat.le_of_ble_eq_true rfl) dX10_readsRank_64 (fun r_64 σ h_64 => ?_)
                  have hz : zpk 1 σ0 σ ∧ (¬ r_64 = 0 → zpd 2 σ0 σ) := ⟨zpk_m (zpk_t hz.1 h_64.2.1) (by decide), fun c9 => zpd_t hz.2 hz.1 h_64.2.1 (h_64.2.2 c9)⟩
                  have b_64 := h_64.1
                  refine zv_if_ne (tgt := 72) G dX10_readsRank_67 (by decide) (fun c_67 => ?_) (fun c_67 => ?_)
                  · have hz : zpk 1 σ0 σ ∧ zpd 2 σ0 σ := ⟨hz.1, hz.2 c_67⟩
                    refine zv_aload_n (j := 1) G dX10_readsRank_72 rfl rfl ?_
                    refine zv_sipush (v := 2000) G dX10_readsRank_73 (by decide) ?_
                    refine zv_iload_n (j := 0) G dX10_readsRank_76 rfl rfl ?_
                    refine zv_iadd G dX10_readsRank_77 ?_
                    refine zv_iload_n (j := 2) G dX10_readsRank_78 rfl rfl ?_
                    refine zv_if_ne (tgt := 86) G dX10_readsRank_79 (by decide) (fun c_79 => ?_) (fun c_79 => ?_)
                    · refine zv_iload_n (j := 2) G dX10_readsRank_86 rfl rfl ?_
                      refine zv_iconst (v := 1) G dX10_readsRank_87 (by decide) ?_
                      refine zv_icmp_ne (tgt := 95) G dX10_readsRank_88 (by decide) (fun c_88 => ?_) (fun c_88 => ?_)
                      · exact absurd c_88 (by decide)
                      · refine zv_iconst (v := 3) G dX10_readsRank_91 (by decide) ?_
                        refine zv_goto (tgt := 96) G dX10_readsRank_92 (by decide) ?_
                        refine zv_iadd G dX10_readsRank_96 ?_
                        refine zv_callVv (as := [za_I ((2000 + r_50) + 3)]) G (by decide) rfl rfl (zc_X10_codes l E ((2000 + r_50) + 3) σ (zpk_cl hq hz.1 (by decide))) zk_X10_codes zm_1650 rfl ⟨(show 1 + 1 ≤ (5 * n9 + 13) by omega), (show 8 + (2 + 11) + 21 ≤ (150 * n9 + 290) by omega)⟩ ⟨Nat.zero_le _, Nat.zero_le _⟩ (Nat.le_of_ble_eq_true rfl) dX10_readsRank_97 (fun σ h_97 => ?_)
                        have e9 := zcd_e h_97
                        have hz : zpk 0 σ0 σ ∧ zpd 1 σ0 σ := ⟨zpk_c hq hz.1 (by decide) h_97, zpd_c hq hz.1 (by decide) hz.2 (zok_act ⟨h9.1.1, by have u9 : ((za_len.getD 17 0 : Nat) : Int) = 2 := (by decide); have u8 := h9.1.2; omega⟩ (by decide)) h_97⟩
                        refine zv_iload_n (j := 2) G dX10_readsRank_100 rfl rfl ?_
                        refine zv_if_le (tgt := 108) G dX10_readsRank_101 (by decide) (fun c_101 => ?_) (fun c_101 => ?_)
                        · exact absurd c_101 (by decide)
                        · refine zv_iconst (v := 1) G dX10_readsRank_104 (by decide) ?_
                          refine zv_goto (tgt := 109) G dX10_readsRank_105 (by decide) ?_
                          refine zv_istore_n (lv' := [(2, za_I 1), (3, za_I r_50), (0, za_O 19 93), (1, za_I 1)]) G dX10_readsRank_109 rfl (by decide) rfl ?_
                          refine zv_goto (tgt := 24) G dX10_readsRank_110 (by decide) ?_
                          refine zv_sub [2, 3, 0] (lv' := [(0, za_O 19 93), (1, za_I 1), (2, za_I 1)]) rfl ?_
                          exact ih_24 (1 : Int32) σ hz (Or.inr rfl) (by have a1 := h9.2.2.1; have a2 := h_64.2.1.2.1.1; have a3 := h9.2.2.2; have a4 := h9.2.1.2.2 6 (by decide); have a5 := zpk_6 h_64.2.1; rw [e9.1, e9.2, a5, a4]; omega)
                    · exact absurd c_79 (by decide)
                  · refine zv_iconst (v := 0) G dX10_readsRank_70 (by decide) ?_
                    exact zv_zret G hr dX10_readsRank_71 (by decide) ⟨Or.inl rfl, zpk_m hz.1 (by decide), fun h => absurd rfl h⟩
                · refine zv_iconst (v := 1) G dX10_readsRank_58 (by decide) ?_
                  exact zv_zret G hr dX10_readsRank_59 (by decide) ⟨Or.inr rfl, hz.1, fun _ => hz.2⟩
            · exact absurd c_30 (by decide)
      refine zv_istore_n (lv' := [(2, za_I 1), (0, za_O 19 93), (1, za_I 1)]) G dX10_readsRank_23 rfl (by decide) rfl ?_
      refine zv_sub [1, 2, 0] (lv' := [(0, za_O 19 93), (1, za_I 1), (2, za_I 1)]) rfl ?_
      exact J_24 _ (1 : Int32) σ hz (Or.inr rfl) (Nat.lt_succ_self _)
    · refine zv_iconst (v := 0) G dX10_readsRank_20 (by decide) ?_
      exact zv_zret G hr dX10_readsRank_21 (by decide) ⟨Or.inl rfl, zpk_m hz.1 (by decide), fun h => absurd rfl h⟩
  · exact absurd c_2 (by decide)
set_option maxHeartbeats 4000000 in
set_option maxRecDepth 100000 in
theorem zc_X10_readsRank_at0 (l : Launch) (E : za_E) (n9 : Nat) (hK : zRk 1 13 290 n9) (σ0 : za_S) (hq : zpq σ0) (hn : (σ0.1 93 6).toInt - (σ0.1 93 5).toInt ≤ n9) : zMi l E yX10_readsRank cX10_readsRank 4 (Option.some Jvm.ClassFile.FieldType.boolean) (5 * n9 + 14) (150 * n9 + 320) [za_O 19 93, za_I 0] σ0 (fun r σ' => zpt r σ0 σ') := by
  refine zMi_of [(0, za_O 19 93), (1, za_I 0)] (by decide) rfl rfl (Nat.le_of_ble_eq_true rfl) ?_
  intro ho p e s m args below meth c G hr
  refine zv_gen (R9 := (fun σ => zpk 0 σ0 σ ∧ zpd 0 σ0 σ)) ⟨zpk_z hq, zpd_z σ0⟩ (fun σ hz => ?_)
  refine zv_iload_n (j := 1) G dX10_readsRank_0 rfl rfl ?_
  refine zv_iconst (v := 3) G dX10_readsRank_1 (by decide) ?_
  refine zv_icmp_ne (tgt := 10) G dX10_readsRank_2 (by decide) (fun c_2 => ?_) (fun c_2 => ?_)
  · refine zv_aload_n (j := 0) G dX10_readsRank_10 rfl rfl ?_
    refine zv_iload_n (j := 1) G dX10_readsRank_11 rfl rfl ?_
    refine zv_iconst (v := 1) G dX10_readsRank_12 (by decide) ?_
    refine zv_iadd G dX10_readsRank_13 ?_
    refine zv_cst (y := 1) (by decide) ?_
    refine zv_callVi (as := [za_I 1]) G (by decide) rfl rfl (hK l E  σ (zpk_q hq hz.1 (by decide)) (zpk_r0 hz.1 (by decide) hn)) zk_X10_readsRank zm_1638 rfl ⟨(show (5 * n9 + 13) + 1 ≤ (5 * n9 + 14) by omega), (show 8 + (4 + 11) + (150 * n9 + 290) ≤ (150 * n9 + 320) by omega)⟩ ⟨Nat.zero_le _, Nat.zero_le _⟩ (Nat.le_of_ble_eq_true rfl) dX10_readsRank_14 (fun r_14 σ h_14 => ?_)
    have hz : zpk 0 σ0 σ ∧ (¬ r_14 = 0 → zpd 1 σ0 σ) := ⟨zpk_m (zpk_t hz.1 h_14.2.1) (by decide), fun c9 => zpd_t hz.2 hz.1 h_14.2.1 (h_14.2.2 c9)⟩
    have b_14 := h_14.1
    refine zv_if_ne (tgt := 22) G dX10_readsRank_17 (by decide) (fun c_17 => ?_) (fun c_17 => ?_)
    · have hz : zpk 0 σ0 σ ∧ zpd 1 σ0 σ := ⟨hz.1, hz.2 c_17⟩
      refine zv_iconst (v := 1) G dX10_readsRank_22 (by decide) ?_
      have J_24 : ∀ (n : Nat) (y2_24 : Int32) (σ : za_S) (hz : zpk 0 σ0 σ ∧ zpd 1 σ0 σ) (b2_24 : y2_24 = 0 ∨ y2_24 = 1) (hn_24 : ((σ.1 93 6).toInt - (σ.1 93 5).toInt).toNat < n), zV p l e (zRm (5 * n9 + 14) (150 * n9 + 320)) s m args below meth c E (za_A E) 4 0 0 (MQ below (va_Qi (fun r σ' => zpt r σ0 σ') (zB E) (za_A E)) args s 0 0 (za_A E)) 24 [(0, za_O 19 93), (1, za_I 0), (2, za_I y2_24)] [] σ := by
        intro n
        induction n with
        | zero => intro y2_24 σ hz b2_24 hn; exact absurd hn (Nat.not_lt_zero _)
        | succ n ih_24 =>
          intro y2_24 σ hz b2_24 hn_24
          refine zv_iload_n (j := 2) G dX10_readsRank_24 rfl rfl ?_
          refine zv_if_eq (tgt := 113) G dX10_readsRank_25 (by decide) (fun c_25 => ?_) (fun c_25 => ?_)
          · refine zv_iconst (v := 1) G dX10_readsRank_113 (by decide) ?_
            exact zv_zret G hr dX10_readsRank_114 (by decide) ⟨Or.inr rfl, hz.1, fun _ => hz.2⟩
          · refine zv_aload_n (j := 0) G dX10_readsRank_28 rfl rfl ?_
            refine zv_iload_n (j := 1) G dX10_readsRank_29 rfl rfl ?_
            refine zv_if_ne (tgt := 38) G dX10_readsRank_30 (by decide) (fun c_30 => ?_) (fun c_30 => ?_)
            · exact absurd c_30 (by decide)
            · refine zv_lds (q := 16) (tx := "<>=") G (by decide +kernel) (by decide) dX10_readsRank_33 ?_
              refine zv_goto (tgt := 50) G dX10_readsRank_35 (by decide) ?_
              refine zv_callVi (as := [za_O 50 16]) G (by decide) rfl rfl (zc_X10_takesOf l E 16 σ (zpk_q hq hz.1 (by decide)).1) zk_X10_takesOf zm_1487 rfl ⟨(show 5 + 1 ≤ (5 * n9 + 14) by omega), (show 8 + (3 + 11) + 106 ≤ (150 * n9 + 320) by omega)⟩ ⟨Nat.zero_le _, Nat.zero_le _⟩ (Nat.le_of_ble_eq_true rfl) dX10_readsRank_50 (fun r_50 σ h_50 => ?_)
              have hz0 := hz
              have hz : zpk 0 σ0 σ ∧ zpd 1 σ0 σ := by rcases h_50 with ⟨-, k9⟩ | ⟨-, k9⟩ <;> exact ⟨zpk_m (zpk_a hz.1 k9) (by decide), zpd_a hz.2 k9.1⟩
              refine zv_istore_n (lv' := [(3, za_I r_50), (0, za_O 19 93), (1, za_I 0), (2, za_I y2_24)]) G dX10_readsRank_53 rfl (by decide) rfl ?_
              refine zv_iload_n (j := 0) G dX10_readsRank_54 rfl rfl ?_
              refine zv_if_ge (tgt := 60) G dX10_readsRank_55 (by decide) (fun c_55 => ?_) (fun c_55 => ?_)
              · have h9 := h_50.resolve_left (fun q => absurd q.1 (fun e9 => absurd c_55 (by rw [e9]; decide)))
                have hz : zpk 1 σ0 σ ∧ zpd 1 σ0 σ := ⟨zpk_m (zpk_a hz0.1 h9.2) (by decide), hz.2⟩
                refine zv_aload_n (j := 1) G dX10_readsRank_60 rfl rfl ?_
                refine zv_iload_n (j := 2) G dX10_readsRank_61 rfl rfl ?_
                refine zv_iconst (v := 1) G dX10_readsRank_62 (by decide) ?_
                refine zv_iadd G dX10_readsRank_63 ?_
                refine zv_cst (y := 1) (by decide) ?_
                refine zv_callVi (as := [za_I 1]) G (by decide) rfl rfl (hK l E  σ (zpk_q hq hz.1 (by decide)) (zpk_r0 hz.1 (by decide) hn)) zk_X10_readsRank zm_1638 rfl ⟨(show (5 * n9 + 13) + 1 ≤ (5 * n9 + 14) by omega), (show 8 + (4 + 11) + (150 * n9 + 290) ≤ (150 * n9 + 320) by omega)⟩ ⟨Nat.zero_le _, Nat.zero_le _⟩ (Nat.le_of_ble_eq_true rfl) dX10_readsRank_64 (fun r_64 σ h_64 => ?_)
                have hz : zpk 1 σ0 σ ∧ (¬ r_64 = 0 → zpd 2 σ0 σ) := ⟨zpk_m (zpk_t hz.1 h_64.2.1) (by decide), fun c9 => zpd_t hz.2 hz.1 h_64.2.1 (h_64.2.2 c9)⟩
                have b_64 := h_64.1
                refine zv_if_ne (tgt := 72) G dX10_readsRank_67 (by decide) (fun c_67 => ?_) (fun c_67 => ?_)
                · have hz : zpk 1 σ0 σ ∧ zpd 2 σ0 σ := ⟨hz.1, hz.2 c_67⟩
                  refine zv_aload_n (j := 1) G dX10_readsRank_72 rfl rfl ?_
                  refine zv_sipush (v := 2000) G dX10_readsRank_73 (by decide) ?_
                  refine zv_iload_n (j := 0) G dX10_readsRank_76 rfl rfl ?_
                  refine zv_iadd G dX10_readsRank_77 ?_
                  refine zv_iload_n (j := 2) G dX10_readsRank_78 rfl rfl ?_
                  refine zv_if_ne (tgt := 86) G dX10_readsRank_79 (by decide) (fun c_79 => ?_) (fun c_79 => ?_)
                  · exact absurd c_79 (by decide)
                  · refine zv_iconst (v := 0) G dX10_readsRank_82 (by decide) ?_
                    refine zv_goto (tgt := 96) G dX10_readsRank_83 (by decide) ?_
                    refine zv_iadd G dX10_readsRank_96 ?_
                    refine zv_callVv (as := [za_I ((2000 + r_50) + 0)]) G (by decide) rfl rfl (zc_X10_codes l E ((2000 + r_50) + 0) σ (zpk_cl hq hz.1 (by decide))) zk_X10_codes zm_1650 rfl ⟨(show 1 + 1 ≤ (5 * n9 + 14) by omega), (show 8 + (2 + 11) + 21 ≤ (150 * n9 + 320) by omega)⟩ ⟨Nat.zero_le _, Nat.zero_le _⟩ (Nat.le_of_ble_eq_true rfl) dX10_readsRank_97 (fun σ h_97 => ?_)
                    have e9 := zcd_e h_97
                    have hz : zpk 0 σ0 σ ∧ zpd 1 σ0 σ := ⟨zpk_c hq hz.1 (by decide) h_97, zpd_c hq hz.1 (by decide) hz.2 (zok_act ⟨h9.1.1, by have u9 : ((za_len.getD 16 0 : Nat) : Int) = 3 := (by decide); have u8 := h9.1.2; omega⟩ (by decide)) h_97⟩
                    refine zv_iload_n (j := 2) G dX10_readsRank_100 rfl rfl ?_
                    refine zv_if_le (tgt := 108) G dX10_readsRank_101 (by decide) (fun c_101 => ?_) (fun c_101 => ?_)
                    · refine zv_iconst (v := 0) G dX10_readsRank_108 (by decide) ?_
                      refine zv_istore_n (lv' := [(2, za_I 0), (3, za_I r_50), (0, za_O 19 93), (1, za_I 0)]) G dX10_readsRank_109 rfl (by decide) rfl ?_
                      refine zv_goto (tgt := 24) G dX10_readsRank_110 (by decide) ?_
                      refine zv_sub [2, 3, 0] (lv' := [(0, za_O 19 93), (1, za_I 0), (2, za_I 0)]) rfl ?_
                      exact ih_24 (0 : Int32) σ hz (Or.inl rfl) (by have a1 := h9.2.2.1; have a2 := h_64.2.1.2.1.1; have a3 := h9.2.2.2; have a4 := h9.2.1.2.2 6 (by decide); have a5 := zpk_6 h_64.2.1; rw [e9.1, e9.2, a5, a4]; omega)
                    · exact absurd c_101 (by decide)
                · refine zv_iconst (v := 0) G dX10_readsRank_70 (by decide) ?_
                  exact zv_zret G hr dX10_readsRank_71 (by decide) ⟨Or.inl rfl, zpk_m hz.1 (by decide), fun h => absurd rfl h⟩
              · refine zv_iconst (v := 1) G dX10_readsRank_58 (by decide) ?_
                exact zv_zret G hr dX10_readsRank_59 (by decide) ⟨Or.inr rfl, hz.1, fun _ => hz.2⟩
      refine zv_istore_n (lv' := [(2, za_I 1), (0, za_O 19 93), (1, za_I 0)]) G dX10_readsRank_23 rfl (by decide) rfl ?_
      refine zv_sub [1, 2, 0] (lv' := [(0, za_O 19 93), (1, za_I 0), (2, za_I 1)]) rfl ?_
      exact J_24 _ (1 : Int32) σ hz (Or.inr rfl) (Nat.lt_succ_self _)
    · refine zv_iconst (v := 0) G dX10_readsRank_20 (by decide) ?_
      exact zv_zret G hr dX10_readsRank_21 (by decide) ⟨Or.inl rfl, zpk_m hz.1 (by decide), fun h => absurd rfl h⟩
  · exact absurd c_2 (by decide)
theorem zTR : ∀ n, zTh n ∧ zRk 0 14 320 n := by
  intro n
  induction n using Nat.strongRecOn with
  | ind n ih =>
    have hT : zTh n := fun l E σ0 hq hn => zc_X10_readsThing l E n ih σ0 hq hn
    have h3 : zRk 3 11 230 n := fun l E σ0 hq hn => zc_X10_readsRank_at3 l E n hT σ0 hq hn
    have h2 : zRk 2 12 260 n := fun l E σ0 hq hn => zc_X10_readsRank_at2 l E n h3 σ0 hq hn
    have h1 : zRk 1 13 290 n := fun l E σ0 hq hn => zc_X10_readsRank_at1 l E n h2 σ0 hq hn
    exact ⟨hT, fun l E σ0 hq hn => zc_X10_readsRank_at0 l E n h1 σ0 hq hn⟩
