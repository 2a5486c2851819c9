/-! ===== the text, the formula, rumours, what is kept ===== -/
def zcT (σ σ' : za_S) : Prop := (∀ w, 93 ≤ w → σ'.1 w = σ.1 w ∧ σ'.2 w = σ.2 w) ∧ σ'.1 83 1 = σ.1 83 1 ∧ σ'.1 69 3 = σ.1 69 3 ∧ σ'.1 74 3 = σ.1 74 3
theorem zcT_r (σ : za_S) : zcT σ σ := ⟨fun _ _ => ⟨rfl, rfl⟩, rfl, rfl, rfl⟩
theorem zcT_t {a b d : za_S} (h : zcT a b) (k : zcT b d) : zcT a d := ⟨fun w hw => ⟨((k.1 w hw).1).trans (h.1 w hw).1, ((k.1 w hw).2).trans (h.1 w hw).2⟩, k.2.1.trans h.2.1, k.2.2.1.trans h.2.2.1, k.2.2.2.trans h.2.2.2⟩
theorem zcT_of {a b : za_S} (h : zc a b) : zcT a b := ⟨h.1, h.2.2.1, h.2.2.2.1, h.2.2.2.2⟩
theorem zcT_si {σ : za_S} {j : Nat} {x : Int32} : zcT σ (za_si σ 79 j x) := ⟨fun w' hw' => ⟨if_neg (by omega), rfl⟩, za_si_ne σ x (Or.inl (by decide)), za_si_ne σ x (Or.inl (by decide)), za_si_ne σ x (Or.inl (by decide))⟩
def zct (σ σ' : za_S) : Prop := zcT σ σ' ∧ σ'.1 79 1 = 0
theorem zct_of {a b d : za_S} (h : zc a b) (e : d = za_si b 79 1 0) : zct a d := by
  rw [e]
  exact ⟨zcT_t (zcT_of h) zcT_si, za_si_same _ _ _ _⟩
theorem zct_t {a b d : za_S} (h : zct a b) (k : zc b d) : zct a d := ⟨zcT_t h.1 (zcT_of k), k.2.1.trans h.2⟩
/-- the formula's place -/
def zf (m : Int) (σ0 σ : za_S) : Prop := zc σ0 σ ∧ 0 ≤ (σ.1 90 3).toInt ∧ (σ.1 90 3).toInt ≤ m
theorem zf_rew (σ0 : za_S) : zf 44 σ0 (za_si (za_si σ0 90 3 0) 90 4 (-1)) := by
  refine ⟨zc_t (zc_k16 rfl) (zc_k16 rfl), ?_⟩
  rw [za_si_ne _ _ (Or.inr (by decide)), za_si_same]
  decide
theorem zf_f {m : Int} {σ0 σ : za_S} {x : Int32} (h : zf m σ0 σ) : zf m σ0 (za_si σ 90 4 x) := by
  refine ⟨zc_t h.1 (zc_k16 rfl), ?_⟩
  rw [za_si_ne _ _ (Or.inr (by decide))]
  exact h.2
theorem zf_inc {m k : Int} {σ0 σ : za_S} (h : zf m σ0 σ) (h1 : (σ.1 90 3).toInt < k) (h2 : k ≤ 100) (h3 : k ≤ m) : zf m σ0 (za_si σ 90 3 (σ.1 90 3 + 1)) := by
  refine ⟨zc_t h.1 (zc_k16 rfl), ?_⟩
  have h9 := h.2.1
  rw [za_si_same, z_add (by rw [z_one]; omega) (by rw [z_one]; omega), z_one]
  omega
theorem zf_m {m k : Int} {σ0 σ : za_S} (h : zf k σ0 σ) (h2 : k ≤ m) : zf m σ0 σ := ⟨h.1, h.2.1, by have := h.2.2; omega⟩
theorem zf_k {m k : Int} {σ0 σ : za_S} (h : zf k σ0 σ) (h2 : (σ.1 90 3).toInt ≤ m) : zf m σ0 σ := ⟨h.1, h.2.1, h2⟩
theorem zf_t {m k : Int} {σ0 σ σ' : za_S} (h : zf k σ0 σ) (h2 : zf m σ σ') : zf m σ0 σ' := ⟨zc_t h.1 h2.1, h2.2⟩
theorem zf_up {m k : Int} {σ0 σ : za_S} (h : zf m σ0 σ) (h2 : m < k) (h3 : m < 100) : zf k σ0 (za_si σ 90 3 (σ.1 90 3 + 1)) := by
  have h8 := h.2.2
  exact zf_inc (zf_m h (by omega)) (by omega) (k := m + 1) (by omega) (by omega)
theorem zf_i40 {m : Int} {σ0 σ : za_S} (h : zf m σ0 σ) (h1 : (σ.1 90 3).toInt < 40) : zf 40 σ0 (za_si σ 90 3 (σ.1 90 3 + 1)) := zf_inc (zf_k h (by omega)) h1 (by decide) (by decide)
/-- the formula's length, while its signs come in -/
def zs (σ0 σ : za_S) : Prop := zc σ0 σ ∧ (σ.1 90 2).toInt ≤ 40
theorem zs_0 {σ0 σ : za_S} {x a : Int32} (h : zc σ0 σ) (e : x = if a < (40 : Int32) then a else 40) : zs σ0 (za_si σ 90 2 x) := by
  refine ⟨zc_t h (zc_k16 rfl), ?_⟩
  rw [za_si_same, e]
  have h40 : (40 : Int32).toInt = 40 := by decide
  split
  · rename_i h9
    rw [z_lt] at h9
    omega
  · omega
theorem zs_c {σ0 σ : za_S} {j : Nat} {x : Int32} (h : zs σ0 σ) : zs σ0 (za_si σ 91 j x) := by
  refine ⟨zc_t h.1 (zc_k17 rfl), ?_⟩
  rw [za_si_ne _ _ (Or.inl (by decide))]
  exact h.2
/-- four signs more -/
def zap (σ0 : za_S) (k : Int) (σ : za_S) : Prop := zcT σ0 σ ∧ (σ.1 79 1).toInt = (σ0.1 79 1).toInt + k
theorem zap_c {σ0 σ : za_S} {k : Int} {j : Nat} {x : Int32} (h : zap σ0 k σ) : zap σ0 k (za_si σ 80 j x) := by
  refine ⟨zcT_t h.1 (zcT_of (zc_k8 rfl)), ?_⟩
  rw [za_si_ne _ _ (Or.inl (by decide))]
  exact h.2
theorem zap_i {σ0 σ : za_S} {k : Int} (h : zap σ0 k σ) (h1 : 0 ≤ (σ0.1 79 1).toInt + k) (h2 : (σ0.1 79 1).toInt + k < 100) : zap σ0 (k + 1) (za_si σ 79 1 (σ.1 79 1 + 1)) := by
  refine ⟨zcT_t h.1 zcT_si, ?_⟩
  have h9 := h.2
  rw [za_si_same, z_add (by rw [z_one]; omega) (by rw [z_one]; omega), z_one]
  omega
def zsg (S r S' : Int) : Prop := (76 < S ∧ r = -1 ∧ S' = S) ∨ (S ≤ 76 ∧ r = S + 4 ∧ S' = S + 4)
def zen (S n : Int) (r : Int32) (S' : Int) : Prop := (0 ≤ n ∧ n ≤ S ∧ r = 1 ∧ S' = n) ∨ (¬ (0 ≤ n ∧ n ≤ S) ∧ r = 0 ∧ S' = S)
theorem z_le76 {a : Int32} (h0 : 0 ≤ a.toInt) (h1 : a.toInt ≤ 80) (c : a + 4 ≤ 80) : a.toInt ≤ 76 := by
  rw [z_le, z_add (by have : (4 : Int32).toInt = 4 := by decide
                      omega) (by have : (4 : Int32).toInt = 4 := by decide
                                 omega)] at c
  have h4 : (4 : Int32).toInt = 4 := by decide
  have h80 : (80 : Int32).toInt = 80 := by decide
  omega
theorem z_gt76 {a : Int32} (h0 : 0 ≤ a.toInt) (h1 : a.toInt ≤ 80) (c : ¬ a + 4 ≤ 80) : 76 < a.toInt := by
  rw [z_le, z_add (by have : (4 : Int32).toInt = 4 := by decide
                      omega) (by have : (4 : Int32).toInt = 4 := by decide
                                 omega)] at c
  have h4 : (4 : Int32).toInt = 4 := by decide
  have h80 : (80 : Int32).toInt = 80 := by decide
  omega
theorem z_ltn {x k : Int32} {n : Int} (c : x < k) (h : k.toInt = n) : x.toInt < n := by
  rw [z_lt] at c
  omega
theorem z_le76s {σ0 σ : za_S} (hz : zap σ0 0 σ) (h0 : 0 ≤ (σ0.1 79 1).toInt ∧ (σ0.1 79 1).toInt ≤ 80) (c : σ.1 79 1 + 4 ≤ 80) : (σ0.1 79 1).toInt ≤ 76 := by
  have h9 := hz.2
  have h1 := z_le76 (a := σ.1 79 1) (by omega) (by omega) c
  omega
theorem z_gt76s {σ0 σ : za_S} (hz : zap σ0 0 σ) (h0 : 0 ≤ (σ0.1 79 1).toInt ∧ (σ0.1 79 1).toInt ≤ 80) (c : ¬ σ.1 79 1 + 4 ≤ 80) : 76 < (σ0.1 79 1).toInt := by
  have h9 := hz.2
  have h1 := z_gt76 (a := σ.1 79 1) (by omega) (by omega) c
  omega
theorem z_four {σ0 σ : za_S} {y : Int32} (hz : zap σ0 y.toInt σ) (k : 0 ≤ y.toInt ∧ y.toInt ≤ 4) (c : (4 : Int32) ≤ y) : zap σ0 4 σ := by
  rw [z_le] at c
  have h4 : (4 : Int32).toInt = 4 := by decide
  have h5 : y.toInt = 4 := by omega
  rw [h5] at hz
  exact hz
theorem z_sign1 {σ0 σ : za_S} {r : Int32} (h : (r = 0 ∧ 76 < (σ0.1 79 1).toInt ∧ zap σ0 0 σ) ∨ (r = 1 ∧ (σ0.1 79 1).toInt ≤ 76 ∧ zap σ0 4 σ)) (c : ¬ r = 0) : zcT σ0 σ ∧ zsg (σ0.1 79 1).toInt (σ.1 79 1).toInt (σ.1 79 1).toInt := by
  rcases h with ⟨h, -⟩ | ⟨-, h1, h2⟩
  · exact absurd h c
  · exact ⟨h2.1, Or.inr ⟨h1, h2.2, h2.2⟩⟩
theorem z_sign0 {σ0 σ : za_S} {r : Int32} (h : (r = 0 ∧ 76 < (σ0.1 79 1).toInt ∧ zap σ0 0 σ) ∨ (r = 1 ∧ (σ0.1 79 1).toInt ≤ 76 ∧ zap σ0 4 σ)) (c : r = 0) : zcT σ0 σ ∧ zsg (σ0.1 79 1).toInt ((-1 : Int32)).toInt (σ.1 79 1).toInt := by
  rcases h with ⟨-, h1, h2⟩ | ⟨h, -⟩
  · refine ⟨h2.1, Or.inl ⟨h1, by decide, ?_⟩⟩
    have h3 := h2.2
    omega
  · rw [c] at h
    exact absurd h (by decide)
theorem z_endN {σ0 : za_S} {a : Int32} (c : a < 0) : ((0 : Int32) = 0 ∨ (0 : Int32) = 1) ∧ zcT σ0 σ0 ∧ zen (σ0.1 79 1).toInt a.toInt 0 (σ0.1 79 1).toInt := ⟨Or.inl rfl, zcT_r σ0, Or.inr ⟨fun h => by have := z_neg c; omega, rfl, rfl⟩⟩
theorem z_endM {σ0 : za_S} {a : Int32} (_ : ¬ a < 0) (c : ¬ a ≤ σ0.1 79 1) : ((0 : Int32) = 0 ∨ (0 : Int32) = 1) ∧ zcT σ0 σ0 ∧ zen (σ0.1 79 1).toInt a.toInt 0 (σ0.1 79 1).toInt := ⟨Or.inl rfl, zcT_r σ0, Or.inr ⟨fun h => by rw [z_le] at c; omega, rfl, rfl⟩⟩
theorem z_endY {σ0 : za_S} {a : Int32} (c1 : ¬ a < 0) (c : a ≤ σ0.1 79 1) : ((1 : Int32) = 0 ∨ (1 : Int32) = 1) ∧ zcT σ0 (za_si σ0 79 1 a) ∧ zen (σ0.1 79 1).toInt a.toInt 1 ((za_si σ0 79 1 a).1 79 1).toInt := by
  refine ⟨Or.inr rfl, zcT_si, Or.inl ⟨z_ge0 c1, ?_, rfl, ?_⟩⟩
  · rw [z_le] at c
    exact c
  · rw [za_si_same]
def zcR (σ σ' : za_S) : Prop := (∀ w, 93 ≤ w → σ'.1 w = σ.1 w ∧ σ'.2 w = σ.2 w) ∧ σ'.1 79 1 = σ.1 79 1 ∧ σ'.1 69 3 = σ.1 69 3 ∧ σ'.1 74 3 = σ.1 74 3
theorem zcR_r (σ : za_S) : zcR σ σ := ⟨fun _ _ => ⟨rfl, rfl⟩, rfl, rfl, rfl⟩
theorem zcR_t {a b d : za_S} (h : zcR a b) (k : zcR b d) : zcR a d := ⟨fun w hw => ⟨((k.1 w hw).1).trans (h.1 w hw).1, ((k.1 w hw).2).trans (h.1 w hw).2⟩, k.2.1.trans h.2.1, k.2.2.1.trans h.2.2.1, k.2.2.2.trans h.2.2.2⟩
theorem zcR_of {a b : za_S} (h : zc a b) : zcR a b := ⟨h.1, h.2.1, h.2.2.2.1, h.2.2.2.2⟩
theorem zcR_si {σ : za_S} {j : Nat} {x : Int32} : zcR σ (za_si σ 83 j x) := ⟨fun w' hw' => ⟨if_neg (by omega), rfl⟩, za_si_ne σ x (Or.inl (by decide)), za_si_ne σ x (Or.inl (by decide)), za_si_ne σ x (Or.inl (by decide))⟩
theorem z_gek {x k : Int32} {n : Int} (c : ¬ x < k) (h : k.toInt = n) : n ≤ x.toInt := by
  rw [z_lt] at c
  omega
theorem z_rum {σ0 : za_S} {j : Nat} {x : Int32} (h1 : (σ0.1 83 1).toInt < 12) (h2 : 0 ≤ (σ0.1 83 1).toInt) : zcR σ0 (za_si (za_si σ0 84 j x) 83 1 ((za_si σ0 84 j x).1 83 1 + 1)) ∧ (((1 : Int32) = 1 ∧ (σ0.1 83 1).toInt < 12 ∧ ((za_si (za_si σ0 84 j x) 83 1 ((za_si σ0 84 j x).1 83 1 + 1)).1 83 1).toInt = (σ0.1 83 1).toInt + 1) ∨ ((1 : Int32) = 0 ∧ 12 ≤ (σ0.1 83 1).toInt ∧ ((za_si (za_si σ0 84 j x) 83 1 ((za_si σ0 84 j x).1 83 1 + 1)).1 83 1).toInt = (σ0.1 83 1).toInt)) := by
  refine ⟨zcR_t (zcR_of (zc_k12 rfl)) zcR_si, Or.inl ⟨rfl, h1, ?_⟩⟩
  rw [za_si_same, za_si_ne _ _ (Or.inl (by decide)), z_add (by rw [z_one]; omega) (by rw [z_one]; omega), z_one]
def zcK (σ σ' : za_S) : Prop := (∀ w, 93 ≤ w → σ'.1 w = σ.1 w ∧ σ'.2 w = σ.2 w) ∧ σ'.1 79 1 = σ.1 79 1 ∧ σ'.1 83 1 = σ.1 83 1
theorem z_keep {σ0 σ : za_S} {a : Int32} (h : zc σ0 σ) (h1 : 0 ≤ a.toInt) (h2 : a.toInt < 2) : zcK σ0 (za_si σ (69 + 5 * a.toNatClampNeg) 3 1) ∧ ∀ j, j < 2 → (za_si σ (69 + 5 * a.toNatClampNeg) 3 1).1 (69 + 5 * j) 3 = if j = a.toNatClampNeg then 1 else σ0.1 (69 + 5 * j) 3 := by
  have h3 : a.toNatClampNeg < 2 := z_clamp h1 h2
  generalize a.toNatClampNeg = q at h3 ⊢
  refine ⟨⟨fun w hw => ⟨?_, (h.1 w hw).2⟩, ?_, ?_⟩, fun j hj => ?_⟩
  · show (if w = 69 + 5 * q then _ else σ.1 w) = _
    rw [if_neg (by omega)]
    exact (h.1 w hw).1
  · rw [za_si_ne _ _ (Or.inl (by omega))]
    exact h.2.1
  · rw [za_si_ne _ _ (Or.inl (by omega))]
    exact h.2.2.1
  · by_cases e : j = q
    · rw [if_pos e, e, za_si_same]
    · rw [if_neg e, za_si_ne _ _ (Or.inl (by omega))]
      rcases (show j = 0 ∨ j = 1 by omega) with rfl | rfl
      · exact h.2.2.2.1
      · exact h.2.2.2.2
theorem z_heardA {σ0 : za_S} {K : Prop} {b : Int32} (k : (b = 1 ∧ K) ∨ (b = 0 ∧ ¬ K)) (c : b = 0) : zcR σ0 σ0 ∧ ((K ∧ (σ0.1 83 1).toInt < 12 ∧ ((-1 : Int32)).toInt = (σ0.1 83 1).toInt + 1 ∧ (σ0.1 83 1).toInt = (σ0.1 83 1).toInt + 1) ∨ (¬ (K ∧ (σ0.1 83 1).toInt < 12) ∧ (-1 : Int32) = -1 ∧ (σ0.1 83 1).toInt = (σ0.1 83 1).toInt)) := by
  rcases k with ⟨h, -⟩ | ⟨-, h⟩
  · rw [c] at h
    exact absurd h (by decide)
  · exact ⟨zcR_r σ0, Or.inr ⟨fun q => h q.1, rfl, rfl⟩⟩
theorem z_heardB {σ0 σ : za_S} {K : Prop} {r : Int32} (z : zcR σ0 σ) (k : (r = 1 ∧ (σ0.1 83 1).toInt < 12 ∧ (σ.1 83 1).toInt = (σ0.1 83 1).toInt + 1) ∨ (r = 0 ∧ 12 ≤ (σ0.1 83 1).toInt ∧ (σ.1 83 1).toInt = (σ0.1 83 1).toInt)) (c : r = 0) : zcR σ0 σ ∧ ((K ∧ (σ0.1 83 1).toInt < 12 ∧ ((-1 : Int32)).toInt = (σ0.1 83 1).toInt + 1 ∧ (σ.1 83 1).toInt = (σ0.1 83 1).toInt + 1) ∨ (¬ (K ∧ (σ0.1 83 1).toInt < 12) ∧ (-1 : Int32) = -1 ∧ (σ.1 83 1).toInt = (σ0.1 83 1).toInt)) := by
  rcases k with ⟨h, -⟩ | ⟨-, h1, h2⟩
  · rw [c] at h
    exact absurd h (by decide)
  · exact ⟨z, Or.inr ⟨fun q => by have := q.2; omega, rfl, h2⟩⟩
theorem z_heardC {σ0 σ : za_S} {K : Prop} {b r : Int32} (k : (b = 1 ∧ K) ∨ (b = 0 ∧ ¬ K)) (c : ¬ b = 0) (z : zcR σ0 σ) (k2 : (r = 1 ∧ (σ0.1 83 1).toInt < 12 ∧ (σ.1 83 1).toInt = (σ0.1 83 1).toInt + 1) ∨ (r = 0 ∧ 12 ≤ (σ0.1 83 1).toInt ∧ (σ.1 83 1).toInt = (σ0.1 83 1).toInt)) (c2 : ¬ r = 0) : zcR σ0 σ ∧ ((K ∧ (σ0.1 83 1).toInt < 12 ∧ (σ.1 83 1).toInt = (σ0.1 83 1).toInt + 1 ∧ (σ.1 83 1).toInt = (σ0.1 83 1).toInt + 1) ∨ (¬ (K ∧ (σ0.1 83 1).toInt < 12) ∧ σ.1 83 1 = -1 ∧ (σ.1 83 1).toInt = (σ0.1 83 1).toInt)) := by
  rcases k with ⟨-, h⟩ | ⟨h, -⟩
  · rcases k2 with ⟨-, h1, h2⟩ | ⟨h1, -⟩
    · exact ⟨z, Or.inl ⟨h, h1, h2, h2⟩⟩
    · exact absurd h1 c2
  · exact absurd h c
theorem z_aga0 {P : Prop} {x : Int32} (c : x = 0) : ((0 : Int32) = 1 ↔ P ∧ ¬ x = 0) := ⟨fun h => absurd h (by decide), fun h => absurd c h.2⟩
theorem z_agaN {P Q : Prop} (c : ¬ P) : ((0 : Int32) = 1 ↔ P ∧ Q) := ⟨fun h => absurd h (by decide), fun h => absurd h.1 c⟩
theorem z_aga1 {P : Prop} {x : Int32} (p : P) (c : ¬ x = 0) : ((1 : Int32) = 1 ↔ P ∧ ¬ x = 0) := ⟨fun _ => ⟨p, c⟩, fun _ => rfl⟩
set_option maxHeartbeats 4000000 in
set_option maxRecDepth 100000 in
theorem zc_X0_rewind (l : Launch) (E : za_E)  (σ0 : za_S)  : zMv l E yX0_rewind cX0_rewind 1 (Option.none : Option Jvm.ClassFile.FieldType) 1 21 [za_O 16 90] σ0 (fun σ' => zf 44 σ0 σ') := by
  refine zMv_of [(0, za_O 16 90)] (by decide) rfl rfl (Nat.le_of_ble_eq_true rfl) ?_
  intro ho p e s m args below meth c G hr
  refine zv_aload_n (j := 0) G dX0_rewind_0 rfl rfl ?_
  refine zv_iconst (v := 0) G dX0_rewind_1 (by decide) ?_
  refine zp_X0_45 G dX0_rewind_2 ?_
  refine zv_aload_n (j := 0) G dX0_rewind_5 rfl rfl ?_
  refine zv_iconst (v := (-1)) G dX0_rewind_6 (by decide) ?_
  refine zp_X0_42 G dX0_rewind_7 ?_
  exact zv_vret G hr dX0_rewind_10 (zf_rew σ0)
set_option maxHeartbeats 4000000 in
set_option maxRecDepth 100000 in
theorem zc_X0_peek (l : Launch) (E : za_E)  (σ : za_S) (h : 0 ≤ (σ.1 90 3).toInt) : zMi l E yX0_peek cX0_peek 1 (Option.some Jvm.ClassFile.FieldType.int) 1 21 [za_O 16 90] σ (fun r σ' => (r = -1 ∨ (σ.1 90 3).toInt < 40) ∧ σ' = σ) := by
  refine zMi_of [(0, za_O 16 90)] (by decide) rfl rfl (Nat.le_of_ble_eq_true rfl) ?_
  intro ho p e s m args below meth c G hr
  refine zv_aload_n (j := 0) G dX0_peek_0 rfl rfl ?_
  refine zg_X0_42 G dX0_peek_1 ?_
  refine zv_iconst (v := (-1)) G dX0_peek_4 (by decide) ?_
  refine zv_icmp_ne (tgt := 40) G dX0_peek_5 (by decide) (fun c_5 => ?_) (fun c_5 => ?_)
  · refine zv_iconst (v := (-1)) G dX0_peek_40 (by decide) ?_
    exact zv_iret G hr dX0_peek_41 ⟨(Or.inl rfl), rfl⟩
  · refine zv_aload_n (j := 0) G dX0_peek_8 rfl rfl ?_
    refine zg_X0_45 G dX0_peek_9 ?_
    refine zv_aload_n (j := 0) G dX0_peek_12 rfl rfl ?_
    refine zg_X0_31 G dX0_peek_13 ?_
    refine zv_icmp_ge (tgt := 40) G dX0_peek_16 (by decide) (fun c_16 => ?_) (fun c_16 => ?_)
    · refine zv_iconst (v := (-1)) G dX0_peek_40 (by decide) ?_
      exact zv_iret G hr dX0_peek_41 ⟨(Or.inl rfl), rfl⟩
    · refine zv_aload_n (j := 0) G dX0_peek_19 rfl rfl ?_
      refine zg_X0_45 G dX0_peek_20 ?_
      refine zv_bipush (v := 40) G dX0_peek_23 (by decide) ?_
      refine zv_icmp_ge (tgt := 40) G dX0_peek_25 (by decide) (fun c_25 => ?_) (fun c_25 => ?_)
      · refine zv_iconst (v := (-1)) G dX0_peek_40 (by decide) ?_
        exact zv_iret G hr dX0_peek_41 ⟨(Or.inl rfl), rfl⟩
      · refine zv_aload_n (j := 0) G dX0_peek_28 rfl rfl ?_
        refine zg_X0_11 G dX0_peek_29 ?_
        refine zv_aload_n (j := 0) G dX0_peek_32 rfl rfl ?_
        refine zg_X0_45 G dX0_peek_33 ?_
        refine zv_cald G (by decide) rfl (z_in h (z_ltk c_25 (n := 40) rfl)) dX0_peek_36 ?_
        refine zv_goto (tgt := 41) G dX0_peek_37 (by decide) ?_
        exact zv_iret G hr dX0_peek_41 ⟨(Or.inr (z_ltk c_25 (n := 40) rfl)), rfl⟩
set_option maxHeartbeats 4000000 in
set_option maxRecDepth 100000 in
theorem zc_X0_fail (l : Launch) (E : za_E) (mx : Int) (σ0 : za_S) (hp : 0 ≤ (σ0.1 90 3).toInt ∧ (σ0.1 90 3).toInt ≤ mx) : zMv l E yX0_fail cX0_fail 1 (Option.none : Option Jvm.ClassFile.FieldType) 1 21 [za_O 16 90] σ0 (fun σ' => zf mx σ0 σ') := by
  refine zMv_of [(0, za_O 16 90)] (by decide) rfl rfl (Nat.le_of_ble_eq_true rfl) ?_
  intro ho p e s m args below meth c G hr
  refine zv_gen (R9 := zf mx σ0) ⟨zc_r σ0, hp⟩ (fun σ hz => ?_)
  refine zv_aload_n (j := 0) G dX0_fail_0 rfl rfl ?_
  refine zg_X0_42 G dX0_fail_1 ?_
  refine zv_iconst (v := (-1)) G dX0_fail_4 (by decide) ?_
  refine zv_icmp_ne (tgt := 16) G dX0_fail_5 (by decide) (fun c_5 => ?_) (fun c_5 => ?_)
  · exact zv_vret G hr dX0_fail_16 hz
  · refine zv_aload_n (j := 0) G dX0_fail_8 rfl rfl ?_
    refine zv_aload_n (j := 0) G dX0_fail_9 rfl rfl ?_
    refine zg_X0_45 G dX0_fail_10 ?_
    refine zp_X0_42 G dX0_fail_13 ?_
    refine zv_gen (R9 := zf mx σ0) (zf_f hz) (fun σ hz => ?_)
    exact zv_vret G hr dX0_fail_16 hz
set_option maxHeartbeats 4000000 in
set_option maxRecDepth 100000 in
theorem zc_X0_digits (l : Launch) (E : za_E) (mx : Int) (σ0 : za_S) (hp : 0 ≤ (σ0.1 90 3).toInt ∧ (σ0.1 90 3).toInt ≤ mx) (hm : 40 ≤ mx ∧ mx ≤ 44) : zMi l E yX0_digits cX0_digits 3 (Option.some Jvm.ClassFile.FieldType.int) 2 41 [za_O 16 90] σ0 (fun r σ' => zf mx σ0 σ') := by
  refine zMi_of [(0, za_O 16 90)] (by decide) rfl rfl (Nat.le_of_ble_eq_true rfl) ?_
  intro ho p e s m args below meth c G hr
  refine zv_gen (R9 := zf mx σ0) ⟨zc_r σ0, hp⟩ (fun σ hz => ?_)
  refine zv_iconst (v := 0) G dX0_digits_0 (by decide) ?_
  refine zv_istore_n (lv' := [(1, za_I 0), (0, za_O 16 90)]) G dX0_digits_1 rfl (by decide) rfl ?_
  refine zv_iconst (v := 0) G dX0_digits_2 (by decide) ?_
  have J_4 : ∀ (n : Nat) (y1_4 : Int32) (y2_4 : Int32) (σ : za_S) (hz : zf mx σ0 σ) (hn_4 : (2147483648 - y2_4.toInt).toNat < n), zV p l e (zRm 2 41) s m args below meth c E (za_A E) 3 0 0 (MQ below (va_Qi (fun r σ' => zf mx σ0 σ') (zB E) (za_A E)) args s 0 0 (za_A E)) 4 [(0, za_O 16 90), (1, za_I y1_4), (2, za_I y2_4)] [] σ := by
    intro n
    induction n with
    | zero => intro y1_4 y2_4 σ hz hn; exact absurd hn (Nat.not_lt_zero _)
    | succ n ih_4 =>
      intro y1_4 y2_4 σ hz hn_4
      refine zv_iload_n (j := 2) G dX0_digits_4 rfl rfl ?_
      refine zv_iconst (v := 3) G dX0_digits_5 (by decide) ?_
      refine zv_icmp_ge (tgt := 56) G dX0_digits_6 (by decide) (fun c_6 => ?_) (fun c_6 => ?_)
      · refine zv_iload_n (j := 1) G dX0_digits_56 rfl rfl ?_
        exact zv_iret G hr dX0_digits_57 hz
      · refine zv_aload_n (j := 0) G dX0_digits_9 rfl rfl ?_
        refine zv_callVi (as := []) G (by decide) rfl rfl (zc_X0_peek l E  σ hz.2.1) zk_X0_peek zm_924 rfl ⟨(Nat.le_of_ble_eq_true rfl), (Nat.le_of_ble_eq_true rfl)⟩ ⟨Nat.zero_le _, Nat.zero_le _⟩ (Nat.le_of_ble_eq_true rfl) dX0_digits_10 (fun r_10 σ h_10 => ?_)
        obtain ⟨h_10, rfl⟩ := h_10
        refine zv_bipush (v := 48) G dX0_digits_13 (by decide) ?_
        refine zv_icmp_lt (tgt := 56) G dX0_digits_15 (by decide) (fun c_15 => ?_) (fun c_15 => ?_)
        · refine zv_iload_n (j := 1) G dX0_digits_56 rfl rfl ?_
          exact zv_iret G hr dX0_digits_57 hz
        · refine zv_aload_n (j := 0) G dX0_digits_18 rfl rfl ?_
          refine zv_callVi (as := []) G (by decide) rfl rfl (zc_X0_peek l E  σ hz.2.1) zk_X0_peek zm_924 rfl ⟨(Nat.le_of_ble_eq_true rfl), (Nat.le_of_ble_eq_true rfl)⟩ ⟨Nat.zero_le _, Nat.zero_le _⟩ (Nat.le_of_ble_eq_true rfl) dX0_digits_19 (fun r_19 σ h_19 => ?_)
          obtain ⟨h_19, rfl⟩ := h_19
          refine zv_bipush (v := 57) G dX0_digits_22 (by decide) ?_
          refine zv_icmp_gt (tgt := 56) G dX0_digits_24 (by decide) (fun c_24 => ?_) (fun c_24 => ?_)
          · refine zv_iload_n (j := 1) G dX0_digits_56 rfl rfl ?_
            exact zv_iret G hr dX0_digits_57 hz
          · refine zv_iload_n (j := 1) G dX0_digits_27 rfl rfl ?_
            refine zv_bipush (v := 10) G dX0_digits_28 (by decide) ?_
            refine zv_imul G dX0_digits_30 ?_
            refine zv_aload_n (j := 0) G dX0_digits_31 rfl rfl ?_
            refine zv_callVi (as := []) G (by decide) rfl rfl (zc_X0_peek l E  σ hz.2.1) zk_X0_peek zm_924 rfl ⟨(Nat.le_of_ble_eq_true rfl), (Nat.le_of_ble_eq_true rfl)⟩ ⟨Nat.zero_le _, Nat.zero_le _⟩ (Nat.le_of_ble_eq_true rfl) dX0_digits_32 (fun r_32 σ h_32 => ?_)
            obtain ⟨h_32, rfl⟩ := h_32
            refine zv_iadd G dX0_digits_35 ?_
            refine zv_bipush (v := 48) G dX0_digits_36 (by decide) ?_
            refine zv_isub G dX0_digits_38 ?_
            refine zv_top (fun x_39 e_39 => ?_)
            refine zv_istore_n (lv' := [(1, za_I x_39), (0, za_O 16 90), (2, za_I y2_4)]) G dX0_digits_39 rfl (by decide) rfl ?_
            refine zv_aload_n (j := 1) G dX0_digits_40 rfl rfl ?_
            refine zv_dupO G dX0_digits_41 ?_
            refine zg_X0_45 G dX0_digits_42 ?_
            refine zv_iconst (v := 1) G dX0_digits_45 (by decide) ?_
            refine zv_iadd G dX0_digits_46 ?_
            refine zp_X0_45 G dX0_digits_47 ?_
            refine zv_gen (R9 := zf mx σ0) (zf_inc hz (h_10.resolve_left (fun h => c_15 (by rw [h]; decide))) (by decide) (by omega)) (fun σ hz => ?_)
            obtain ⟨x_50, e_50⟩ : ∃ y : Int32, y = y2_4 + 1 := ⟨_, rfl⟩
            refine zv_iinc (j := 2) (v := x_50) (lv' := [(2, za_I x_50), (1, za_I x_39), (0, za_O 16 90)]) G dX0_digits_50 rfl (by rw [e_50]; rfl) (by decide) rfl ?_
            refine zv_goto (tgt := 4) G dX0_digits_53 (by decide) ?_
            refine zv_sub [2, 1, 0] (lv' := [(0, za_O 16 90), (1, za_I x_39), (2, za_I x_50)]) rfl ?_
            exact ih_4 x_39 x_50 σ hz (z_meas c_6 e_50 hn_4)
  refine zv_istore_n (lv' := [(2, za_I 0), (1, za_I 0), (0, za_O 16 90)]) G dX0_digits_3 rfl (by decide) rfl ?_
  refine zv_sub [2, 1, 0] (lv' := [(0, za_O 16 90), (1, za_I 0), (2, za_I 0)]) rfl ?_
  exact J_4 _ (0 : Int32) (0 : Int32) σ hz (Nat.lt_succ_self _)
set_option maxHeartbeats 4000000 in
set_option maxRecDepth 100000 in
theorem zc_X0_ofRow (l : Launch) (E : za_E) (a1 : Int32) (mx : Int) (σ0 : za_S) (hp : 0 ≤ (σ0.1 90 3).toInt ∧ (σ0.1 90 3).toInt ≤ mx) (hm : 40 ≤ mx ∧ mx ≤ 44) (hl : a1 = -1 ∨ (σ0.1 90 3).toInt < 40) : zMi l E yX0_ofRow cX0_ofRow 3 (Option.some Jvm.ClassFile.FieldType.int) 5 112 [za_O 16 90, za_I a1] σ0 (fun r σ' => zf mx σ0 σ') := by
  refine zMi_of [(0, za_O 16 90), (1, za_I a1)] (by decide) rfl rfl (Nat.le_of_ble_eq_true rfl) ?_
  intro ho p e s m args below meth c G hr
  refine zv_gen (R9 := (fun σ => zf mx σ0 σ ∧ (a1 = -1 ∨ (σ.1 90 3).toInt < 40))) ⟨⟨zc_r σ0, hp⟩, hl⟩ (fun σ hz => ?_)
  obtain ⟨hz, hl9⟩ := hz
  refine zv_iload_n (j := 1) G dX0_ofRow_0 rfl rfl ?_
  refine zv_iconst (v := (-1)) G dX0_ofRow_1 (by decide) ?_
  refine zv_icmp_ne (tgt := 9) G dX0_ofRow_2 (by decide) (fun c_2 => ?_) (fun c_2 => ?_)
  · have ql := hl9.resolve_left c_2
    refine zv_lds (q := 6) (tx := "kvftrli") G (by decide +kernel) (by decide) dX0_ofRow_9 ?_
    refine zv_iload_n (j := 1) G dX0_ofRow_11 rfl rfl ?_
    refine zv_i2c G dX0_ofRow_12 ?_
    refine zv_callTi (as := [za_I ((a1.toUInt32 % 65536).toInt32)]) G (zc_J0_indexOf_0f7a4 l E 6 ((a1.toUInt32 % 65536).toInt32) σ ) zk_J0_indexOf_0f7a4 zm_941 rfl ⟨(Nat.le_of_ble_eq_true rfl), (Nat.le_of_ble_eq_true rfl)⟩ ⟨Nat.zero_le _, Nat.zero_le _⟩ (Nat.le_of_ble_eq_true rfl) dX0_ofRow_13 (fun r_13 σ h_13 => ?_)
    subst h_13
    refine zv_istore_n (lv' := [(2, za_I r_13), (0, za_O 16 90), (1, za_I a1)]) G dX0_ofRow_16 rfl (by decide) rfl ?_
    refine zv_iload_n (j := 0) G dX0_ofRow_17 rfl rfl ?_
    refine zv_if_lt (tgt := 27) G dX0_ofRow_18 (by decide) (fun c_18 => ?_) (fun c_18 => ?_)
    · refine zv_aload_n (j := 1) G dX0_ofRow_27 rfl rfl ?_
      refine zv_callVv (as := []) G (by decide) rfl rfl (zc_X0_fail l E mx σ hz.2) zk_X0_fail zm_932 rfl ⟨(Nat.le_of_ble_eq_true rfl), (Nat.le_of_ble_eq_true rfl)⟩ ⟨Nat.zero_le _, Nat.zero_le _⟩ (Nat.le_of_ble_eq_true rfl) dX0_ofRow_28 (fun σ h_28 => ?_)
      have hz9 := h_28
      have hz := zf_t hz hz9
      refine zv_iconst (v := 0) G dX0_ofRow_31 (by decide) ?_
      exact zv_iret G hr dX0_ofRow_32 hz
    · refine zv_iload_n (j := 0) G dX0_ofRow_21 rfl rfl ?_
      refine zv_bipush (v := 7) G dX0_ofRow_22 (by decide) ?_
      refine zv_icmp_lt (tgt := 33) G dX0_ofRow_24 (by decide) (fun c_24 => ?_) (fun c_24 => ?_)
      · refine zv_aload_n (j := 1) G dX0_ofRow_33 rfl rfl ?_
        refine zv_dupO G dX0_ofRow_34 ?_
        refine zg_X0_45 G dX0_ofRow_35 ?_
        refine zv_iconst (v := 1) G dX0_ofRow_38 (by decide) ?_
        refine zv_iadd G dX0_ofRow_39 ?_
        refine zp_X0_45 G dX0_ofRow_40 ?_
        refine zv_gen (R9 := zf mx σ0) (zf_inc hz ql (by decide) (by omega)) (fun σ hz => ?_)
        refine zv_aload_n (j := 1) G dX0_ofRow_43 rfl rfl ?_
        refine zg_X0_15 G dX0_ofRow_44 ?_
        refine zv_iload_n (j := 0) G dX0_ofRow_47 rfl rfl ?_
        refine zv_iald G (by decide) rfl (z_in (z_ge0 c_18) (z_ltn c_24 (n := 7) rfl)) dX0_ofRow_48 ?_
        exact zv_iret G hr dX0_ofRow_49 hz
      · refine zv_aload_n (j := 1) G dX0_ofRow_27 rfl rfl ?_
        refine zv_callVv (as := []) G (by decide) rfl rfl (zc_X0_fail l E mx σ hz.2) zk_X0_fail zm_932 rfl ⟨(Nat.le_of_ble_eq_true rfl), (Nat.le_of_ble_eq_true rfl)⟩ ⟨Nat.zero_le _, Nat.zero_le _⟩ (Nat.le_of_ble_eq_true rfl) dX0_ofRow_28 (fun σ h_28 => ?_)
        have hz9 := h_28
        have hz := zf_t hz hz9
        refine zv_iconst (v := 0) G dX0_ofRow_31 (by decide) ?_
        exact zv_iret G hr dX0_ofRow_32 hz
  · refine zv_iconst (v := (-1)) G dX0_ofRow_5 (by decide) ?_
    refine zv_goto (tgt := 16) G dX0_ofRow_6 (by decide) ?_
    refine zv_istore_n (lv' := [(2, za_I (-1)), (0, za_O 16 90), (1, za_I a1)]) G dX0_ofRow_16 rfl (by decide) rfl ?_
    refine zv_iload_n (j := 0) G dX0_ofRow_17 rfl rfl ?_
    refine zv_if_lt (tgt := 27) G dX0_ofRow_18 (by decide) (fun c_18 => ?_) (fun c_18 => ?_)
    · refine zv_aload_n (j := 1) G dX0_ofRow_27 rfl rfl ?_
      refine zv_callVv (as := []) G (by decide) rfl rfl (zc_X0_fail l E mx σ hz.2) zk_X0_fail zm_932 rfl ⟨(Nat.le_of_ble_eq_true rfl), (Nat.le_of_ble_eq_true rfl)⟩ ⟨Nat.zero_le _, Nat.zero_le _⟩ (Nat.le_of_ble_eq_true rfl) dX0_ofRow_28 (fun σ h_28 => ?_)
      have hz9 := h_28
      have hz := zf_t hz hz9
      refine zv_iconst (v := 0) G dX0_ofRow_31 (by decide) ?_
      exact zv_iret G hr dX0_ofRow_32 hz
    · exact absurd c_18 (by decide)
set_option maxHeartbeats 4000000 in
set_option maxRecDepth 100000 in
theorem zc_X0_thing_at4 (l : Launch) (E : za_E) (mx : Int) (σ0 : za_S) (hp : 0 ≤ (σ0.1 90 3).toInt ∧ (σ0.1 90 3).toInt ≤ mx) (hm : 40 ≤ mx ∧ mx ≤ 44) : zMi l E yX0_thing cX0_thing 5 (Option.some Jvm.ClassFile.FieldType.int) 6 134 [za_O 16 90, za_I 4] σ0 (fun r σ' => zf mx σ0 σ') := by
  refine zMi_of [(0, za_O 16 90), (1, za_I 4)] (by decide) rfl rfl (Nat.le_of_ble_eq_true rfl) ?_
  intro ho p e s m args below meth c G hr
  refine zv_gen (R9 := zf mx σ0) ⟨zc_r σ0, hp⟩ (fun σ hz => ?_)
  refine zv_iconst (v := 0) G dX0_thing_0 (by decide) ?_
  refine zv_istore_n (lv' := [(2, za_I 0), (0, za_O 16 90), (1, za_I 4)]) G dX0_thing_1 rfl (by decide) rfl ?_
  refine zv_iconst (v := 0) G dX0_thing_2 (by decide) ?_
  have J_4 : ∀ (n : Nat) (y2_4 : Int32) (y3_4 : Int32) (σ : za_S) (hz : zf mx σ0 σ) (hn_4 : (2147483648 - y3_4.toInt).toNat < n), zV p l e (zRm 6 134) s m args below meth c E (za_A E) 5 0 0 (MQ below (va_Qi (fun r σ' => zf mx σ0 σ') (zB E) (za_A E)) args s 0 0 (za_A E)) 4 [(0, za_O 16 90), (1, za_I 4), (2, za_I y2_4), (3, za_I y3_4)] [] σ := by
    intro n
    induction n with
    | zero => intro y2_4 y3_4 σ hz hn; exact absurd hn (Nat.not_lt_zero _)
    | succ n ih_4 =>
      intro y2_4 y3_4 σ hz hn_4
      refine zv_iload_n (j := 3) G dX0_thing_4 rfl rfl ?_
      refine zv_bipush (v := 40) G dX0_thing_5 (by decide) ?_
      have J_45 : ∀  (σ : za_S) (hz : zf mx σ0 σ), zV p l e (zRm 6 134) s m args below meth c E (za_A E) 5 0 0 (MQ below (va_Qi (fun r σ' => zf mx σ0 σ') (zB E) (za_A E)) args s 0 0 (za_A E)) 45 [(0, za_O 16 90), (1, za_I 4), (2, za_I y2_4)] [] σ := by
        intro σ hz
        refine zv_aload_n (j := 0) G dX0_thing_45 rfl rfl ?_
        refine zv_callVi (as := []) G (by decide) rfl rfl (zc_X0_peek l E  σ hz.2.1) zk_X0_peek zm_924 rfl ⟨(Nat.le_of_ble_eq_true rfl), (Nat.le_of_ble_eq_true rfl)⟩ ⟨Nat.zero_le _, Nat.zero_le _⟩ (Nat.le_of_ble_eq_true rfl) dX0_thing_46 (fun r_46 σ h_46 => ?_)
        obtain ⟨h_46, rfl⟩ := h_46
        refine zv_istore_n (lv' := [(3, za_I r_46), (0, za_O 16 90), (1, za_I 4), (2, za_I y2_4)]) G dX0_thing_49 rfl (by decide) rfl ?_
        refine zv_iload_n (j := 0) G dX0_thing_50 rfl rfl ?_
        refine zv_bipush (v := 48) G dX0_thing_51 (by decide) ?_
        have J_134 : ∀ (y4_134 : Int32) (σ : za_S) (hz : zf mx σ0 σ), zV p l e (zRm 6 134) s m args below meth c E (za_A E) 5 0 0 (MQ below (va_Qi (fun r σ' => zf mx σ0 σ') (zB E) (za_A E)) args s 0 0 (za_A E)) 134 [(2, za_I y2_4), (4, za_I y4_134)] [] σ := by
          intro y4_134 σ hz
          refine zv_iload_n (j := 0) G dX0_thing_134 rfl rfl ?_
          refine zv_if_eq (tgt := 144) G dX0_thing_135 (by decide) (fun c_135 => ?_) (fun c_135 => ?_)
          · refine zv_iload (j := 1) G dX0_thing_144 rfl ?_
            exact zv_iret G hr dX0_thing_146 hz
          · refine zv_iload (j := 1) G dX0_thing_138 rfl ?_
            refine zv_ineg G dX0_thing_140 ?_
            refine zv_goto (tgt := 146) G dX0_thing_141 (by decide) ?_
            exact zv_iret G hr dX0_thing_146 hz
        have J_71 : ∀  (σ : za_S) (hz : zf mx σ0 σ) (q_71 : r_46 = -1 ∨ (σ.1 90 3).toInt < 40), zV p l e (zRm 6 134) s m args below meth c E (za_A E) 5 0 0 (MQ below (va_Qi (fun r σ' => zf mx σ0 σ') (zB E) (za_A E)) args s 0 0 (za_A E)) 71 [(0, za_O 16 90), (1, za_I 4), (2, za_I y2_4), (3, za_I r_46)] [] σ := by
          intro σ hz q_71
          refine zv_iload_n (j := 3) G dX0_thing_71 rfl rfl ?_
          refine zv_bipush (v := 40) G dX0_thing_72 (by decide) ?_
          have J_127 : ∀  (σ : za_S) (hz : zf mx σ0 σ) (q_127 : r_46 = -1 ∨ (σ.1 90 3).toInt < 40), zV p l e (zRm 6 134) s m args below meth c E (za_A E) 5 0 0 (MQ below (va_Qi (fun r σ' => zf mx σ0 σ') (zB E) (za_A E)) args s 0 0 (za_A E)) 127 [(0, za_O 16 90), (2, za_I y2_4), (3, za_I r_46)] [] σ := by
            intro σ hz q_127
            refine zv_aload_n (j := 0) G dX0_thing_127 rfl rfl ?_
            refine zv_iload_n (j := 2) G dX0_thing_128 rfl rfl ?_
            refine zv_callVi (as := [za_I r_46]) G (by decide) rfl rfl (zc_X0_ofRow l E r_46 mx σ hz.2 (by omega) q_127) zk_X0_ofRow zm_936 rfl ⟨(Nat.le_of_ble_eq_true rfl), (Nat.le_of_ble_eq_true rfl)⟩ ⟨Nat.zero_le _, Nat.zero_le _⟩ (Nat.le_of_ble_eq_true rfl) dX0_thing_129 (fun r_129 σ h_129 => ?_)
            have hz9 := h_129
            have hz := zf_t hz hz9
            refine zv_istore (lv' := [(4, za_I r_129), (0, za_O 16 90), (2, za_I y2_4), (3, za_I r_46)]) G dX0_thing_132 (by decide) rfl ?_
            refine zv_sub [2, 0] (lv' := [(2, za_I y2_4), (4, za_I r_129)]) rfl ?_
            exact J_134 r_129 σ hz
          refine zv_icmp_ne (tgt := 127) G dX0_thing_74 (by decide) (fun c_74 => ?_) (fun c_74 => ?_)
          · refine zv_sub [0, 2, 3] (lv' := [(0, za_O 16 90), (2, za_I y2_4), (3, za_I r_46)]) rfl ?_
            exact J_127 σ hz q_71
          · refine zv_iload_n (j := 1) G dX0_thing_77 rfl rfl ?_
            refine zv_iconst (v := 4) G dX0_thing_78 (by decide) ?_
            refine zv_icmp_ge (tgt := 127) G dX0_thing_79 (by decide) (fun c_79 => ?_) (fun c_79 => ?_)
            · refine zv_sub [0, 2, 3] (lv' := [(0, za_O 16 90), (2, za_I y2_4), (3, za_I r_46)]) rfl ?_
              exact J_127 σ hz q_71
            · exact absurd c_79 (by decide)
        refine zv_icmp_lt (tgt := 71) G dX0_thing_53 (by decide) (fun c_53 => ?_) (fun c_53 => ?_)
        · refine zv_sub [1, 2, 3, 0] (lv' := [(0, za_O 16 90), (1, za_I 4), (2, za_I y2_4), (3, za_I r_46)]) rfl ?_
          exact J_71 σ hz h_46
        · refine zv_iload_n (j := 0) G dX0_thing_56 rfl rfl ?_
          refine zv_bipush (v := 57) G dX0_thing_57 (by decide) ?_
          refine zv_icmp_gt (tgt := 71) G dX0_thing_59 (by decide) (fun c_59 => ?_) (fun c_59 => ?_)
          · refine zv_sub [1, 2, 3, 0] (lv' := [(0, za_O 16 90), (1, za_I 4), (2, za_I y2_4), (3, za_I r_46)]) rfl ?_
            exact J_71 σ hz h_46
          · refine zv_aload_n (j := 1) G dX0_thing_62 rfl rfl ?_
            refine zv_callVi (as := []) G (by decide) rfl rfl (zc_X0_digits l E mx σ hz.2 (by omega)) zk_X0_digits zm_928 rfl ⟨(Nat.le_of_ble_eq_true rfl), (Nat.le_of_ble_eq_true rfl)⟩ ⟨Nat.zero_le _, Nat.zero_le _⟩ (Nat.le_of_ble_eq_true rfl) dX0_thing_63 (fun r_63 σ h_63 => ?_)
            have hz9 := h_63
            have hz := zf_t hz hz9
            refine zv_istore (lv' := [(4, za_I r_63), (3, za_I r_46), (0, za_O 16 90), (1, za_I 4), (2, za_I y2_4)]) G dX0_thing_66 (by decide) rfl ?_
            refine zv_goto (tgt := 134) G dX0_thing_68 (by decide) ?_
            refine zv_sub [4, 0] (lv' := [(2, za_I y2_4), (4, za_I r_63)]) rfl ?_
            exact J_134 r_63 σ hz
      refine zv_icmp_ge (tgt := 45) G dX0_thing_7 (by decide) (fun c_7 => ?_) (fun c_7 => ?_)
      · refine zv_sub [0, 1, 2] (lv' := [(0, za_O 16 90), (1, za_I 4), (2, za_I y2_4)]) rfl ?_
        exact J_45 σ hz
      · refine zv_aload_n (j := 0) G dX0_thing_10 rfl rfl ?_
        refine zv_callVi (as := []) G (by decide) rfl rfl (zc_X0_peek l E  σ hz.2.1) zk_X0_peek zm_924 rfl ⟨(Nat.le_of_ble_eq_true rfl), (Nat.le_of_ble_eq_true rfl)⟩ ⟨Nat.zero_le _, Nat.zero_le _⟩ (Nat.le_of_ble_eq_true rfl) dX0_thing_11 (fun r_11 σ h_11 => ?_)
        obtain ⟨h_11, rfl⟩ := h_11
        refine zv_bipush (v := 45) G dX0_thing_14 (by decide) ?_
        refine zv_icmp_ne (tgt := 45) G dX0_thing_16 (by decide) (fun c_16 => ?_) (fun c_16 => ?_)
        · refine zv_sub [0, 1, 2] (lv' := [(0, za_O 16 90), (1, za_I 4), (2, za_I y2_4)]) rfl ?_
          exact J_45 σ hz
        · refine zv_iload_n (j := 2) G dX0_thing_19 rfl rfl ?_
          have J_28 : ∀ (s0_28 : Int32) (σ : za_S) (hz : zf mx σ0 σ) (q_28 : (σ.1 90 3).toInt < 40), zV p l e (zRm 6 134) s m args below meth c E (za_A E) 5 0 0 (MQ below (va_Qi (fun r σ' => zf mx σ0 σ') (zB E) (za_A E)) args s 0 0 (za_A E)) 28 [(0, za_O 16 90), (1, za_I 4), (3, za_I y3_4)] [za_I s0_28] σ := by
            intro s0_28 σ hz q_28
            refine zv_istore_n (lv' := [(2, za_I s0_28), (0, za_O 16 90), (1, za_I 4), (3, za_I y3_4)]) G dX0_thing_28 rfl (by decide) rfl ?_
            refine zv_aload_n (j := 1) G dX0_thing_29 rfl rfl ?_
            refine zv_dupO G dX0_thing_30 ?_
            refine zg_X0_45 G dX0_thing_31 ?_
            refine zv_iconst (v := 1) G dX0_thing_34 (by decide) ?_
            refine zv_iadd G dX0_thing_35 ?_
            refine zp_X0_45 G dX0_thing_36 ?_
            refine zv_gen (R9 := zf mx σ0) (zf_inc hz q_28 (by decide) (by omega)) (fun σ hz => ?_)
            obtain ⟨x_39, e_39⟩ : ∃ y : Int32, y = y3_4 + 1 := ⟨_, rfl⟩
            refine zv_iinc (j := 3) (v := x_39) (lv' := [(3, za_I x_39), (2, za_I s0_28), (0, za_O 16 90), (1, za_I 4)]) G dX0_thing_39 rfl (by rw [e_39]; rfl) (by decide) rfl ?_
            refine zv_goto (tgt := 4) G dX0_thing_42 (by decide) ?_
            refine zv_sub [2, 3, 1, 0] (lv' := [(0, za_O 16 90), (1, za_I 4), (2, za_I s0_28), (3, za_I x_39)]) rfl ?_
            exact ih_4 s0_28 x_39 σ hz (z_meas c_7 e_39 hn_4)
          refine zv_if_ne (tgt := 27) G dX0_thing_20 (by decide) (fun c_20 => ?_) (fun c_20 => ?_)
          · refine zv_iconst (v := 0) G dX0_thing_27 (by decide) ?_
            refine zv_sub [0, 1, 3] (lv' := [(0, za_O 16 90), (1, za_I 4), (3, za_I y3_4)]) rfl ?_
            exact J_28 (0 : Int32) σ hz (h_11.resolve_left (by rw [c_16]; decide))
          · refine zv_iconst (v := 1) G dX0_thing_23 (by decide) ?_
            refine zv_goto (tgt := 28) G dX0_thing_24 (by decide) ?_
            refine zv_sub [0, 1, 3] (lv' := [(0, za_O 16 90), (1, za_I 4), (3, za_I y3_4)]) rfl ?_
            exact J_28 (1 : Int32) σ hz (h_11.resolve_left (by rw [c_16]; decide))
  refine zv_istore_n (lv' := [(3, za_I 0), (2, za_I 0), (0, za_O 16 90), (1, za_I 4)]) G dX0_thing_3 rfl (by decide) rfl ?_
  refine zv_sub [2, 3, 1, 0] (lv' := [(0, za_O 16 90), (1, za_I 4), (2, za_I 0), (3, za_I 0)]) rfl ?_
  exact J_4 _ (0 : Int32) (0 : Int32) σ hz (Nat.lt_succ_self _)
set_option maxHeartbeats 4000000 in
set_option maxRecDepth 100000 in
theorem zc_X0_product_at4 (l : Launch) (E : za_E) (mx : Int) (σ0 : za_S) (hp : 0 ≤ (σ0.1 90 3).toInt ∧ (σ0.1 90 3).toInt ≤ mx) (hm : 40 ≤ mx ∧ mx ≤ 44) : zMi l E yX0_product cX0_product 6 (Option.some Jvm.ClassFile.FieldType.int) 7 158 [za_O 16 90, za_I 4] σ0 (fun r σ' => zf mx σ0 σ') := by
  refine zMi_of [(0, za_O 16 90), (1, za_I 4)] (by decide) rfl rfl (Nat.le_of_ble_eq_true rfl) ?_
  intro ho p e s m args below meth c G hr
  refine zv_gen (R9 := zf mx σ0) ⟨zc_r σ0, hp⟩ (fun σ hz => ?_)
  refine zv_aload_n (j := 0) G dX0_product_0 rfl rfl ?_
  refine zv_iload_n (j := 1) G dX0_product_1 rfl rfl ?_
  refine zv_callVi (as := [za_I 4]) G (by decide) rfl rfl (zc_X0_thing_at4 l E mx σ hz.2 (by omega)) zk_X0_thing zm_920 rfl ⟨(Nat.le_of_ble_eq_true rfl), (Nat.le_of_ble_eq_true rfl)⟩ ⟨Nat.zero_le _, Nat.zero_le _⟩ (Nat.le_of_ble_eq_true rfl) dX0_product_2 (fun r_2 σ h_2 => ?_)
  have hz9 := h_2
  have hz := zf_t hz hz9
  refine zv_istore_n (lv' := [(2, za_I r_2), (0, za_O 16 90), (1, za_I 4)]) G dX0_product_5 rfl (by decide) rfl ?_
  refine zv_iconst (v := 0) G dX0_product_6 (by decide) ?_
  have J_8 : ∀ (n : Nat) (y2_8 : Int32) (y3_8 : Int32) (σ : za_S) (hz : zf mx σ0 σ) (hn_8 : (2147483648 - y3_8.toInt).toNat < n), zV p l e (zRm 7 158) s m args below meth c E (za_A E) 6 0 0 (MQ below (va_Qi (fun r σ' => zf mx σ0 σ') (zB E) (za_A E)) args s 0 0 (za_A E)) 8 [(0, za_O 16 90), (1, za_I 4), (2, za_I y2_8), (3, za_I y3_8)] [] σ := by
    intro n
    induction n with
    | zero => intro y2_8 y3_8 σ hz hn; exact absurd hn (Nat.not_lt_zero _)
    | succ n ih_8 =>
      intro y2_8 y3_8 σ hz hn_8
      refine zv_iload_n (j := 3) G dX0_product_8 rfl rfl ?_
      refine zv_bipush (v := 40) G dX0_product_9 (by decide) ?_
      refine zv_icmp_ge (tgt := 97) G dX0_product_11 (by decide) (fun c_11 => ?_) (fun c_11 => ?_)
      · refine zv_iload_n (j := 2) G dX0_product_97 rfl rfl ?_
        exact zv_iret G hr dX0_product_98 hz
      · refine zv_aload_n (j := 0) G dX0_product_14 rfl rfl ?_
        refine zv_callVi (as := []) G (by decide) rfl rfl (zc_X0_peek l E  σ hz.2.1) zk_X0_peek zm_924 rfl ⟨(Nat.le_of_ble_eq_true rfl), (Nat.le_of_ble_eq_true rfl)⟩ ⟨Nat.zero_le _, Nat.zero_le _⟩ (Nat.le_of_ble_eq_true rfl) dX0_product_15 (fun r_15 σ h_15 => ?_)
        obtain ⟨h_15, rfl⟩ := h_15
        refine zv_bipush (v := 42) G dX0_product_18 (by decide) ?_
        have J_32 : ∀  (σ : za_S) (hz : zf mx σ0 σ) (q_32 : (σ.1 90 3).toInt < 40), zV p l e (zRm 7 158) s m args below meth c E (za_A E) 6 0 0 (MQ below (va_Qi (fun r σ' => zf mx σ0 σ') (zB E) (za_A E)) args s 0 0 (za_A E)) 32 [(0, za_O 16 90), (1, za_I 4), (2, za_I y2_8), (3, za_I y3_8)] [] σ := by
          intro σ hz q_32
          refine zv_aload_n (j := 0) G dX0_product_32 rfl rfl ?_
          refine zv_callVi (as := []) G (by decide) rfl rfl (zc_X0_peek l E  σ hz.2.1) zk_X0_peek zm_924 rfl ⟨(Nat.le_of_ble_eq_true rfl), (Nat.le_of_ble_eq_true rfl)⟩ ⟨Nat.zero_le _, Nat.zero_le _⟩ (Nat.le_of_ble_eq_true rfl) dX0_product_33 (fun r_33 σ h_33 => ?_)
          obtain ⟨h_33, rfl⟩ := h_33
          refine zv_bipush (v := 42) G dX0_product_36 (by decide) ?_
          have J_46 : ∀ (s0_46 : Int32) (σ : za_S) (hz : zf mx σ0 σ) (q_46 : (σ.1 90 3).toInt < 40), zV p l e (zRm 7 158) s m args below meth c E (za_A E) 6 0 0 (MQ below (va_Qi (fun r σ' => zf mx σ0 σ') (zB E) (za_A E)) args s 0 0 (za_A E)) 46 [(0, za_O 16 90), (1, za_I 4), (2, za_I y2_8), (3, za_I y3_8)] [za_I s0_46] σ := by
            intro s0_46 σ hz q_46
            refine zv_istore (lv' := [(4, za_I s0_46), (0, za_O 16 90), (1, za_I 4), (2, za_I y2_8), (3, za_I y3_8)]) G dX0_product_46 (by decide) rfl ?_
            refine zv_aload_n (j := 1) G dX0_product_48 rfl rfl ?_
            refine zv_dupO G dX0_product_49 ?_
            refine zg_X0_45 G dX0_product_50 ?_
            refine zv_iconst (v := 1) G dX0_product_53 (by decide) ?_
            refine zv_iadd G dX0_product_54 ?_
            refine zp_X0_45 G dX0_product_55 ?_
            refine zv_gen (R9 := zf mx σ0) (zf_inc hz q_46 (by decide) (by omega)) (fun σ hz => ?_)
            refine zv_aload_n (j := 1) G dX0_product_58 rfl rfl ?_
            refine zv_iload_n (j := 2) G dX0_product_59 rfl rfl ?_
            refine zv_callVi (as := [za_I 4]) G (by decide) rfl rfl (zc_X0_thing_at4 l E mx σ hz.2 (by omega)) zk_X0_thing zm_920 rfl ⟨(Nat.le_of_ble_eq_true rfl), (Nat.le_of_ble_eq_true rfl)⟩ ⟨Nat.zero_le _, Nat.zero_le _⟩ (Nat.le_of_ble_eq_true rfl) dX0_product_60 (fun r_60 σ h_60 => ?_)
            have hz9 := h_60
            have hz := zf_t hz hz9
            refine zv_istore (lv' := [(5, za_I r_60), (4, za_I s0_46), (0, za_O 16 90), (1, za_I 4), (2, za_I y2_8), (3, za_I y3_8)]) G dX0_product_63 (by decide) rfl ?_
            refine zv_iload (j := 1) G dX0_product_65 rfl ?_
            refine zv_if_eq (tgt := 77) G dX0_product_67 (by decide) (fun c_67 => ?_) (fun c_67 => ?_)
            · refine zv_iload (j := 0) G dX0_product_77 rfl ?_
              refine zv_if_ne (tgt := 86) G dX0_product_79 (by decide) (fun c_79 => ?_) (fun c_79 => ?_)
              · refine zv_iload_n (j := 4) G dX0_product_86 rfl rfl ?_
                refine zv_iload (j := 0) G dX0_product_87 rfl ?_
                refine zv_idiv G dX0_product_89 c_79 ?_
                refine zv_top (fun x_90 e_90 => ?_)
                refine zv_istore_n (lv' := [(2, za_I x_90), (5, za_I r_60), (4, za_I s0_46), (0, za_O 16 90), (1, za_I 4), (3, za_I y3_8)]) G dX0_product_90 rfl (by decide) rfl ?_
                obtain ⟨x_91, e_91⟩ : ∃ y : Int32, y = y3_8 + 1 := ⟨_, rfl⟩
                refine zv_iinc (j := 5) (v := x_91) (lv' := [(3, za_I x_91), (2, za_I x_90), (5, za_I r_60), (4, za_I s0_46), (0, za_O 16 90), (1, za_I 4)]) G dX0_product_91 rfl (by rw [e_91]; rfl) (by decide) rfl ?_
                refine zv_goto (tgt := 8) G dX0_product_94 (by decide) ?_
                refine zv_sub [4, 5, 1, 0] (lv' := [(0, za_O 16 90), (1, za_I 4), (2, za_I x_90), (3, za_I x_91)]) rfl ?_
                exact ih_8 x_90 x_91 σ hz (z_meas c_11 e_91 hn_8)
              · refine zv_iconst (v := 0) G dX0_product_82 (by decide) ?_
                refine zv_goto (tgt := 90) G dX0_product_83 (by decide) ?_
                refine zv_istore_n (lv' := [(2, za_I 0), (5, za_I r_60), (4, za_I s0_46), (0, za_O 16 90), (1, za_I 4), (3, za_I y3_8)]) G dX0_product_90 rfl (by decide) rfl ?_
                obtain ⟨x_91, e_91⟩ : ∃ y : Int32, y = y3_8 + 1 := ⟨_, rfl⟩
                refine zv_iinc (j := 5) (v := x_91) (lv' := [(3, za_I x_91), (2, za_I 0), (5, za_I r_60), (4, za_I s0_46), (0, za_O 16 90), (1, za_I 4)]) G dX0_product_91 rfl (by rw [e_91]; rfl) (by decide) rfl ?_
                refine zv_goto (tgt := 8) G dX0_product_94 (by decide) ?_
                refine zv_sub [4, 5, 1, 0] (lv' := [(0, za_O 16 90), (1, za_I 4), (2, za_I 0), (3, za_I x_91)]) rfl ?_
                exact ih_8 (0 : Int32) x_91 σ hz (z_meas c_11 e_91 hn_8)
            · refine zv_iload_n (j := 4) G dX0_product_70 rfl rfl ?_
              refine zv_iload (j := 0) G dX0_product_71 rfl ?_
              refine zv_imul G dX0_product_73 ?_
              refine zv_goto (tgt := 90) G dX0_product_74 (by decide) ?_
              refine zv_top (fun x_90 e_90 => ?_)
              refine zv_istore_n (lv' := [(2, za_I x_90), (5, za_I r_60), (4, za_I s0_46), (0, za_O 16 90), (1, za_I 4), (3, za_I y3_8)]) G dX0_product_90 rfl (by decide) rfl ?_
              obtain ⟨x_91, e_91⟩ : ∃ y : Int32, y = y3_8 + 1 := ⟨_, rfl⟩
              refine zv_iinc (j := 5) (v := x_91) (lv' := [(3, za_I x_91), (2, za_I x_90), (5, za_I r_60), (4, za_I s0_46), (0, za_O 16 90), (1, za_I 4)]) G dX0_product_91 rfl (by rw [e_91]; rfl) (by decide) rfl ?_
              refine zv_goto (tgt := 8) G dX0_product_94 (by decide) ?_
              refine zv_sub [4, 5, 1, 0] (lv' := [(0, za_O 16 90), (1, za_I 4), (2, za_I x_90), (3, za_I x_91)]) rfl ?_
              exact ih_8 x_90 x_91 σ hz (z_meas c_11 e_91 hn_8)
          refine zv_icmp_ne (tgt := 45) G dX0_product_38 (by decide) (fun c_38 => ?_) (fun c_38 => ?_)
          · refine zv_iconst (v := 0) G dX0_product_45 (by decide) ?_
            refine zv_sub [0, 1, 2, 3] (lv' := [(0, za_O 16 90), (1, za_I 4), (2, za_I y2_8), (3, za_I y3_8)]) rfl ?_
            exact J_46 (0 : Int32) σ hz q_32
          · refine zv_iconst (v := 1) G dX0_product_41 (by decide) ?_
            refine zv_goto (tgt := 46) G dX0_product_42 (by decide) ?_
            refine zv_sub [0, 1, 2, 3] (lv' := [(0, za_O 16 90), (1, za_I 4), (2, za_I y2_8), (3, za_I y3_8)]) rfl ?_
            exact J_46 (1 : Int32) σ hz q_32
        refine zv_icmp_eq (tgt := 32) G dX0_product_20 (by decide) (fun c_20 => ?_) (fun c_20 => ?_)
        · refine zv_sub [0, 1, 2, 3] (lv' := [(0, za_O 16 90), (1, za_I 4), (2, za_I y2_8), (3, za_I y3_8)]) rfl ?_
          exact J_32 σ hz (by first | exact h_24.resolve_left (by rw [c_29]; decide) | exact h_15.resolve_left (by rw [c_20]; decide))
        · refine zv_aload_n (j := 0) G dX0_product_23 rfl rfl ?_
          refine zv_callVi (as := []) G (by decide) rfl rfl (zc_X0_peek l E  σ hz.2.1) zk_X0_peek zm_924 rfl ⟨(Nat.le_of_ble_eq_true rfl), (Nat.le_of_ble_eq_true rfl)⟩ ⟨Nat.zero_le _, Nat.zero_le _⟩ (Nat.le_of_ble_eq_true rfl) dX0_product_24 (fun r_24 σ h_24 => ?_)
          obtain ⟨h_24, rfl⟩ := h_24
          refine zv_bipush (v := 47) G dX0_product_27 (by decide) ?_
          refine zv_icmp_ne (tgt := 97) G dX0_product_29 (by decide) (fun c_29 => ?_) (fun c_29 => ?_)
          · refine zv_iload_n (j := 2) G dX0_product_97 rfl rfl ?_
            exact zv_iret G hr dX0_product_98 hz
          · refine zv_sub [0, 1, 2, 3] (lv' := [(0, za_O 16 90), (1, za_I 4), (2, za_I y2_8), (3, za_I y3_8)]) rfl ?_
            exact J_32 σ hz (by first | exact h_24.resolve_left (by rw [c_29]; decide) | exact h_15.resolve_left (by rw [c_20]; decide))
  refine zv_istore_n (lv' := [(3, za_I 0), (2, za_I r_2), (0, za_O 16 90), (1, za_I 4)]) G dX0_product_7 rfl (by decide) rfl ?_
  refine zv_sub [2, 3, 1, 0] (lv' := [(0, za_O 16 90), (1, za_I 4), (2, za_I r_2), (3, za_I 0)]) rfl ?_
  exact J_8 _ r_2 (0 : Int32) σ hz (Nat.lt_succ_self _)
set_option maxHeartbeats 4000000 in
set_option maxRecDepth 100000 in
theorem zc_X0_sum_at4 (l : Launch) (E : za_E) (mx : Int) (σ0 : za_S) (hp : 0 ≤ (σ0.1 90 3).toInt ∧ (σ0.1 90 3).toInt ≤ mx) (hm : 40 ≤ mx ∧ mx ≤ 44) : zMi l E yX0_sum cX0_sum 6 (Option.some Jvm.ClassFile.FieldType.int) 8 183 [za_O 16 90, za_I 4] σ0 (fun r σ' => zf mx σ0 σ') := by
  refine zMi_of [(0, za_O 16 90), (1, za_I 4)] (by decide) rfl rfl (Nat.le_of_ble_eq_true rfl) ?_
  intro ho p e s m args below meth c G hr
  refine zv_gen (R9 := zf mx σ0) ⟨zc_r σ0, hp⟩ (fun σ hz => ?_)
  refine zv_aload_n (j := 0) G dX0_sum_0 rfl rfl ?_
  refine zv_iload_n (j := 1) G dX0_sum_1 rfl rfl ?_
  refine zv_callVi (as := [za_I 4]) G (by decide) rfl rfl (zc_X0_product_at4 l E mx σ hz.2 (by omega)) zk_X0_product zm_916 rfl ⟨(Nat.le_of_ble_eq_true rfl), (Nat.le_of_ble_eq_true rfl)⟩ ⟨Nat.zero_le _, Nat.zero_le _⟩ (Nat.le_of_ble_eq_true rfl) dX0_sum_2 (fun r_2 σ h_2 => ?_)
  have hz9 := h_2
  have hz := zf_t hz hz9
  refine zv_istore_n (lv' := [(2, za_I r_2), (0, za_O 16 90), (1, za_I 4)]) G dX0_sum_5 rfl (by decide) rfl ?_
  refine zv_iconst (v := 0) G dX0_sum_6 (by decide) ?_
  have J_8 : ∀ (n : Nat) (y2_8 : Int32) (y3_8 : Int32) (σ : za_S) (hz : zf mx σ0 σ) (hn_8 : (2147483648 - y3_8.toInt).toNat < n), zV p l e (zRm 8 183) s m args below meth c E (za_A E) 6 0 0 (MQ below (va_Qi (fun r σ' => zf mx σ0 σ') (zB E) (za_A E)) args s 0 0 (za_A E)) 8 [(0, za_O 16 90), (1, za_I 4), (2, za_I y2_8), (3, za_I y3_8)] [] σ := by
    intro n
    induction n with
    | zero => intro y2_8 y3_8 σ hz hn; exact absurd hn (Nat.not_lt_zero _)
    | succ n ih_8 =>
      intro y2_8 y3_8 σ hz hn_8
      refine zv_iload_n (j := 3) G dX0_sum_8 rfl rfl ?_
      refine zv_bipush (v := 40) G dX0_sum_9 (by decide) ?_
      refine zv_icmp_ge (tgt := 88) G dX0_sum_11 (by decide) (fun c_11 => ?_) (fun c_11 => ?_)
      · refine zv_iload_n (j := 2) G dX0_sum_88 rfl rfl ?_
        exact zv_iret G hr dX0_sum_89 hz
      · refine zv_aload_n (j := 0) G dX0_sum_14 rfl rfl ?_
        refine zv_callVi (as := []) G (by decide) rfl rfl (zc_X0_peek l E  σ hz.2.1) zk_X0_peek zm_924 rfl ⟨(Nat.le_of_ble_eq_true rfl), (Nat.le_of_ble_eq_true rfl)⟩ ⟨Nat.zero_le _, Nat.zero_le _⟩ (Nat.le_of_ble_eq_true rfl) dX0_sum_15 (fun r_15 σ h_15 => ?_)
        obtain ⟨h_15, rfl⟩ := h_15
        refine zv_bipush (v := 43) G dX0_sum_18 (by decide) ?_
        have J_32 : ∀  (σ : za_S) (hz : zf mx σ0 σ) (q_32 : (σ.1 90 3).toInt < 40), zV p l e (zRm 8 183) s m args below meth c E (za_A E) 6 0 0 (MQ below (va_Qi (fun r σ' => zf mx σ0 σ') (zB E) (za_A E)) args s 0 0 (za_A E)) 32 [(0, za_O 16 90), (1, za_I 4), (2, za_I y2_8), (3, za_I y3_8)] [] σ := by
          intro σ hz q_32
          refine zv_aload_n (j := 0) G dX0_sum_32 rfl rfl ?_
          refine zv_callVi (as := []) G (by decide) rfl rfl (zc_X0_peek l E  σ hz.2.1) zk_X0_peek zm_924 rfl ⟨(Nat.le_of_ble_eq_true rfl), (Nat.le_of_ble_eq_true rfl)⟩ ⟨Nat.zero_le _, Nat.zero_le _⟩ (Nat.le_of_ble_eq_true rfl) dX0_sum_33 (fun r_33 σ h_33 => ?_)
          obtain ⟨h_33, rfl⟩ := h_33
          refine zv_bipush (v := 43) G dX0_sum_36 (by decide) ?_
          have J_46 : ∀ (s0_46 : Int32) (σ : za_S) (hz : zf mx σ0 σ) (q_46 : (σ.1 90 3).toInt < 40), zV p l e (zRm 8 183) s m args below meth c E (za_A E) 6 0 0 (MQ below (va_Qi (fun r σ' => zf mx σ0 σ') (zB E) (za_A E)) args s 0 0 (za_A E)) 46 [(0, za_O 16 90), (1, za_I 4), (2, za_I y2_8), (3, za_I y3_8)] [za_I s0_46] σ := by
            intro s0_46 σ hz q_46
            refine zv_istore (lv' := [(4, za_I s0_46), (0, za_O 16 90), (1, za_I 4), (2, za_I y2_8), (3, za_I y3_8)]) G dX0_sum_46 (by decide) rfl ?_
            refine zv_aload_n (j := 1) G dX0_sum_48 rfl rfl ?_
            refine zv_dupO G dX0_sum_49 ?_
            refine zg_X0_45 G dX0_sum_50 ?_
            refine zv_iconst (v := 1) G dX0_sum_53 (by decide) ?_
            refine zv_iadd G dX0_sum_54 ?_
            refine zp_X0_45 G dX0_sum_55 ?_
            refine zv_gen (R9 := zf mx σ0) (zf_inc hz q_46 (by decide) (by omega)) (fun σ hz => ?_)
            refine zv_aload_n (j := 1) G dX0_sum_58 rfl rfl ?_
            refine zv_iload_n (j := 2) G dX0_sum_59 rfl rfl ?_
            refine zv_callVi (as := [za_I 4]) G (by decide) rfl rfl (zc_X0_product_at4 l E mx σ hz.2 (by omega)) zk_X0_product zm_916 rfl ⟨(Nat.le_of_ble_eq_true rfl), (Nat.le_of_ble_eq_true rfl)⟩ ⟨Nat.zero_le _, Nat.zero_le _⟩ (Nat.le_of_ble_eq_true rfl) dX0_sum_60 (fun r_60 σ h_60 => ?_)
            have hz9 := h_60
            have hz := zf_t hz hz9
            refine zv_istore (lv' := [(5, za_I r_60), (4, za_I s0_46), (0, za_O 16 90), (1, za_I 4), (2, za_I y2_8), (3, za_I y3_8)]) G dX0_sum_63 (by decide) rfl ?_
            refine zv_iload (j := 1) G dX0_sum_65 rfl ?_
            refine zv_if_eq (tgt := 77) G dX0_sum_67 (by decide) (fun c_67 => ?_) (fun c_67 => ?_)
            · refine zv_iload_n (j := 4) G dX0_sum_77 rfl rfl ?_
              refine zv_iload (j := 0) G dX0_sum_78 rfl ?_
              refine zv_isub G dX0_sum_80 ?_
              refine zv_top (fun x_81 e_81 => ?_)
              refine zv_istore_n (lv' := [(2, za_I x_81), (5, za_I r_60), (4, za_I s0_46), (0, za_O 16 90), (1, za_I 4), (3, za_I y3_8)]) G dX0_sum_81 rfl (by decide) rfl ?_
              obtain ⟨x_82, e_82⟩ : ∃ y : Int32, y = y3_8 + 1 := ⟨_, rfl⟩
              refine zv_iinc (j := 5) (v := x_82) (lv' := [(3, za_I x_82), (2, za_I x_81), (5, za_I r_60), (4, za_I s0_46), (0, za_O 16 90), (1, za_I 4)]) G dX0_sum_82 rfl (by rw [e_82]; rfl) (by decide) rfl ?_
              refine zv_goto (tgt := 8) G dX0_sum_85 (by decide) ?_
              refine zv_sub [4, 5, 1, 0] (lv' := [(0, za_O 16 90), (1, za_I 4), (2, za_I x_81), (3, za_I x_82)]) rfl ?_
              exact ih_8 x_81 x_82 σ hz (z_meas c_11 e_82 hn_8)
            · refine zv_iload_n (j := 4) G dX0_sum_70 rfl rfl ?_
              refine zv_iload (j := 0) G dX0_sum_71 rfl ?_
              refine zv_iadd G dX0_sum_73 ?_
              refine zv_goto (tgt := 81) G dX0_sum_74 (by decide) ?_
              refine zv_top (fun x_81 e_81 => ?_)
              refine zv_istore_n (lv' := [(2, za_I x_81), (5, za_I r_60), (4, za_I s0_46), (0, za_O 16 90), (1, za_I 4), (3, za_I y3_8)]) G dX0_sum_81 rfl (by decide) rfl ?_
              obtain ⟨x_82, e_82⟩ : ∃ y : Int32, y = y3_8 + 1 := ⟨_, rfl⟩
              refine zv_iinc (j := 5) (v := x_82) (lv' := [(3, za_I x_82), (2, za_I x_81), (5, za_I r_60), (4, za_I s0_46), (0, za_O 16 90), (1, za_I 4)]) G dX0_sum_82 rfl (by rw [e_82]; rfl) (by decide) rfl ?_
              refine zv_goto (tgt := 8) G dX0_sum_85 (by decide) ?_
              refine zv_sub [4, 5, 1, 0] (lv' := [(0, za_O 16 90), (1, za_I 4), (2, za_I x_81), (3, za_I x_82)]) rfl ?_
              exact ih_8 x_81 x_82 σ hz (z_meas c_11 e_82 hn_8)
          refine zv_icmp_ne (tgt := 45) G dX0_sum_38 (by decide) (fun c_38 => ?_) (fun c_38 => ?_)
          · refine zv_iconst (v := 0) G dX0_sum_45 (by decide) ?_
            refine zv_sub [0, 1, 2, 3] (lv' := [(0, za_O 16 90), (1, za_I 4), (2, za_I y2_8), (3, za_I y3_8)]) rfl ?_
            exact J_46 (0 : Int32) σ hz q_32
          · refine zv_iconst (v := 1) G dX0_sum_41 (by decide) ?_
            refine zv_goto (tgt := 46) G dX0_sum_42 (by decide) ?_
            refine zv_sub [0, 1, 2, 3] (lv' := [(0, za_O 16 90), (1, za_I 4), (2, za_I y2_8), (3, za_I y3_8)]) rfl ?_
            exact J_46 (1 : Int32) σ hz q_32
        refine zv_icmp_eq (tgt := 32) G dX0_sum_20 (by decide) (fun c_20 => ?_) (fun c_20 => ?_)
        · refine zv_sub [0, 1, 2, 3] (lv' := [(0, za_O 16 90), (1, za_I 4), (2, za_I y2_8), (3, za_I y3_8)]) rfl ?_
          exact J_32 σ hz (by first | exact h_24.resolve_left (by rw [c_29]; decide) | exact h_15.resolve_left (by rw [c_20]; decide))
        · refine zv_aload_n (j := 0) G dX0_sum_23 rfl rfl ?_
          refine zv_callVi (as := []) G (by decide) rfl rfl (zc_X0_peek l E  σ hz.2.1) zk_X0_peek zm_924 rfl ⟨(Nat.le_of_ble_eq_true rfl), (Nat.le_of_ble_eq_true rfl)⟩ ⟨Nat.zero_le _, Nat.zero_le _⟩ (Nat.le_of_ble_eq_true rfl) dX0_sum_24 (fun r_24 σ h_24 => ?_)
          obtain ⟨h_24, rfl⟩ := h_24
          refine zv_bipush (v := 45) G dX0_sum_27 (by decide) ?_
          refine zv_icmp_ne (tgt := 88) G dX0_sum_29 (by decide) (fun c_29 => ?_) (fun c_29 => ?_)
          · refine zv_iload_n (j := 2) G dX0_sum_88 rfl rfl ?_
            exact zv_iret G hr dX0_sum_89 hz
          · refine zv_sub [0, 1, 2, 3] (lv' := [(0, za_O 16 90), (1, za_I 4), (2, za_I y2_8), (3, za_I y3_8)]) rfl ?_
            exact J_32 σ hz (by first | exact h_24.resolve_left (by rw [c_29]; decide) | exact h_15.resolve_left (by rw [c_20]; decide))
  refine zv_istore_n (lv' := [(3, za_I 0), (2, za_I r_2), (0, za_O 16 90), (1, za_I 4)]) G dX0_sum_7 rfl (by decide) rfl ?_
  refine zv_sub [2, 3, 1, 0] (lv' := [(0, za_O 16 90), (1, za_I 4), (2, za_I r_2), (3, za_I 0)]) rfl ?_
  exact J_8 _ r_2 (0 : Int32) σ hz (Nat.lt_succ_self _)
set_option maxHeartbeats 4000000 in
set_option maxRecDepth 100000 in
theorem zc_X0_comparison_at4 (l : Launch) (E : za_E) (mx : Int) (σ0 : za_S) (hp : 0 ≤ (σ0.1 90 3).toInt ∧ (σ0.1 90 3).toInt ≤ mx) (hm : 40 ≤ mx ∧ mx ≤ 44) : zMi l E yX0_comparison cX0_comparison 6 (Option.some Jvm.ClassFile.FieldType.int) 9 208 [za_O 16 90, za_I 4] σ0 (fun r σ' => zf mx σ0 σ') := by
  refine zMi_of [(0, za_O 16 90), (1, za_I 4)] (by decide) rfl rfl (Nat.le_of_ble_eq_true rfl) ?_
  intro ho p e s m args below meth c G hr
  refine zv_gen (R9 := zf mx σ0) ⟨zc_r σ0, hp⟩ (fun σ hz => ?_)
  refine zv_aload_n (j := 0) G dX0_comparison_0 rfl rfl ?_
  refine zv_iload_n (j := 1) G dX0_comparison_1 rfl rfl ?_
  refine zv_callVi (as := [za_I 4]) G (by decide) rfl rfl (zc_X0_sum_at4 l E mx σ hz.2 (by omega)) zk_X0_sum zm_912 rfl ⟨(Nat.le_of_ble_eq_true rfl), (Nat.le_of_ble_eq_true rfl)⟩ ⟨Nat.zero_le _, Nat.zero_le _⟩ (Nat.le_of_ble_eq_true rfl) dX0_comparison_2 (fun r_2 σ h_2 => ?_)
  have hz9 := h_2
  have hz := zf_t hz hz9
  refine zv_istore_n (lv' := [(2, za_I r_2), (0, za_O 16 90), (1, za_I 4)]) G dX0_comparison_5 rfl (by decide) rfl ?_
  refine zv_aload_n (j := 1) G dX0_comparison_6 rfl rfl ?_
  refine zv_callVi (as := []) G (by decide) rfl rfl (zc_X0_peek l E  σ hz.2.1) zk_X0_peek zm_924 rfl ⟨(Nat.le_of_ble_eq_true rfl), (Nat.le_of_ble_eq_true rfl)⟩ ⟨Nat.zero_le _, Nat.zero_le _⟩ (Nat.le_of_ble_eq_true rfl) dX0_comparison_7 (fun r_7 σ h_7 => ?_)
  obtain ⟨h_7, rfl⟩ := h_7
  refine zv_istore_n (lv' := [(3, za_I r_7), (2, za_I r_2), (0, za_O 16 90), (1, za_I 4)]) G dX0_comparison_10 rfl (by decide) rfl ?_
  refine zv_iload_n (j := 0) G dX0_comparison_11 rfl rfl ?_
  refine zv_bipush (v := 60) G dX0_comparison_12 (by decide) ?_
  have J_31 : ∀  (σ : za_S) (hz : zf mx σ0 σ) (q_31 : (σ.1 90 3).toInt < 40), zV p l e (zRm 9 208) s m args below meth c E (za_A E) 6 0 0 (MQ below (va_Qi (fun r σ' => zf mx σ0 σ') (zB E) (za_A E)) args s 0 0 (za_A E)) 31 [(0, za_O 16 90), (1, za_I 4), (2, za_I r_2), (3, za_I r_7)] [] σ := by
    intro σ hz q_31
    refine zv_aload_n (j := 0) G dX0_comparison_31 rfl rfl ?_
    refine zv_dupO G dX0_comparison_32 ?_
    refine zg_X0_45 G dX0_comparison_33 ?_
    refine zv_iconst (v := 1) G dX0_comparison_36 (by decide) ?_
    refine zv_iadd G dX0_comparison_37 ?_
    refine zp_X0_45 G dX0_comparison_38 ?_
    refine zv_gen (R9 := zf mx σ0) (zf_inc hz q_31 (by decide) (by omega)) (fun σ hz => ?_)
    refine zv_aload_n (j := 0) G dX0_comparison_41 rfl rfl ?_
    refine zv_iload_n (j := 1) G dX0_comparison_42 rfl rfl ?_
    refine zv_callVi (as := [za_I 4]) G (by decide) rfl rfl (zc_X0_sum_at4 l E mx σ hz.2 (by omega)) zk_X0_sum zm_912 rfl ⟨(Nat.le_of_ble_eq_true rfl), (Nat.le_of_ble_eq_true rfl)⟩ ⟨Nat.zero_le _, Nat.zero_le _⟩ (Nat.le_of_ble_eq_true rfl) dX0_comparison_43 (fun r_43 σ h_43 => ?_)
    have hz9 := h_43
    have hz := zf_t hz hz9
    refine zv_istore (lv' := [(4, za_I r_43), (0, za_O 16 90), (1, za_I 4), (2, za_I r_2), (3, za_I r_7)]) G dX0_comparison_46 (by decide) rfl ?_
    refine zv_iload_n (j := 4) G dX0_comparison_48 rfl rfl ?_
    refine zv_bipush (v := 60) G dX0_comparison_49 (by decide) ?_
    refine zv_icmp_ne (tgt := 68) G dX0_comparison_51 (by decide) (fun c_51 => ?_) (fun c_51 => ?_)
    · refine zv_iload_n (j := 4) G dX0_comparison_68 rfl rfl ?_
      refine zv_bipush (v := 62) G dX0_comparison_69 (by decide) ?_
      refine zv_icmp_ne (tgt := 88) G dX0_comparison_71 (by decide) (fun c_71 => ?_) (fun c_71 => ?_)
      · refine zv_iload_n (j := 3) G dX0_comparison_88 rfl rfl ?_
        refine zv_iload (j := 0) G dX0_comparison_89 rfl ?_
        refine zv_icmp_ne (tgt := 98) G dX0_comparison_91 (by decide) (fun c_91 => ?_) (fun c_91 => ?_)
        · refine zv_iconst (v := 0) G dX0_comparison_98 (by decide) ?_
          refine zv_istore (lv' := [(5, za_I 0), (4, za_I r_43), (0, za_O 16 90), (1, za_I 4), (2, za_I r_2), (3, za_I r_7)]) G dX0_comparison_99 (by decide) rfl ?_
          refine zv_iload (j := 0) G dX0_comparison_101 rfl ?_
          refine zv_if_eq (tgt := 110) G dX0_comparison_103 (by decide) (fun c_103 => ?_) (fun c_103 => ?_)
          · refine zv_iconst (v := 0) G dX0_comparison_110 (by decide) ?_
            exact zv_iret G hr dX0_comparison_111 hz
          · exact absurd c_103 (by decide)
        · refine zv_iconst (v := 1) G dX0_comparison_94 (by decide) ?_
          refine zv_goto (tgt := 99) G dX0_comparison_95 (by decide) ?_
          refine zv_istore (lv' := [(5, za_I 1), (4, za_I r_43), (0, za_O 16 90), (1, za_I 4), (2, za_I r_2), (3, za_I r_7)]) G dX0_comparison_99 (by decide) rfl ?_
          refine zv_iload (j := 0) G dX0_comparison_101 rfl ?_
          refine zv_if_eq (tgt := 110) G dX0_comparison_103 (by decide) (fun c_103 => ?_) (fun c_103 => ?_)
          · exact absurd c_103 (by decide)
          · refine zv_iconst (v := 1) G dX0_comparison_106 (by decide) ?_
            refine zv_goto (tgt := 111) G dX0_comparison_107 (by decide) ?_
            exact zv_iret G hr dX0_comparison_111 hz
      · refine zv_iload_n (j := 3) G dX0_comparison_74 rfl rfl ?_
        refine zv_iload (j := 0) G dX0_comparison_75 rfl ?_
        refine zv_icmp_le (tgt := 84) G dX0_comparison_77 (by decide) (fun c_77 => ?_) (fun c_77 => ?_)
        · refine zv_iconst (v := 0) G dX0_comparison_84 (by decide) ?_
          refine zv_goto (tgt := 99) G dX0_comparison_85 (by decide) ?_
          refine zv_istore (lv' := [(5, za_I 0), (4, za_I r_43), (0, za_O 16 90), (1, za_I 4), (2, za_I r_2), (3, za_I r_7)]) G dX0_comparison_99 (by decide) rfl ?_
          refine zv_iload (j := 0) G dX0_comparison_101 rfl ?_
          refine zv_if_eq (tgt := 110) G dX0_comparison_103 (by decide) (fun c_103 => ?_) (fun c_103 => ?_)
          · refine zv_iconst (v := 0) G dX0_comparison_110 (by decide) ?_
            exact zv_iret G hr dX0_comparison_111 hz
          · exact absurd c_103 (by decide)
        · refine zv_iconst (v := 1) G dX0_comparison_80 (by decide) ?_
          refine zv_goto (tgt := 99) G dX0_comparison_81 (by decide) ?_
          refine zv_istore (lv' := [(5, za_I 1), (4, za_I r_43), (0, za_O 16 90), (1, za_I 4), (2, za_I r_2), (3, za_I r_7)]) G dX0_comparison_99 (by decide) rfl ?_
          refine zv_iload (j := 0) G dX0_comparison_101 rfl ?_
          refine zv_if_eq (tgt := 110) G dX0_comparison_103 (by decide) (fun c_103 => ?_) (fun c_103 => ?_)
          · exact absurd c_103 (by decide)
          · refine zv_iconst (v := 1) G dX0_comparison_106 (by decide) ?_
            refine zv_goto (tgt := 111) G dX0_comparison_107 (by decide) ?_
            exact zv_iret G hr dX0_comparison_111 hz
    · refine zv_iload_n (j := 3) G dX0_comparison_54 rfl rfl ?_
      refine zv_iload (j := 0) G dX0_comparison_55 rfl ?_
      refine zv_icmp_ge (tgt := 64) G dX0_comparison_57 (by decide) (fun c_57 => ?_) (fun c_57 => ?_)
      · refine zv_iconst (v := 0) G dX0_comparison_64 (by decide) ?_
        refine zv_goto (tgt := 99) G dX0_comparison_65 (by decide) ?_
        refine zv_istore (lv' := [(5, za_I 0), (4, za_I r_43), (0, za_O 16 90), (1, za_I 4), (2, za_I r_2), (3, za_I r_7)]) G dX0_comparison_99 (by decide) rfl ?_
        refine zv_iload (j := 0) G dX0_comparison_101 rfl ?_
        refine zv_if_eq (tgt := 110) G dX0_comparison_103 (by decide) (fun c_103 => ?_) (fun c_103 => ?_)
        · refine zv_iconst (v := 0) G dX0_comparison_110 (by decide) ?_
          exact zv_iret G hr dX0_comparison_111 hz
        · exact absurd c_103 (by decide)
      · refine zv_iconst (v := 1) G dX0_comparison_60 (by decide) ?_
        refine zv_goto (tgt := 99) G dX0_comparison_61 (by decide) ?_
        refine zv_istore (lv' := [(5, za_I 1), (4, za_I r_43), (0, za_O 16 90), (1, za_I 4), (2, za_I r_2), (3, za_I r_7)]) G dX0_comparison_99 (by decide) rfl ?_
        refine zv_iload (j := 0) G dX0_comparison_101 rfl ?_
        refine zv_if_eq (tgt := 110) G dX0_comparison_103 (by decide) (fun c_103 => ?_) (fun c_103 => ?_)
        · exact absurd c_103 (by decide)
        · refine zv_iconst (v := 1) G dX0_comparison_106 (by decide) ?_
          refine zv_goto (tgt := 111) G dX0_comparison_107 (by decide) ?_
          exact zv_iret G hr dX0_comparison_111 hz
  refine zv_icmp_eq (tgt := 31) G dX0_comparison_14 (by decide) (fun c_14 => ?_) (fun c_14 => ?_)
  · refine zv_sub [2, 3, 1, 0] (lv' := [(0, za_O 16 90), (1, za_I 4), (2, za_I r_2), (3, za_I r_7)]) rfl ?_
    exact J_31 σ hz (by first | exact h_7.resolve_left (by rw [c_26]; decide) | exact h_7.resolve_left (by rw [c_20]; decide) | exact h_7.resolve_left (by rw [c_14]; decide))
  · refine zv_iload_n (j := 0) G dX0_comparison_17 rfl rfl ?_
    refine zv_bipush (v := 62) G dX0_comparison_18 (by decide) ?_
    refine zv_icmp_eq (tgt := 31) G dX0_comparison_20 (by decide) (fun c_20 => ?_) (fun c_20 => ?_)
    · refine zv_sub [2, 3, 1, 0] (lv' := [(0, za_O 16 90), (1, za_I 4), (2, za_I r_2), (3, za_I r_7)]) rfl ?_
      exact J_31 σ hz (by first | exact h_7.resolve_left (by rw [c_26]; decide) | exact h_7.resolve_left (by rw [c_20]; decide) | exact h_7.resolve_left (by rw [c_14]; decide))
    · refine zv_iload_n (j := 0) G dX0_comparison_23 rfl rfl ?_
      refine zv_bipush (v := 61) G dX0_comparison_24 (by decide) ?_
      refine zv_icmp_eq (tgt := 31) G dX0_comparison_26 (by decide) (fun c_26 => ?_) (fun c_26 => ?_)
      · refine zv_sub [2, 3, 1, 0] (lv' := [(0, za_O 16 90), (1, za_I 4), (2, za_I r_2), (3, za_I r_7)]) rfl ?_
        exact J_31 σ hz (by first | exact h_7.resolve_left (by rw [c_26]; decide) | exact h_7.resolve_left (by rw [c_20]; decide) | exact h_7.resolve_left (by rw [c_14]; decide))
      · refine zv_iload_n (j := 1) G dX0_comparison_29 rfl rfl ?_
        exact zv_iret G hr dX0_comparison_30 hz
set_option maxHeartbeats 4000000 in
set_option maxRecDepth 100000 in
theorem zc_X0_thing_at3 (l : Launch) (E : za_E) (mx : Int) (σ0 : za_S) (hp : 0 ≤ (σ0.1 90 3).toInt ∧ (σ0.1 90 3).toInt ≤ mx) (hm : 41 ≤ mx ∧ mx ≤ 44) : zMi l E yX0_thing cX0_thing 5 (Option.some Jvm.ClassFile.FieldType.int) 10 233 [za_O 16 90, za_I 3] σ0 (fun r σ' => zf mx σ0 σ') := by
  refine zMi_of [(0, za_O 16 90), (1, za_I 3)] (by decide) rfl rfl (Nat.le_of_ble_eq_true rfl) ?_
  intro ho p e s m args below meth c G hr
  refine zv_gen (R9 := zf mx σ0) ⟨zc_r σ0, hp⟩ (fun σ hz => ?_)
  refine zv_iconst (v := 0) G dX0_thing_0 (by decide) ?_
  refine zv_istore_n (lv' := [(2, za_I 0), (0, za_O 16 90), (1, za_I 3)]) G dX0_thing_1 rfl (by decide) rfl ?_
  refine zv_iconst (v := 0) G dX0_thing_2 (by decide) ?_
  have J_4 : ∀ (n : Nat) (y2_4 : Int32) (y3_4 : Int32) (σ : za_S) (hz : zf mx σ0 σ) (hn_4 : (2147483648 - y3_4.toInt).toNat < n), zV p l e (zRm 10 233) s m args below meth c E (za_A E) 5 0 0 (MQ below (va_Qi (fun r σ' => zf mx σ0 σ') (zB E) (za_A E)) args s 0 0 (za_A E)) 4 [(0, za_O 16 90), (1, za_I 3), (2, za_I y2_4), (3, za_I y3_4)] [] σ := by
    intro n
    induction n with
    | zero => intro y2_4 y3_4 σ hz hn; exact absurd hn (Nat.not_lt_zero _)
    | succ n ih_4 =>
      intro y2_4 y3_4 σ hz hn_4
      refine zv_iload_n (j := 3) G dX0_thing_4 rfl rfl ?_
      refine zv_bipush (v := 40) G dX0_thing_5 (by decide) ?_
      have J_45 : ∀  (σ : za_S) (hz : zf mx σ0 σ), zV p l e (zRm 10 233) s m args below meth c E (za_A E) 5 0 0 (MQ below (va_Qi (fun r σ' => zf mx σ0 σ') (zB E) (za_A E)) args s 0 0 (za_A E)) 45 [(0, za_O 16 90), (1, za_I 3), (2, za_I y2_4)] [] σ := by
        intro σ hz
        refine zv_aload_n (j := 0) G dX0_thing_45 rfl rfl ?_
        refine zv_callVi (as := []) G (by decide) rfl rfl (zc_X0_peek l E  σ hz.2.1) zk_X0_peek zm_924 rfl ⟨(Nat.le_of_ble_eq_true rfl), (Nat.le_of_ble_eq_true rfl)⟩ ⟨Nat.zero_le _, Nat.zero_le _⟩ (Nat.le_of_ble_eq_true rfl) dX0_thing_46 (fun r_46 σ h_46 => ?_)
        obtain ⟨h_46, rfl⟩ := h_46
        refine zv_istore_n (lv' := [(3, za_I r_46), (0, za_O 16 90), (1, za_I 3), (2, za_I y2_4)]) G dX0_thing_49 rfl (by decide) rfl ?_
        refine zv_iload_n (j := 0) G dX0_thing_50 rfl rfl ?_
        refine zv_bipush (v := 48) G dX0_thing_51 (by decide) ?_
        have J_134 : ∀ (y4_134 : Int32) (σ : za_S) (hz : zf mx σ0 σ), zV p l e (zRm 10 233) s m args below meth c E (za_A E) 5 0 0 (MQ below (va_Qi (fun r σ' => zf mx σ0 σ') (zB E) (za_A E)) args s 0 0 (za_A E)) 134 [(2, za_I y2_4), (4, za_I y4_134)] [] σ := by
          intro y4_134 σ hz
          refine zv_iload_n (j := 0) G dX0_thing_134 rfl rfl ?_
          refine zv_if_eq (tgt := 144) G dX0_thing_135 (by decide) (fun c_135 => ?_) (fun c_135 => ?_)
          · refine zv_iload (j := 1) G dX0_thing_144 rfl ?_
            exact zv_iret G hr dX0_thing_146 hz
          · refine zv_iload (j := 1) G dX0_thing_138 rfl ?_
            refine zv_ineg G dX0_thing_140 ?_
            refine zv_goto (tgt := 146) G dX0_thing_141 (by decide) ?_
            exact zv_iret G hr dX0_thing_146 hz
        have J_71 : ∀  (σ : za_S) (hz : zf mx σ0 σ) (q_71 : r_46 = -1 ∨ (σ.1 90 3).toInt < 40), zV p l e (zRm 10 233) s m args below meth c E (za_A E) 5 0 0 (MQ below (va_Qi (fun r σ' => zf mx σ0 σ') (zB E) (za_A E)) args s 0 0 (za_A E)) 71 [(0, za_O 16 90), (1, za_I 3), (2, za_I y2_4), (3, za_I r_46)] [] σ := by
          intro σ hz q_71
          refine zv_iload_n (j := 3) G dX0_thing_71 rfl rfl ?_
          refine zv_bipush (v := 40) G dX0_thing_72 (by decide) ?_
          refine zv_icmp_ne (tgt := 127) G dX0_thing_74 (by decide) (fun c_74 => ?_) (fun c_74 => ?_)
          · refine zv_aload_n (j := 0) G dX0_thing_127 rfl rfl ?_
            refine zv_iload_n (j := 3) G dX0_thing_128 rfl rfl ?_
            refine zv_callVi (as := [za_I r_46]) G (by decide) rfl rfl (zc_X0_ofRow l E r_46 mx σ hz.2 (by omega) q_71) zk_X0_ofRow zm_936 rfl ⟨(Nat.le_of_ble_eq_true rfl), (Nat.le_of_ble_eq_true rfl)⟩ ⟨Nat.zero_le _, Nat.zero_le _⟩ (Nat.le_of_ble_eq_true rfl) dX0_thing_129 (fun r_129 σ h_129 => ?_)
            have hz9 := h_129
            have hz := zf_t hz hz9
            refine zv_istore (lv' := [(4, za_I r_129), (0, za_O 16 90), (1, za_I 3), (2, za_I y2_4), (3, za_I r_46)]) G dX0_thing_132 (by decide) rfl ?_
            refine zv_sub [3, 0] (lv' := [(2, za_I y2_4), (4, za_I r_129)]) rfl ?_
            exact J_134 r_129 σ hz
          · refine zv_iload_n (j := 1) G dX0_thing_77 rfl rfl ?_
            refine zv_iconst (v := 4) G dX0_thing_78 (by decide) ?_
            refine zv_icmp_ge (tgt := 127) G dX0_thing_79 (by decide) (fun c_79 => ?_) (fun c_79 => ?_)
            · exact absurd c_79 (by decide)
            · refine zv_aload_n (j := 0) G dX0_thing_82 rfl rfl ?_
              refine zv_dupO G dX0_thing_83 ?_
              refine zg_X0_45 G dX0_thing_84 ?_
              refine zv_iconst (v := 1) G dX0_thing_87 (by decide) ?_
              refine zv_iadd G dX0_thing_88 ?_
              refine zp_X0_45 G dX0_thing_89 ?_
              refine zv_gen (R9 := zf 40 σ0) (zf_i40 hz (q_71.resolve_left (by rw [c_74]; decide))) (fun σ hz => ?_)
              refine zv_aload_n (j := 0) G dX0_thing_92 rfl rfl ?_
              refine zv_iload_n (j := 1) G dX0_thing_93 rfl rfl ?_
              refine zv_iconst (v := 1) G dX0_thing_94 (by decide) ?_
              refine zv_iadd G dX0_thing_95 ?_
              refine zv_cst (y := 4) (by decide) ?_
              refine zv_callVi (as := [za_I 4]) G (by decide) rfl rfl (zc_X0_comparison_at4 l E 40 σ ⟨hz.2.1, by have := hz.2.2; omega⟩ (by omega)) zk_X0_comparison zm_908 rfl ⟨(Nat.le_of_ble_eq_true rfl), (Nat.le_of_ble_eq_true rfl)⟩ ⟨Nat.zero_le _, Nat.zero_le _⟩ (Nat.le_of_ble_eq_true rfl) dX0_thing_96 (fun r_96 σ h_96 => ?_)
              have hz9 := h_96
              have hz := zf_t hz hz9
              refine zv_istore (lv' := [(4, za_I r_96), (0, za_O 16 90), (1, za_I 3), (2, za_I y2_4), (3, za_I r_46)]) G dX0_thing_99 (by decide) rfl ?_
              refine zv_aload_n (j := 1) G dX0_thing_101 rfl rfl ?_
              refine zv_callVi (as := []) G (by decide) rfl rfl (zc_X0_peek l E  σ hz.2.1) zk_X0_peek zm_924 rfl ⟨(Nat.le_of_ble_eq_true rfl), (Nat.le_of_ble_eq_true rfl)⟩ ⟨Nat.zero_le _, Nat.zero_le _⟩ (Nat.le_of_ble_eq_true rfl) dX0_thing_102 (fun r_102 σ h_102 => ?_)
              obtain ⟨h_102, rfl⟩ := h_102
              refine zv_bipush (v := 41) G dX0_thing_105 (by decide) ?_
              have J_114 : ∀  (σ : za_S) (hz : zf 40 σ0 σ), zV p l e (zRm 10 233) s m args below meth c E (za_A E) 5 0 0 (MQ below (va_Qi (fun r σ' => zf mx σ0 σ') (zB E) (za_A E)) args s 0 0 (za_A E)) 114 [(0, za_O 16 90), (2, za_I y2_4), (4, za_I r_96)] [] σ := by
                intro σ hz
                refine zv_aload_n (j := 0) G dX0_thing_114 rfl rfl ?_
                refine zv_dupO G dX0_thing_115 ?_
                refine zg_X0_45 G dX0_thing_116 ?_
                refine zv_iconst (v := 1) G dX0_thing_119 (by decide) ?_
                refine zv_iadd G dX0_thing_120 ?_
                refine zp_X0_45 G dX0_thing_121 ?_
                refine zv_gen (R9 := zf mx σ0) (zf_up hz (by omega) (by decide)) (fun σ hz => ?_)
                refine zv_goto (tgt := 134) G dX0_thing_124 (by decide) ?_
                refine zv_sub [1, 2] (lv' := [(2, za_I y2_4), (4, za_I r_96)]) rfl ?_
                exact J_134 r_96 σ hz
              refine zv_icmp_eq (tgt := 114) G dX0_thing_107 (by decide) (fun c_107 => ?_) (fun c_107 => ?_)
              · refine zv_sub [1, 3, 0] (lv' := [(0, za_O 16 90), (2, za_I y2_4), (4, za_I r_96)]) rfl ?_
                exact J_114 σ hz
              · refine zv_aload_n (j := 1) G dX0_thing_110 rfl rfl ?_
                refine zv_callVv (as := []) G (by decide) rfl rfl (zc_X0_fail l E 40 σ hz.2) zk_X0_fail zm_932 rfl ⟨(Nat.le_of_ble_eq_true rfl), (Nat.le_of_ble_eq_true rfl)⟩ ⟨Nat.zero_le _, Nat.zero_le _⟩ (Nat.le_of_ble_eq_true rfl) dX0_thing_111 (fun σ h_111 => ?_)
                have hz9 := h_111
                have hz := zf_t hz hz9
                refine zv_sub [1, 3, 0] (lv' := [(0, za_O 16 90), (2, za_I y2_4), (4, za_I r_96)]) rfl ?_
                exact J_114 σ hz
        refine zv_icmp_lt (tgt := 71) G dX0_thing_53 (by decide) (fun c_53 => ?_) (fun c_53 => ?_)
        · refine zv_sub [1, 2, 3, 0] (lv' := [(0, za_O 16 90), (1, za_I 3), (2, za_I y2_4), (3, za_I r_46)]) rfl ?_
          exact J_71 σ hz h_46
        · refine zv_iload_n (j := 0) G dX0_thing_56 rfl rfl ?_
          refine zv_bipush (v := 57) G dX0_thing_57 (by decide) ?_
          refine zv_icmp_gt (tgt := 71) G dX0_thing_59 (by decide) (fun c_59 => ?_) (fun c_59 => ?_)
          · refine zv_sub [1, 2, 3, 0] (lv' := [(0, za_O 16 90), (1, za_I 3), (2, za_I y2_4), (3, za_I r_46)]) rfl ?_
            exact J_71 σ hz h_46
          · refine zv_aload_n (j := 1) G dX0_thing_62 rfl rfl ?_
            refine zv_callVi (as := []) G (by decide) rfl rfl (zc_X0_digits l E mx σ hz.2 (by omega)) zk_X0_digits zm_928 rfl ⟨(Nat.le_of_ble_eq_true rfl), (Nat.le_of_ble_eq_true rfl)⟩ ⟨Nat.zero_le _, Nat.zero_le _⟩ (Nat.le_of_ble_eq_true rfl) dX0_thing_63 (fun r_63 σ h_63 => ?_)
            have hz9 := h_63
            have hz := zf_t hz hz9
            refine zv_istore (lv' := [(4, za_I r_63), (3, za_I r_46), (0, za_O 16 90), (1, za_I 3), (2, za_I y2_4)]) G dX0_thing_66 (by decide) rfl ?_
            refine zv_goto (tgt := 134) G dX0_thing_68 (by decide) ?_
            refine zv_sub [4, 0] (lv' := [(2, za_I y2_4), (4, za_I r_63)]) rfl ?_
            exact J_134 r_63 σ hz
      refine zv_icmp_ge (tgt := 45) G dX0_thing_7 (by decide) (fun c_7 => ?_) (fun c_7 => ?_)
      · refine zv_sub [0, 1, 2] (lv' := [(0, za_O 16 90), (1, za_I 3), (2, za_I y2_4)]) rfl ?_
        exact J_45 σ hz
      · refine zv_aload_n (j := 0) G dX0_thing_10 rfl rfl ?_
        refine zv_callVi (as := []) G (by decide) rfl rfl (zc_X0_peek l E  σ hz.2.1) zk_X0_peek zm_924 rfl ⟨(Nat.le_of_ble_eq_true rfl), (Nat.le_of_ble_eq_true rfl)⟩ ⟨Nat.zero_le _, Nat.zero_le _⟩ (Nat.le_of_ble_eq_true rfl) dX0_thing_11 (fun r_11 σ h_11 => ?_)
        obtain ⟨h_11, rfl⟩ := h_11
        refine zv_bipush (v := 45) G dX0_thing_14 (by decide) ?_
        refine zv_icmp_ne (tgt := 45) G dX0_thing_16 (by decide) (fun c_16 => ?_) (fun c_16 => ?_)
        · refine zv_sub [0, 1, 2] (lv' := [(0, za_O 16 90), (1, za_I 3), (2, za_I y2_4)]) rfl ?_
          exact J_45 σ hz
        · refine zv_iload_n (j := 2) G dX0_thing_19 rfl rfl ?_
          have J_28 : ∀ (s0_28 : Int32) (σ : za_S) (hz : zf mx σ0 σ) (q_28 : (σ.1 90 3).toInt < 40), zV p l e (zRm 10 233) s m args below meth c E (za_A E) 5 0 0 (MQ below (va_Qi (fun r σ' => zf mx σ0 σ') (zB E) (za_A E)) args s 0 0 (za_A E)) 28 [(0, za_O 16 90), (1, za_I 3), (3, za_I y3_4)] [za_I s0_28] σ := by
            intro s0_28 σ hz q_28
            refine zv_istore_n (lv' := [(2, za_I s0_28), (0, za_O 16 90), (1, za_I 3), (3, za_I y3_4)]) G dX0_thing_28 rfl (by decide) rfl ?_
            refine zv_aload_n (j := 1) G dX0_thing_29 rfl rfl ?_
            refine zv_dupO G dX0_thing_30 ?_
            refine zg_X0_45 G dX0_thing_31 ?_
            refine zv_iconst (v := 1) G dX0_thing_34 (by decide) ?_
            refine zv_iadd G dX0_thing_35 ?_
            refine zp_X0_45 G dX0_thing_36 ?_
            refine zv_gen (R9 := zf mx σ0) (zf_inc hz q_28 (by decide) (by omega)) (fun σ hz => ?_)
            obtain ⟨x_39, e_39⟩ : ∃ y : Int32, y = y3_4 + 1 := ⟨_, rfl⟩
            refine zv_iinc (j := 3) (v := x_39) (lv' := [(3, za_I x_39), (2, za_I s0_28), (0, za_O 16 90), (1, za_I 3)]) G dX0_thing_39 rfl (by rw [e_39]; rfl) (by decide) rfl ?_
            refine zv_goto (tgt := 4) G dX0_thing_42 (by decide) ?_
            refine zv_sub [2, 3, 1, 0] (lv' := [(0, za_O 16 90), (1, za_I 3), (2, za_I s0_28), (3, za_I x_39)]) rfl ?_
            exact ih_4 s0_28 x_39 σ hz (z_meas c_7 e_39 hn_4)
          refine zv_if_ne (tgt := 27) G dX0_thing_20 (by decide) (fun c_20 => ?_) (fun c_20 => ?_)
          · refine zv_iconst (v := 0) G dX0_thing_27 (by decide) ?_
            refine zv_sub [0, 1, 3] (lv' := [(0, za_O 16 90), (1, za_I 3), (3, za_I y3_4)]) rfl ?_
            exact J_28 (0 : Int32) σ hz (h_11.resolve_left (by rw [c_16]; decide))
          · refine zv_iconst (v := 1) G dX0_thing_23 (by decide) ?_
            refine zv_goto (tgt := 28) G dX0_thing_24 (by decide) ?_
            refine zv_sub [0, 1, 3] (lv' := [(0, za_O 16 90), (1, za_I 3), (3, za_I y3_4)]) rfl ?_
            exact J_28 (1 : Int32) σ hz (h_11.resolve_left (by rw [c_16]; decide))
  refine zv_istore_n (lv' := [(3, za_I 0), (2, za_I 0), (0, za_O 16 90), (1, za_I 3)]) G dX0_thing_3 rfl (by decide) rfl ?_
  refine zv_sub [2, 3, 1, 0] (lv' := [(0, za_O 16 90), (1, za_I 3), (2, za_I 0), (3, za_I 0)]) rfl ?_
  exact J_4 _ (0 : Int32) (0 : Int32) σ hz (Nat.lt_succ_self _)
set_option maxHeartbeats 4000000 in
set_option maxRecDepth 100000 in
theorem zc_X0_product_at3 (l : Launch) (E : za_E) (mx : Int) (σ0 : za_S) (hp : 0 ≤ (σ0.1 90 3).toInt ∧ (σ0.1 90 3).toInt ≤ mx) (hm : 41 ≤ mx ∧ mx ≤ 44) : zMi l E yX0_product cX0_product 6 (Option.some Jvm.ClassFile.FieldType.int) 11 257 [za_O 16 90, za_I 3] σ0 (fun r σ' => zf mx σ0 σ') := by
  refine zMi_of [(0, za_O 16 90), (1, za_I 3)] (by decide) rfl rfl (Nat.le_of_ble_eq_true rfl) ?_
  intro ho p e s m args below meth c G hr
  refine zv_gen (R9 := zf mx σ0) ⟨zc_r σ0, hp⟩ (fun σ hz => ?_)
  refine zv_aload_n (j := 0) G dX0_product_0 rfl rfl ?_
  refine zv_iload_n (j := 1) G dX0_product_1 rfl rfl ?_
  refine zv_callVi (as := [za_I 3]) G (by decide) rfl rfl (zc_X0_thing_at3 l E mx σ hz.2 (by omega)) zk_X0_thing zm_920 rfl ⟨(Nat.le_of_ble_eq_true rfl), (Nat.le_of_ble_eq_true rfl)⟩ ⟨Nat.zero_le _, Nat.zero_le _⟩ (Nat.le_of_ble_eq_true rfl) dX0_product_2 (fun r_2 σ h_2 => ?_)
  have hz9 := h_2
  have hz := zf_t hz hz9
  refine zv_istore_n (lv' := [(2, za_I r_2), (0, za_O 16 90), (1, za_I 3)]) G dX0_product_5 rfl (by decide) rfl ?_
  refine zv_iconst (v := 0) G dX0_product_6 (by decide) ?_
  have J_8 : ∀ (n : Nat) (y2_8 : Int32) (y3_8 : Int32) (σ : za_S) (hz : zf mx σ0 σ) (hn_8 : (2147483648 - y3_8.toInt).toNat < n), zV p l e (zRm 11 257) s m args below meth c E (za_A E) 6 0 0 (MQ below (va_Qi (fun r σ' => zf mx σ0 σ') (zB E) (za_A E)) args s 0 0 (za_A E)) 8 [(0, za_O 16 90), (1, za_I 3), (2, za_I y2_8), (3, za_I y3_8)] [] σ := by
    intro n
    induction n with
    | zero => intro y2_8 y3_8 σ hz hn; exact absurd hn (Nat.not_lt_zero _)
    | succ n ih_8 =>
      intro y2_8 y3_8 σ hz hn_8
      refine zv_iload_n (j := 3) G dX0_product_8 rfl rfl ?_
      refine zv_bipush (v := 40) G dX0_product_9 (by decide) ?_
      refine zv_icmp_ge (tgt := 97) G dX0_product_11 (by decide) (fun c_11 => ?_) (fun c_11 => ?_)
      · refine zv_iload_n (j := 2) G dX0_product_97 rfl rfl ?_
        exact zv_iret G hr dX0_product_98 hz
      · refine zv_aload_n (j := 0) G dX0_product_14 rfl rfl ?_
        refine zv_callVi (as := []) G (by decide) rfl rfl (zc_X0_peek l E  σ hz.2.1) zk_X0_peek zm_924 rfl ⟨(Nat.le_of_ble_eq_true rfl), (Nat.le_of_ble_eq_true rfl)⟩ ⟨Nat.zero_le _, Nat.zero_le _⟩ (Nat.le_of_ble_eq_true rfl) dX0_product_15 (fun r_15 σ h_15 => ?_)
        obtain ⟨h_15, rfl⟩ := h_15
        refine zv_bipush (v := 42) G dX0_product_18 (by decide) ?_
        have J_32 : ∀  (σ : za_S) (hz : zf mx σ0 σ) (q_32 : (σ.1 90 3).toInt < 40), zV p l e (zRm 11 257) s m args below meth c E (za_A E) 6 0 0 (MQ below (va_Qi (fun r σ' => zf mx σ0 σ') (zB E) (za_A E)) args s 0 0 (za_A E)) 32 [(0, za_O 16 90), (1, za_I 3), (2, za_I y2_8), (3, za_I y3_8)] [] σ := by
          intro σ hz q_32
          refine zv_aload_n (j := 0) G dX0_product_32 rfl rfl ?_
          refine zv_callVi (as := []) G (by decide) rfl rfl (zc_X0_peek l E  σ hz.2.1) zk_X0_peek zm_924 rfl ⟨(Nat.le_of_ble_eq_true rfl), (Nat.le_of_ble_eq_true rfl)⟩ ⟨Nat.zero_le _, Nat.zero_le _⟩ (Nat.le_of_ble_eq_true rfl) dX0_product_33 (fun r_33 σ h_33 => ?_)
          obtain ⟨h_33, rfl⟩ := h_33
          refine zv_bipush (v := 42) G dX0_product_36 (by decide) ?_
          have J_46 : ∀ (s0_46 : Int32) (σ : za_S) (hz : zf mx σ0 σ) (q_46 : (σ.1 90 3).toInt < 40), zV p l e (zRm 11 257) s m args below meth c E (za_A E) 6 0 0 (MQ below (va_Qi (fun r σ' => zf mx σ0 σ') (zB E) (za_A E)) args s 0 0 (za_A E)) 46 [(0, za_O 16 90), (1, za_I 3), (2, za_I y2_8), (3, za_I y3_8)] [za_I s0_46] σ := by
            intro s0_46 σ hz q_46
            refine zv_istore (lv' := [(4, za_I s0_46), (0, za_O 16 90), (1, za_I 3), (2, za_I y2_8), (3, za_I y3_8)]) G dX0_product_46 (by decide) rfl ?_
            refine zv_aload_n (j := 1) G dX0_product_48 rfl rfl ?_
            refine zv_dupO G dX0_product_49 ?_
            refine zg_X0_45 G dX0_product_50 ?_
            refine zv_iconst (v := 1) G dX0_product_53 (by decide) ?_
            refine zv_iadd G dX0_product_54 ?_
            refine zp_X0_45 G dX0_product_55 ?_
            refine zv_gen (R9 := zf mx σ0) (zf_inc hz q_46 (by decide) (by omega)) (fun σ hz => ?_)
            refine zv_aload_n (j := 1) G dX0_product_58 rfl rfl ?_
            refine zv_iload_n (j := 2) G dX0_product_59 rfl rfl ?_
            refine zv_callVi (as := [za_I 3]) G (by decide) rfl rfl (zc_X0_thing_at3 l E mx σ hz.2 (by omega)) zk_X0_thing zm_920 rfl ⟨(Nat.le_of_ble_eq_true rfl), (Nat.le_of_ble_eq_true rfl)⟩ ⟨Nat.zero_le _, Nat.zero_le _⟩ (Nat.le_of_ble_eq_true rfl) dX0_product_60 (fun r_60 σ h_60 => ?_)
            have hz9 := h_60
            have hz := zf_t hz hz9
            refine zv_istore (lv' := [(5, za_I r_60), (4, za_I s0_46), (0, za_O 16 90), (1, za_I 3), (2, za_I y2_8), (3, za_I y3_8)]) G dX0_product_63 (by decide) rfl ?_
            refine zv_iload (j := 1) G dX0_product_65 rfl ?_
            refine zv_if_eq (tgt := 77) G dX0_product_67 (by decide) (fun c_67 => ?_) (fun c_67 => ?_)
            · refine zv_iload (j := 0) G dX0_product_77 rfl ?_
              refine zv_if_ne (tgt := 86) G dX0_product_79 (by decide) (fun c_79 => ?_) (fun c_79 => ?_)
              · refine zv_iload_n (j := 4) G dX0_product_86 rfl rfl ?_
                refine zv_iload (j := 0) G dX0_product_87 rfl ?_
                refine zv_idiv G dX0_product_89 c_79 ?_
                refine zv_top (fun x_90 e_90 => ?_)
                refine zv_istore_n (lv' := [(2, za_I x_90), (5, za_I r_60), (4, za_I s0_46), (0, za_O 16 90), (1, za_I 3), (3, za_I y3_8)]) G dX0_product_90 rfl (by decide) rfl ?_
                obtain ⟨x_91, e_91⟩ : ∃ y : Int32, y = y3_8 + 1 := ⟨_, rfl⟩
                refine zv_iinc (j := 5) (v := x_91) (lv' := [(3, za_I x_91), (2, za_I x_90), (5, za_I r_60), (4, za_I s0_46), (0, za_O 16 90), (1, za_I 3)]) G dX0_product_91 rfl (by rw [e_91]; rfl) (by decide) rfl ?_
                refine zv_goto (tgt := 8) G dX0_product_94 (by decide) ?_
                refine zv_sub [4, 5, 1, 0] (lv' := [(0, za_O 16 90), (1, za_I 3), (2, za_I x_90), (3, za_I x_91)]) rfl ?_
                exact ih_8 x_90 x_91 σ hz (z_meas c_11 e_91 hn_8)
              · refine zv_iconst (v := 0) G dX0_product_82 (by decide) ?_
                refine zv_goto (tgt := 90) G dX0_product_83 (by decide) ?_
                refine zv_istore_n (lv' := [(2, za_I 0), (5, za_I r_60), (4, za_I s0_46), (0, za_O 16 90), (1, za_I 3), (3, za_I y3_8)]) G dX0_product_90 rfl (by decide) rfl ?_
                obtain ⟨x_91, e_91⟩ : ∃ y : Int32, y = y3_8 + 1 := ⟨_, rfl⟩
                refine zv_iinc (j := 5) (v := x_91) (lv' := [(3, za_I x_91), (2, za_I 0), (5, za_I r_60), (4, za_I s0_46), (0, za_O 16 90), (1, za_I 3)]) G dX0_product_91 rfl (by rw [e_91]; rfl) (by decide) rfl ?_
                refine zv_goto (tgt := 8) G dX0_product_94 (by decide) ?_
                refine zv_sub [4, 5, 1, 0] (lv' := [(0, za_O 16 90), (1, za_I 3), (2, za_I 0), (3, za_I x_91)]) rfl ?_
                exact ih_8 (0 : Int32) x_91 σ hz (z_meas c_11 e_91 hn_8)
            · refine zv_iload_n (j := 4) G dX0_product_70 rfl rfl ?_
              refine zv_iload (j := 0) G dX0_product_71 rfl ?_
              refine zv_imul G dX0_product_73 ?_
              refine zv_goto (tgt := 90) G dX0_product_74 (by decide) ?_
              refine zv_top (fun x_90 e_90 => ?_)
              refine zv_istore_n (lv' := [(2, za_I x_90), (5, za_I r_60), (4, za_I s0_46), (0, za_O 16 90), (1, za_I 3), (3, za_I y3_8)]) G dX0_product_90 rfl (by decide) rfl ?_
              obtain ⟨x_91, e_91⟩ : ∃ y : Int32, y = y3_8 + 1 := ⟨_, rfl⟩
              refine zv_iinc (j := 5) (v := x_91) (lv' := [(3, za_I x_91), (2, za_I x_90), (5, za_I r_60), (4, za_I s0_46), (0, za_O 16 90), (1, za_I 3)]) G dX0_product_91 rfl (by rw [e_91]; rfl) (by decide) rfl ?_
              refine zv_goto (tgt := 8) G dX0_product_94 (by decide) ?_
              refine zv_sub [4, 5, 1, 0] (lv' := [(0, za_O 16 90), (1, za_I 3), (2, za_I x_90), (3, za_I x_91)]) rfl ?_
              exact ih_8 x_90 x_91 σ hz (z_meas c_11 e_91 hn_8)
          refine zv_icmp_ne (tgt := 45) G dX0_product_38 (by decide) (fun c_38 => ?_) (fun c_38 => ?_)
          · refine zv_iconst (v := 0) G dX0_product_45 (by decide) ?_
            refine zv_sub [0, 1, 2, 3] (lv' := [(0, za_O 16 90), (1, za_I 3), (2, za_I y2_8), (3, za_I y3_8)]) rfl ?_
            exact J_46 (0 : Int32) σ hz q_32
          · refine zv_iconst (v := 1) G dX0_product_41 (by decide) ?_
            refine zv_goto (tgt := 46) G dX0_product_42 (by decide) ?_
            refine zv_sub [0, 1, 2, 3] (lv' := [(0, za_O 16 90), (1, za_I 3), (2, za_I y2_8), (3, za_I y3_8)]) rfl ?_
            exact J_46 (1 : Int32) σ hz q_32
        refine zv_icmp_eq (tgt := 32) G dX0_product_20 (by decide) (fun c_20 => ?_) (fun c_20 => ?_)
        · refine zv_sub [0, 1, 2, 3] (lv' := [(0, za_O 16 90), (1, za_I 3), (2, za_I y2_8), (3, za_I y3_8)]) rfl ?_
          exact J_32 σ hz (by first | exact h_24.resolve_left (by rw [c_29]; decide) | exact h_15.resolve_left (by rw [c_20]; decide))
        · refine zv_aload_n (j := 0) G dX0_product_23 rfl rfl ?_
          refine zv_callVi (as := []) G (by decide) rfl rfl (zc_X0_peek l E  σ hz.2.1) zk_X0_peek zm_924 rfl ⟨(Nat.le_of_ble_eq_true rfl), (Nat.le_of_ble_eq_true rfl)⟩ ⟨Nat.zero_le _, Nat.zero_le _⟩ (Nat.le_of_ble_eq_true rfl) dX0_product_24 (fun r_24 σ h_24 => ?_)
          obtain ⟨h_24, rfl⟩ := h_24
          refine zv_bipush (v := 47) G dX0_product_27 (by decide) ?_
          refine zv_icmp_ne (tgt := 97) G dX0_product_29 (by decide) (fun c_29 => ?_) (fun c_29 => ?_)
          · refine zv_iload_n (j := 2) G dX0_product_97 rfl rfl ?_
            exact zv_iret G hr dX0_product_98 hz
          · refine zv_sub [0, 1, 2, 3] (lv' := [(0, za_O 16 90), (1, za_I 3), (2, za_I y2_8), (3, za_I y3_8)]) rfl ?_
            exact J_32 σ hz (by first | exact h_24.resolve_left (by rw [c_29]; decide) | exact h_15.resolve_left (by rw [c_20]; decide))
  refine zv_istore_n (lv' := [(3, za_I 0), (2, za_I r_2), (0, za_O 16 90), (1, za_I 3)]) G dX0_product_7 rfl (by decide) rfl ?_
  refine zv_sub [2, 3, 1, 0] (lv' := [(0, za_O 16 90), (1, za_I 3), (2, za_I r_2), (3, za_I 0)]) rfl ?_
  exact J_8 _ r_2 (0 : Int32) σ hz (Nat.lt_succ_self _)
set_option maxHeartbeats 4000000 in
set_option maxRecDepth 100000 in
theorem zc_X0_sum_at3 (l : Launch) (E : za_E) (mx : Int) (σ0 : za_S) (hp : 0 ≤ (σ0.1 90 3).toInt ∧ (σ0.1 90 3).toInt ≤ mx) (hm : 41 ≤ mx ∧ mx ≤ 44) : zMi l E yX0_sum cX0_sum 6 (Option.some Jvm.ClassFile.FieldType.int) 12 282 [za_O 16 90, za_I 3] σ0 (fun r σ' => zf mx σ0 σ') := by
  refine zMi_of [(0, za_O 16 90), (1, za_I 3)] (by decide) rfl rfl (Nat.le_of_ble_eq_true rfl) ?_
  intro ho p e s m args below meth c G hr
  refine zv_gen (R9 := zf mx σ0) ⟨zc_r σ0, hp⟩ (fun σ hz => ?_)
  refine zv_aload_n (j := 0) G dX0_sum_0 rfl rfl ?_
  refine zv_iload_n (j := 1) G dX0_sum_1 rfl rfl ?_
  refine zv_callVi (as := [za_I 3]) G (by decide) rfl rfl (zc_X0_product_at3 l E mx σ hz.2 (by omega)) zk_X0_product zm_916 rfl ⟨(Nat.le_of_ble_eq_true rfl), (Nat.le_of_ble_eq_true rfl)⟩ ⟨Nat.zero_le _, Nat.zero_le _⟩ (Nat.le_of_ble_eq_true rfl) dX0_sum_2 (fun r_2 σ h_2 => ?_)
  have hz9 := h_2
  have hz := zf_t hz hz9
  refine zv_istore_n (lv' := [(2, za_I r_2), (0, za_O 16 90), (1, za_I 3)]) G dX0_sum_5 rfl (by decide) rfl ?_
  refine zv_iconst (v := 0) G dX0_sum_6 (by decide) ?_
  have J_8 : ∀ (n : Nat) (y2_8 : Int32) (y3_8 : Int32) (σ : za_S) (hz : zf mx σ0 σ) (hn_8 : (2147483648 - y3_8.toInt).toNat < n), zV p l e (zRm 12 282) s m args below meth c E (za_A E) 6 0 0 (MQ below (va_Qi (fun r σ' => zf mx σ0 σ') (zB E) (za_A E)) args s 0 0 (za_A E)) 8 [(0, za_O 16 90), (1, za_I 3), (2, za_I y2_8), (3, za_I y3_8)] [] σ := by
    intro n
    induction n with
    | zero => intro y2_8 y3_8 σ hz hn; exact absurd hn (Nat.not_lt_zero _)
    | succ n ih_8 =>
      intro y2_8 y3_8 σ hz hn_8
      refine zv_iload_n (j := 3) G dX0_sum_8 rfl rfl ?_
      refine zv_bipush (v := 40) G dX0_sum_9 (by decide) ?_
      refine zv_icmp_ge (tgt := 88) G dX0_sum_11 (by decide) (fun c_11 => ?_) (fun c_11 => ?_)
      · refine zv_iload_n (j := 2) G dX0_sum_88 rfl rfl ?_
        exact zv_iret G hr dX0_sum_89 hz
      · refine zv_aload_n (j := 0) G dX0_sum_14 rfl rfl ?_
        refine zv_callVi (as := []) G (by decide) rfl rfl (zc_X0_peek l E  σ hz.2.1) zk_X0_peek zm_924 rfl ⟨(Nat.le_of_ble_eq_true rfl), (Nat.le_of_ble_eq_true rfl)⟩ ⟨Nat.zero_le _, Nat.zero_le _⟩ (Nat.le_of_ble_eq_true rfl) dX0_sum_15 (fun r_15 σ h_15 => ?_)
        obtain ⟨h_15, rfl⟩ := h_15
        refine zv_bipush (v := 43) G dX0_sum_18 (by decide) ?_
        have J_32 : ∀  (σ : za_S) (hz : zf mx σ0 σ) (q_32 : (σ.1 90 3).toInt < 40), zV p l e (zRm 12 282) s m args below meth c E (za_A E) 6 0 0 (MQ below (va_Qi (fun r σ' => zf mx σ0 σ') (zB E) (za_A E)) args s 0 0 (za_A E)) 32 [(0, za_O 16 90), (1, za_I 3), (2, za_I y2_8), (3, za_I y3_8)] [] σ := by
          intro σ hz q_32
          refine zv_aload_n (j := 0) G dX0_sum_32 rfl rfl ?_
          refine zv_callVi (as := []) G (by decide) rfl rfl (zc_X0_peek l E  σ hz.2.1) zk_X0_peek zm_924 rfl ⟨(Nat.le_of_ble_eq_true rfl), (Nat.le_of_ble_eq_true rfl)⟩ ⟨Nat.zero_le _, Nat.zero_le _⟩ (Nat.le_of_ble_eq_true rfl) dX0_sum_33 (fun r_33 σ h_33 => ?_)
          obtain ⟨h_33, rfl⟩ := h_33
          refine zv_bipush (v := 43) G dX0_sum_36 (by decide) ?_
          have J_46 : ∀ (s0_46 : Int32) (σ : za_S) (hz : zf mx σ0 σ) (q_46 : (σ.1 90 3).toInt < 40), zV p l e (zRm 12 282) s m args below meth c E (za_A E) 6 0 0 (MQ below (va_Qi (fun r σ' => zf mx σ0 σ') (zB E) (za_A E)) args s 0 0 (za_A E)) 46 [(0, za_O 16 90), (1, za_I 3), (2, za_I y2_8), (3, za_I y3_8)] [za_I s0_46] σ := by
            intro s0_46 σ hz q_46
            refine zv_istore (lv' := [(4, za_I s0_46), (0, za_O 16 90), (1, za_I 3), (2, za_I y2_8), (3, za_I y3_8)]) G dX0_sum_46 (by decide) rfl ?_
            refine zv_aload_n (j := 1) G dX0_sum_48 rfl rfl ?_
            refine zv_dupO G dX0_sum_49 ?_
            refine zg_X0_45 G dX0_sum_50 ?_
            refine zv_iconst (v := 1) G dX0_sum_53 (by decide) ?_
            refine zv_iadd G dX0_sum_54 ?_
            refine zp_X0_45 G dX0_sum_55 ?_
            refine zv_gen (R9 := zf mx σ0) (zf_inc hz q_46 (by decide) (by omega)) (fun σ hz => ?_)
            refine zv_aload_n (j := 1) G dX0_sum_58 rfl rfl ?_
            refine zv_iload_n (j := 2) G dX0_sum_59 rfl rfl ?_
            refine zv_callVi (as := [za_I 3]) G (by decide) rfl rfl (zc_X0_product_at3 l E mx σ hz.2 (by omega)) zk_X0_product zm_916 rfl ⟨(Nat.le_of_ble_eq_true rfl), (Nat.le_of_ble_eq_true rfl)⟩ ⟨Nat.zero_le _, Nat.zero_le _⟩ (Nat.le_of_ble_eq_true rfl) dX0_sum_60 (fun r_60 σ h_60 => ?_)
            have hz9 := h_60
            have hz := zf_t hz hz9
            refine zv_istore (lv' := [(5, za_I r_60), (4, za_I s0_46), (0, za_O 16 90), (1, za_I 3), (2, za_I y2_8), (3, za_I y3_8)]) G dX0_sum_63 (by decide) rfl ?_
            refine zv_iload (j := 1) G dX0_sum_65 rfl ?_
            refine zv_if_eq (tgt := 77) G dX0_sum_67 (by decide) (fun c_67 => ?_) (fun c_67 => ?_)
            · refine zv_iload_n (j := 4) G dX0_sum_77 rfl rfl ?_
              refine zv_iload (j := 0) G dX0_sum_78 rfl ?_
              refine zv_isub G dX0_sum_80 ?_
              refine zv_top (fun x_81 e_81 => ?_)
              refine zv_istore_n (lv' := [(2, za_I x_81), (5, za_I r_60), (4, za_I s0_46), (0, za_O 16 90), (1, za_I 3), (3, za_I y3_8)]) G dX0_sum_81 rfl (by decide) rfl ?_
              obtain ⟨x_82, e_82⟩ : ∃ y : Int32, y = y3_8 + 1 := ⟨_, rfl⟩
              refine zv_iinc (j := 5) (v := x_82) (lv' := [(3, za_I x_82), (2, za_I x_81), (5, za_I r_60), (4, za_I s0_46), (0, za_O 16 90), (1, za_I 3)]) G dX0_sum_82 rfl (by rw [e_82]; rfl) (by decide) rfl ?_
              refine zv_goto (tgt := 8) G dX0_sum_85 (by decide) ?_
              refine zv_sub [4, 5, 1, 0] (lv' := [(0, za_O 16 90), (1, za_I 3), (2, za_I x_81), (3, za_I x_82)]) rfl ?_
              exact ih_8 x_81 x_82 σ hz (z_meas c_11 e_82 hn_8)
            · refine zv_iload_n (j := 4) G dX0_sum_70 rfl rfl ?_
              refine zv_iload (j := 0) G dX0_sum_71 rfl ?_
              refine zv_iadd G dX0_sum_73 ?_
              refine zv_goto (tgt := 81) G dX0_sum_74 (by decide) ?_
              refine zv_top (fun x_81 e_81 => ?_)
              refine zv_istore_n (lv' := [(2, za_I x_81), (5, za_I r_60), (4, za_I s0_46), (0, za_O 16 90), (1, za_I 3), (3, za_I y3_8)]) G dX0_sum_81 rfl (by decide) rfl ?_
              obtain ⟨x_82, e_82⟩ : ∃ y : Int32, y = y3_8 + 1 := ⟨_, rfl⟩
              refine zv_iinc (j := 5) (v := x_82) (lv' := [(3, za_I x_82), (2, za_I x_81), (5, za_I r_60), (4, za_I s0_46), (0, za_O 16 90), (1, za_I 3)]) G dX0_sum_82 rfl (by rw [e_82]; rfl) (by decide) rfl ?_
              refine zv_goto (tgt := 8) G dX0_sum_85 (by decide) ?_
              refine zv_sub [4, 5, 1, 0] (lv' := [(0, za_O 16 90), (1, za_I 3), (2, za_I x_81), (3, za_I x_82)]) rfl ?_
              exact ih_8 x_81 x_82 σ hz (z_meas c_11 e_82 hn_8)
          refine zv_icmp_ne (tgt := 45) G dX0_sum_38 (by decide) (fun c_38 => ?_) (fun c_38 => ?_)
          · refine zv_iconst (v := 0) G dX0_sum_45 (by decide) ?_
            refine zv_sub [0, 1, 2, 3] (lv' := [(0, za_O 16 90), (1, za_I 3), (2, za_I y2_8), (3, za_I y3_8)]) rfl ?_
            exact J_46 (0 : Int32) σ hz q_32
          · refine zv_iconst (v := 1) G dX0_sum_41 (by decide) ?_
            refine zv_goto (tgt := 46) G dX0_sum_42 (by decide) ?_
            refine zv_sub [0, 1, 2, 3] (lv' := [(0, za_O 16 90), (1, za_I 3), (2, za_I y2_8), (3, za_I y3_8)]) rfl ?_
            exact J_46 (1 : Int32) σ hz q_32
        refine zv_icmp_eq (tgt := 32) G dX0_sum_20 (by decide) (fun c_20 => ?_) (fun c_20 => ?_)
        · refine zv_sub [0, 1, 2, 3] (lv' := [(0, za_O 16 90), (1, za_I 3), (2, za_I y2_8), (3, za_I y3_8)]) rfl ?_
          exact J_32 σ hz (by first | exact h_24.resolve_left (by rw [c_29]; decide) | exact h_15.resolve_left (by rw [c_20]; decide))
        · refine zv_aload_n (j := 0) G dX0_sum_23 rfl rfl ?_
          refine zv_callVi (as := []) G (by decide) rfl rfl (zc_X0_peek l E  σ hz.2.1) zk_X0_peek zm_924 rfl ⟨(Nat.le_of_ble_eq_true rfl), (Nat.le_of_ble_eq_true rfl)⟩ ⟨Nat.zero_le _, Nat.zero_le _⟩ (Nat.le_of_ble_eq_true rfl) dX0_sum_24 (fun r_24 σ h_24 => ?_)
          obtain ⟨h_24, rfl⟩ := h_24
          refine zv_bipush (v := 45) G dX0_sum_27 (by decide) ?_
          refine zv_icmp_ne (tgt := 88) G dX0_sum_29 (by decide) (fun c_29 => ?_) (fun c_29 => ?_)
          · refine zv_iload_n (j := 2) G dX0_sum_88 rfl rfl ?_
            exact zv_iret G hr dX0_sum_89 hz
          · refine zv_sub [0, 1, 2, 3] (lv' := [(0, za_O 16 90), (1, za_I 3), (2, za_I y2_8), (3, za_I y3_8)]) rfl ?_
            exact J_32 σ hz (by first | exact h_24.resolve_left (by rw [c_29]; decide) | exact h_15.resolve_left (by rw [c_20]; decide))
  refine zv_istore_n (lv' := [(3, za_I 0), (2, za_I r_2), (0, za_O 16 90), (1, za_I 3)]) G dX0_sum_7 rfl (by decide) rfl ?_
  refine zv_sub [2, 3, 1, 0] (lv' := [(0, za_O 16 90), (1, za_I 3), (2, za_I r_2), (3, za_I 0)]) rfl ?_
  exact J_8 _ r_2 (0 : Int32) σ hz (Nat.lt_succ_self _)
set_option maxHeartbeats 4000000 in
set_option maxRecDepth 100000 in
theorem zc_X0_comparison_at3 (l : Launch) (E : za_E) (mx : Int) (σ0 : za_S) (hp : 0 ≤ (σ0.1 90 3).toInt ∧ (σ0.1 90 3).toInt ≤ mx) (hm : 41 ≤ mx ∧ mx ≤ 44) : zMi l E yX0_comparison cX0_comparison 6 (Option.some Jvm.ClassFile.FieldType.int) 13 307 [za_O 16 90, za_I 3] σ0 (fun r σ' => zf mx σ0 σ') := by
  refine zMi_of [(0, za_O 16 90), (1, za_I 3)] (by decide) rfl rfl (Nat.le_of_ble_eq_true rfl) ?_
  intro ho p e s m args below meth c G hr
  refine zv_gen (R9 := zf mx σ0) ⟨zc_r σ0, hp⟩ (fun σ hz => ?_)
  refine zv_aload_n (j := 0) G dX0_comparison_0 rfl rfl ?_
  refine zv_iload_n (j := 1) G dX0_comparison_1 rfl rfl ?_
  refine zv_callVi (as := [za_I 3]) G (by decide) rfl rfl (zc_X0_sum_at3 l E mx σ hz.2 (by omega)) zk_X0_sum zm_912 rfl ⟨(Nat.le_of_ble_eq_true rfl), (Nat.le_of_ble_eq_true rfl)⟩ ⟨Nat.zero_le _, Nat.zero_le _⟩ (Nat.le_of_ble_eq_true rfl) dX0_comparison_2 (fun r_2 σ h_2 => ?_)
  have hz9 := h_2
  have hz := zf_t hz hz9
  refine zv_istore_n (lv' := [(2, za_I r_2), (0, za_O 16 90), (1, za_I 3)]) G dX0_comparison_5 rfl (by decide) rfl ?_
  refine zv_aload_n (j := 1) G dX0_comparison_6 rfl rfl ?_
  refine zv_callVi (as := []) G (by decide) rfl rfl (zc_X0_peek l E  σ hz.2.1) zk_X0_peek zm_924 rfl ⟨(Nat.le_of_ble_eq_true rfl), (Nat.le_of_ble_eq_true rfl)⟩ ⟨Nat.zero_le _, Nat.zero_le _⟩ (Nat.le_of_ble_eq_true rfl) dX0_comparison_7 (fun r_7 σ h_7 => ?_)
  obtain ⟨h_7, rfl⟩ := h_7
  refine zv_istore_n (lv' := [(3, za_I r_7), (2, za_I r_2), (0, za_O 16 90), (1, za_I 3)]) G dX0_comparison_10 rfl (by decide) rfl ?_
  refine zv_iload_n (j := 0) G dX0_comparison_11 rfl rfl ?_
  refine zv_bipush (v := 60) G dX0_comparison_12 (by decide) ?_
  have J_31 : ∀  (σ : za_S) (hz : zf mx σ0 σ) (q_31 : (σ.1 90 3).toInt < 40), zV p l e (zRm 13 307) s m args below meth c E (za_A E) 6 0 0 (MQ below (va_Qi (fun r σ' => zf mx σ0 σ') (zB E) (za_A E)) args s 0 0 (za_A E)) 31 [(0, za_O 16 90), (1, za_I 3), (2, za_I r_2), (3, za_I r_7)] [] σ := by
    intro σ hz q_31
    refine zv_aload_n (j := 0) G dX0_comparison_31 rfl rfl ?_
    refine zv_dupO G dX0_comparison_32 ?_
    refine zg_X0_45 G dX0_comparison_33 ?_
    refine zv_iconst (v := 1) G dX0_comparison_36 (by decide) ?_
    refine zv_iadd G dX0_comparison_37 ?_
    refine zp_X0_45 G dX0_comparison_38 ?_
    refine zv_gen (R9 := zf mx σ0) (zf_inc hz q_31 (by decide) (by omega)) (fun σ hz => ?_)
    refine zv_aload_n (j := 0) G dX0_comparison_41 rfl rfl ?_
    refine zv_iload_n (j := 1) G dX0_comparison_42 rfl rfl ?_
    refine zv_callVi (as := [za_I 3]) G (by decide) rfl rfl (zc_X0_sum_at3 l E mx σ hz.2 (by omega)) zk_X0_sum zm_912 rfl ⟨(Nat.le_of_ble_eq_true rfl), (Nat.le_of_ble_eq_true rfl)⟩ ⟨Nat.zero_le _, Nat.zero_le _⟩ (Nat.le_of_ble_eq_true rfl) dX0_comparison_43 (fun r_43 σ h_43 => ?_)
    have hz9 := h_43
    have hz := zf_t hz hz9
    refine zv_istore (lv' := [(4, za_I r_43), (0, za_O 16 90), (1, za_I 3), (2, za_I r_2), (3, za_I r_7)]) G dX0_comparison_46 (by decide) rfl ?_
    refine zv_iload_n (j := 4) G dX0_comparison_48 rfl rfl ?_
    refine zv_bipush (v := 60) G dX0_comparison_49 (by decide) ?_
    refine zv_icmp_ne (tgt := 68) G dX0_comparison_51 (by decide) (fun c_51 => ?_) (fun c_51 => ?_)
    · refine zv_iload_n (j := 4) G dX0_comparison_68 rfl rfl ?_
      refine zv_bipush (v := 62) G dX0_comparison_69 (by decide) ?_
      refine zv_icmp_ne (tgt := 88) G dX0_comparison_71 (by decide) (fun c_71 => ?_) (fun c_71 => ?_)
      · refine zv_iload_n (j := 3) G dX0_comparison_88 rfl rfl ?_
        refine zv_iload (j := 0) G dX0_comparison_89 rfl ?_
        refine zv_icmp_ne (tgt := 98) G dX0_comparison_91 (by decide) (fun c_91 => ?_) (fun c_91 => ?_)
        · refine zv_iconst (v := 0) G dX0_comparison_98 (by decide) ?_
          refine zv_istore (lv' := [(5, za_I 0), (4, za_I r_43), (0, za_O 16 90), (1, za_I 3), (2, za_I r_2), (3, za_I r_7)]) G dX0_comparison_99 (by decide) rfl ?_
          refine zv_iload (j := 0) G dX0_comparison_101 rfl ?_
          refine zv_if_eq (tgt := 110) G dX0_comparison_103 (by decide) (fun c_103 => ?_) (fun c_103 => ?_)
          · refine zv_iconst (v := 0) G dX0_comparison_110 (by decide) ?_
            exact zv_iret G hr dX0_comparison_111 hz
          · exact absurd c_103 (by decide)
        · refine zv_iconst (v := 1) G dX0_comparison_94 (by decide) ?_
          refine zv_goto (tgt := 99) G dX0_comparison_95 (by decide) ?_
          refine zv_istore (lv' := [(5, za_I 1), (4, za_I r_43), (0, za_O 16 90), (1, za_I 3), (2, za_I r_2), (3, za_I r_7)]) G dX0_comparison_99 (by decide) rfl ?_
          refine zv_iload (j := 0) G dX0_comparison_101 rfl ?_
          refine zv_if_eq (tgt := 110) G dX0_comparison_103 (by decide) (fun c_103 => ?_) (fun c_103 => ?_)
          · exact absurd c_103 (by decide)
          · refine zv_iconst (v := 1) G dX0_comparison_106 (by decide) ?_
            refine zv_goto (tgt := 111) G dX0_comparison_107 (by decide) ?_
            exact zv_iret G hr dX0_comparison_111 hz
      · refine zv_iload_n (j := 3) G dX0_comparison_74 rfl rfl ?_
        refine zv_iload (j := 0) G dX0_comparison_75 rfl ?_
        refine zv_icmp_le (tgt := 84) G dX0_comparison_77 (by decide) (fun c_77 => ?_) (fun c_77 => ?_)
        · refine zv_iconst (v := 0) G dX0_comparison_84 (by decide) ?_
          refine zv_goto (tgt := 99) G dX0_comparison_85 (by decide) ?_
          refine zv_istore (lv' := [(5, za_I 0), (4, za_I r_43), (0, za_O 16 90), (1, za_I 3), (2, za_I r_2), (3, za_I r_7)]) G dX0_comparison_99 (by decide) rfl ?_
          refine zv_iload (j := 0) G dX0_comparison_101 rfl ?_
          refine zv_if_eq (tgt := 110) G dX0_comparison_103 (by decide) (fun c_103 => ?_) (fun c_103 => ?_)
          · refine zv_iconst (v := 0) G dX0_comparison_110 (by decide) ?_
            exact zv_iret G hr dX0_comparison_111 hz
          · exact absurd c_103 (by decide)
        · refine zv_iconst (v := 1) G dX0_comparison_80 (by decide) ?_
          refine zv_goto (tgt := 99) G dX0_comparison_81 (by decide) ?_
          refine zv_istore (lv' := [(5, za_I 1), (4, za_I r_43), (0, za_O 16 90), (1, za_I 3), (2, za_I r_2), (3, za_I r_7)]) G dX0_comparison_99 (by decide) rfl ?_
          refine zv_iload (j := 0) G dX0_comparison_101 rfl ?_
          refine zv_if_eq (tgt := 110) G dX0_comparison_103 (by decide) (fun c_103 => ?_) (fun c_103 => ?_)
          · exact absurd c_103 (by decide)
          · refine zv_iconst (v := 1) G dX0_comparison_106 (by decide) ?_
            refine zv_goto (tgt := 111) G dX0_comparison_107 (by decide) ?_
            exact zv_iret G hr dX0_comparison_111 hz
    · refine zv_iload_n (j := 3) G dX0_comparison_54 rfl rfl ?_
      refine zv_iload (j := 0) G dX0_comparison_55 rfl ?_
      refine zv_icmp_ge (tgt := 64) G dX0_comparison_57 (by decide) (fun c_57 => ?_) (fun c_57 => ?_)
      · refine zv_iconst (v := 0) G dX0_comparison_64 (by decide) ?_
        refine zv_goto (tgt := 99) G dX0_comparison_65 (by decide) ?_
        refine zv_istore (lv' := [(5, za_I 0), (4, za_I r_43), (0, za_O 16 90), (1, za_I 3), (2, za_I r_2), (3, za_I r_7)]) G dX0_comparison_99 (by decide) rfl ?_
        refine zv_iload (j := 0) G dX0_comparison_101 rfl ?_
        refine zv_if_eq (tgt := 110) G dX0_comparison_103 (by decide) (fun c_103 => ?_) (fun c_103 => ?_)
        · refine zv_iconst (v := 0) G dX0_comparison_110 (by decide) ?_
          exact zv_iret G hr dX0_comparison_111 hz
        · exact absurd c_103 (by decide)
      · refine zv_iconst (v := 1) G dX0_comparison_60 (by decide) ?_
        refine zv_goto (tgt := 99) G dX0_comparison_61 (by decide) ?_
        refine zv_istore (lv' := [(5, za_I 1), (4, za_I r_43), (0, za_O 16 90), (1, za_I 3), (2, za_I r_2), (3, za_I r_7)]) G dX0_comparison_99 (by decide) rfl ?_
        refine zv_iload (j := 0) G dX0_comparison_101 rfl ?_
        refine zv_if_eq (tgt := 110) G dX0_comparison_103 (by decide) (fun c_103 => ?_) (fun c_103 => ?_)
        · exact absurd c_103 (by decide)
        · refine zv_iconst (v := 1) G dX0_comparison_106 (by decide) ?_
          refine zv_goto (tgt := 111) G dX0_comparison_107 (by decide) ?_
          exact zv_iret G hr dX0_comparison_111 hz
  refine zv_icmp_eq (tgt := 31) G dX0_comparison_14 (by decide) (fun c_14 => ?_) (fun c_14 => ?_)
  · refine zv_sub [2, 3, 1, 0] (lv' := [(0, za_O 16 90), (1, za_I 3), (2, za_I r_2), (3, za_I r_7)]) rfl ?_
    exact J_31 σ hz (by first | exact h_7.resolve_left (by rw [c_26]; decide) | exact h_7.resolve_left (by rw [c_20]; decide) | exact h_7.resolve_left (by rw [c_14]; decide))
  · refine zv_iload_n (j := 0) G dX0_comparison_17 rfl rfl ?_
    refine zv_bipush (v := 62) G dX0_comparison_18 (by decide) ?_
    refine zv_icmp_eq (tgt := 31) G dX0_comparison_20 (by decide) (fun c_20 => ?_) (fun c_20 => ?_)
    · refine zv_sub [2, 3, 1, 0] (lv' := [(0, za_O 16 90), (1, za_I 3), (2, za_I r_2), (3, za_I r_7)]) rfl ?_
      exact J_31 σ hz (by first | exact h_7.resolve_left (by rw [c_26]; decide) | exact h_7.resolve_left (by rw [c_20]; decide) | exact h_7.resolve_left (by rw [c_14]; decide))
    · refine zv_iload_n (j := 0) G dX0_comparison_23 rfl rfl ?_
      refine zv_bipush (v := 61) G dX0_comparison_24 (by decide) ?_
      refine zv_icmp_eq (tgt := 31) G dX0_comparison_26 (by decide) (fun c_26 => ?_) (fun c_26 => ?_)
      · refine zv_sub [2, 3, 1, 0] (lv' := [(0, za_O 16 90), (1, za_I 3), (2, za_I r_2), (3, za_I r_7)]) rfl ?_
        exact J_31 σ hz (by first | exact h_7.resolve_left (by rw [c_26]; decide) | exact h_7.resolve_left (by rw [c_20]; decide) | exact h_7.resolve_left (by rw [c_14]; decide))
      · refine zv_iload_n (j := 1) G dX0_comparison_29 rfl rfl ?_
        exact zv_iret G hr dX0_comparison_30 hz
set_option maxHeartbeats 4000000 in
set_option maxRecDepth 100000 in
theorem zc_X0_thing_at2 (l : Launch) (E : za_E) (mx : Int) (σ0 : za_S) (hp : 0 ≤ (σ0.1 90 3).toInt ∧ (σ0.1 90 3).toInt ≤ mx) (hm : 42 ≤ mx ∧ mx ≤ 44) : zMi l E yX0_thing cX0_thing 5 (Option.some Jvm.ClassFile.FieldType.int) 14 332 [za_O 16 90, za_I 2] σ0 (fun r σ' => zf mx σ0 σ') := by
  refine zMi_of [(0, za_O 16 90), (1, za_I 2)] (by decide) rfl rfl (Nat.le_of_ble_eq_true rfl) ?_
  intro ho p e s m args below meth c G hr
  refine zv_gen (R9 := zf mx σ0) ⟨zc_r σ0, hp⟩ (fun σ hz => ?_)
  refine zv_iconst (v := 0) G dX0_thing_0 (by decide) ?_
  refine zv_istore_n (lv' := [(2, za_I 0), (0, za_O 16 90), (1, za_I 2)]) G dX0_thing_1 rfl (by decide) rfl ?_
  refine zv_iconst (v := 0) G dX0_thing_2 (by decide) ?_
  have J_4 : ∀ (n : Nat) (y2_4 : Int32) (y3_4 : Int32) (σ : za_S) (hz : zf mx σ0 σ) (hn_4 : (2147483648 - y3_4.toInt).toNat < n), zV p l e (zRm 14 332) s m args below meth c E (za_A E) 5 0 0 (MQ below (va_Qi (fun r σ' => zf mx σ0 σ') (zB E) (za_A E)) args s 0 0 (za_A E)) 4 [(0, za_O 16 90), (1, za_I 2), (2, za_I y2_4), (3, za_I y3_4)] [] σ := by
    intro n
    induction n with
    | zero => intro y2_4 y3_4 σ hz hn; exact absurd hn (Nat.not_lt_zero _)
    | succ n ih_4 =>
      intro y2_4 y3_4 σ hz hn_4
      refine zv_iload_n (j := 3) G dX0_thing_4 rfl rfl ?_
      refine zv_bipush (v := 40) G dX0_thing_5 (by decide) ?_
      have J_45 : ∀  (σ : za_S) (hz : zf mx σ0 σ), zV p l e (zRm 14 332) s m args below meth c E (za_A E) 5 0 0 (MQ below (va_Qi (fun r σ' => zf mx σ0 σ') (zB E) (za_A E)) args s 0 0 (za_A E)) 45 [(0, za_O 16 90), (1, za_I 2), (2, za_I y2_4)] [] σ := by
        intro σ hz
        refine zv_aload_n (j := 0) G dX0_thing_45 rfl rfl ?_
        refine zv_callVi (as := []) G (by decide) rfl rfl (zc_X0_peek l E  σ hz.2.1) zk_X0_peek zm_924 rfl ⟨(Nat.le_of_ble_eq_true rfl), (Nat.le_of_ble_eq_true rfl)⟩ ⟨Nat.zero_le _, Nat.zero_le _⟩ (Nat.le_of_ble_eq_true rfl) dX0_thing_46 (fun r_46 σ h_46 => ?_)
        obtain ⟨h_46, rfl⟩ := h_46
        refine zv_istore_n (lv' := [(3, za_I r_46), (0, za_O 16 90), (1, za_I 2), (2, za_I y2_4)]) G dX0_thing_49 rfl (by decide) rfl ?_
        refine zv_iload_n (j := 0) G dX0_thing_50 rfl rfl ?_
        refine zv_bipush (v := 48) G dX0_thing_51 (by decide) ?_
        have J_134 : ∀ (y4_134 : Int32) (σ : za_S) (hz : zf mx σ0 σ), zV p l e (zRm 14 332) s m args below meth c E (za_A E) 5 0 0 (MQ below (va_Qi (fun r σ' => zf mx σ0 σ') (zB E) (za_A E)) args s 0 0 (za_A E)) 134 [(2, za_I y2_4), (4, za_I y4_134)] [] σ := by
          intro y4_134 σ hz
          refine zv_iload_n (j := 0) G dX0_thing_134 rfl rfl ?_
          refine zv_if_eq (tgt := 144) G dX0_thing_135 (by decide) (fun c_135 => ?_) (fun c_135 => ?_)
          · refine zv_iload (j := 1) G dX0_thing_144 rfl ?_
            exact zv_iret G hr dX0_thing_146 hz
          · refine zv_iload (j := 1) G dX0_thing_138 rfl ?_
            refine zv_ineg G dX0_thing_140 ?_
            refine zv_goto (tgt := 146) G dX0_thing_141 (by decide) ?_
            exact zv_iret G hr dX0_thing_146 hz
        have J_71 : ∀  (σ : za_S) (hz : zf mx σ0 σ) (q_71 : r_46 = -1 ∨ (σ.1 90 3).toInt < 40), zV p l e (zRm 14 332) s m args below meth c E (za_A E) 5 0 0 (MQ below (va_Qi (fun r σ' => zf mx σ0 σ') (zB E) (za_A E)) args s 0 0 (za_A E)) 71 [(0, za_O 16 90), (1, za_I 2), (2, za_I y2_4), (3, za_I r_46)] [] σ := by
          intro σ hz q_71
          refine zv_iload_n (j := 3) G dX0_thing_71 rfl rfl ?_
          refine zv_bipush (v := 40) G dX0_thing_72 (by decide) ?_
          refine zv_icmp_ne (tgt := 127) G dX0_thing_74 (by decide) (fun c_74 => ?_) (fun c_74 => ?_)
          · refine zv_aload_n (j := 0) G dX0_thing_127 rfl rfl ?_
            refine zv_iload_n (j := 3) G dX0_thing_128 rfl rfl ?_
            refine zv_callVi (as := [za_I r_46]) G (by decide) rfl rfl (zc_X0_ofRow l E r_46 mx σ hz.2 (by omega) q_71) zk_X0_ofRow zm_936 rfl ⟨(Nat.le_of_ble_eq_true rfl), (Nat.le_of_ble_eq_true rfl)⟩ ⟨Nat.zero_le _, Nat.zero_le _⟩ (Nat.le_of_ble_eq_true rfl) dX0_thing_129 (fun r_129 σ h_129 => ?_)
            have hz9 := h_129
            have hz := zf_t hz hz9
            refine zv_istore (lv' := [(4, za_I r_129), (0, za_O 16 90), (1, za_I 2), (2, za_I y2_4), (3, za_I r_46)]) G dX0_thing_132 (by decide) rfl ?_
            refine zv_sub [3, 0] (lv' := [(2, za_I y2_4), (4, za_I r_129)]) rfl ?_
            exact J_134 r_129 σ hz
          · refine zv_iload_n (j := 1) G dX0_thing_77 rfl rfl ?_
            refine zv_iconst (v := 4) G dX0_thing_78 (by decide) ?_
            refine zv_icmp_ge (tgt := 127) G dX0_thing_79 (by decide) (fun c_79 => ?_) (fun c_79 => ?_)
            · exact absurd c_79 (by decide)
            · refine zv_aload_n (j := 0) G dX0_thing_82 rfl rfl ?_
              refine zv_dupO G dX0_thing_83 ?_
              refine zg_X0_45 G dX0_thing_84 ?_
              refine zv_iconst (v := 1) G dX0_thing_87 (by decide) ?_
              refine zv_iadd G dX0_thing_88 ?_
              refine zp_X0_45 G dX0_thing_89 ?_
              refine zv_gen (R9 := zf 40 σ0) (zf_i40 hz (q_71.resolve_left (by rw [c_74]; decide))) (fun σ hz => ?_)
              refine zv_aload_n (j := 0) G dX0_thing_92 rfl rfl ?_
              refine zv_iload_n (j := 1) G dX0_thing_93 rfl rfl ?_
              refine zv_iconst (v := 1) G dX0_thing_94 (by decide) ?_
              refine zv_iadd G dX0_thing_95 ?_
              refine zv_cst (y := 3) (by decide) ?_
              refine zv_callVi (as := [za_I 3]) G (by decide) rfl rfl (zc_X0_comparison_at3 l E 41 σ ⟨hz.2.1, by have := hz.2.2; omega⟩ (by omega)) zk_X0_comparison zm_908 rfl ⟨(Nat.le_of_ble_eq_true rfl), (Nat.le_of_ble_eq_true rfl)⟩ ⟨Nat.zero_le _, Nat.zero_le _⟩ (Nat.le_of_ble_eq_true rfl) dX0_thing_96 (fun r_96 σ h_96 => ?_)
              have hz9 := h_96
              have hz := zf_t hz hz9
              refine zv_istore (lv' := [(4, za_I r_96), (0, za_O 16 90), (1, za_I 2), (2, za_I y2_4), (3, za_I r_46)]) G dX0_thing_99 (by decide) rfl ?_
              refine zv_aload_n (j := 1) G dX0_thing_101 rfl rfl ?_
              refine zv_callVi (as := []) G (by decide) rfl rfl (zc_X0_peek l E  σ hz.2.1) zk_X0_peek zm_924 rfl ⟨(Nat.le_of_ble_eq_true rfl), (Nat.le_of_ble_eq_true rfl)⟩ ⟨Nat.zero_le _, Nat.zero_le _⟩ (Nat.le_of_ble_eq_true rfl) dX0_thing_102 (fun r_102 σ h_102 => ?_)
              obtain ⟨h_102, rfl⟩ := h_102
              refine zv_bipush (v := 41) G dX0_thing_105 (by decide) ?_
              have J_114 : ∀  (σ : za_S) (hz : zf 41 σ0 σ), zV p l e (zRm 14 332) s m args below meth c E (za_A E) 5 0 0 (MQ below (va_Qi (fun r σ' => zf mx σ0 σ') (zB E) (za_A E)) args s 0 0 (za_A E)) 114 [(0, za_O 16 90), (2, za_I y2_4), (4, za_I r_96)] [] σ := by
                intro σ hz
                refine zv_aload_n (j := 0) G dX0_thing_114 rfl rfl ?_
                refine zv_dupO G dX0_thing_115 ?_
                refine zg_X0_45 G dX0_thing_116 ?_
                refine zv_iconst (v := 1) G dX0_thing_119 (by decide) ?_
                refine zv_iadd G dX0_thing_120 ?_
                refine zp_X0_45 G dX0_thing_121 ?_
                refine zv_gen (R9 := zf mx σ0) (zf_up hz (by omega) (by decide)) (fun σ hz => ?_)
                refine zv_goto (tgt := 134) G dX0_thing_124 (by decide) ?_
                refine zv_sub [1, 2] (lv' := [(2, za_I y2_4), (4, za_I r_96)]) rfl ?_
                exact J_134 r_96 σ hz
              refine zv_icmp_eq (tgt := 114) G dX0_thing_107 (by decide) (fun c_107 => ?_) (fun c_107 => ?_)
              · refine zv_sub [1, 3, 0] (lv' := [(0, za_O 16 90), (2, za_I y2_4), (4, za_I r_96)]) rfl ?_
                exact J_114 σ hz
              · refine zv_aload_n (j := 1) G dX0_thing_110 rfl rfl ?_
                refine zv_callVv (as := []) G (by decide) rfl rfl (zc_X0_fail l E 41 σ hz.2) zk_X0_fail zm_932 rfl ⟨(Nat.le_of_ble_eq_true rfl), (Nat.le_of_ble_eq_true rfl)⟩ ⟨Nat.zero_le _, Nat.zero_le _⟩ (Nat.le_of_ble_eq_true rfl) dX0_thing_111 (fun σ h_111 => ?_)
                have hz9 := h_111
                have hz := zf_t hz hz9
                refine zv_sub [1, 3, 0] (lv' := [(0, za_O 16 90), (2, za_I y2_4), (4, za_I r_96)]) rfl ?_
                exact J_114 σ hz
        refine zv_icmp_lt (tgt := 71) G dX0_thing_53 (by decide) (fun c_53 => ?_) (fun c_53 => ?_)
        · refine zv_sub [1, 2, 3, 0] (lv' := [(0, za_O 16 90), (1, za_I 2), (2, za_I y2_4), (3, za_I r_46)]) rfl ?_
          exact J_71 σ hz h_46
        · refine zv_iload_n (j := 0) G dX0_thing_56 rfl rfl ?_
          refine zv_bipush (v := 57) G dX0_thing_57 (by decide) ?_
          refine zv_icmp_gt (tgt := 71) G dX0_thing_59 (by decide) (fun c_59 => ?_) (fun c_59 => ?_)
          · refine zv_sub [1, 2, 3, 0] (lv' := [(0, za_O 16 90), (1, za_I 2), (2, za_I y2_4), (3, za_I r_46)]) rfl ?_
            exact J_71 σ hz h_46
          · refine zv_aload_n (j := 1) G dX0_thing_62 rfl rfl ?_
            refine zv_callVi (as := []) G (by decide) rfl rfl (zc_X0_digits l E mx σ hz.2 (by omega)) zk_X0_digits zm_928 rfl ⟨(Nat.le_of_ble_eq_true rfl), (Nat.le_of_ble_eq_true rfl)⟩ ⟨Nat.zero_le _, Nat.zero_le _⟩ (Nat.le_of_ble_eq_true rfl) dX0_thing_63 (fun r_63 σ h_63 => ?_)
            have hz9 := h_63
            have hz := zf_t hz hz9
            refine zv_istore (lv' := [(4, za_I r_63), (3, za_I r_46), (0, za_O 16 90), (1, za_I 2), (2, za_I y2_4)]) G dX0_thing_66 (by decide) rfl ?_
            refine zv_goto (tgt := 134) G dX0_thing_68 (by decide) ?_
            refine zv_sub [4, 0] (lv' := [(2, za_I y2_4), (4, za_I r_63)]) rfl ?_
            exact J_134 r_63 σ hz
      refine zv_icmp_ge (tgt := 45) G dX0_thing_7 (by decide) (fun c_7 => ?_) (fun c_7 => ?_)
      · refine zv_sub [0, 1, 2] (lv' := [(0, za_O 16 90), (1, za_I 2), (2, za_I y2_4)]) rfl ?_
        exact J_45 σ hz
      · refine zv_aload_n (j := 0) G dX0_thing_10 rfl rfl ?_
        refine zv_callVi (as := []) G (by decide) rfl rfl (zc_X0_peek l E  σ hz.2.1) zk_X0_peek zm_924 rfl ⟨(Nat.le_of_ble_eq_true rfl), (Nat.le_of_ble_eq_true rfl)⟩ ⟨Nat.zero_le _, Nat.zero_le _⟩ (Nat.le_of_ble_eq_true rfl) dX0_thing_11 (fun r_11 σ h_11 => ?_)
        obtain ⟨h_11, rfl⟩ := h_11
        refine zv_bipush (v := 45) G dX0_thing_14 (by decide) ?_
        refine zv_icmp_ne (tgt := 45) G dX0_thing_16 (by decide) (fun c_16 => ?_) (fun c_16 => ?_)
        · refine zv_sub [0, 1, 2] (lv' := [(0, za_O 16 90), (1, za_I 2), (2, za_I y2_4)]) rfl ?_
          exact J_45 σ hz
        · refine zv_iload_n (j := 2) G dX0_thing_19 rfl rfl ?_
          have J_28 : ∀ (s0_28 : Int32) (σ : za_S) (hz : zf mx σ0 σ) (q_28 : (σ.1 90 3).toInt < 40), zV p l e (zRm 14 332) s m args below meth c E (za_A E) 5 0 0 (MQ below (va_Qi (fun r σ' => zf mx σ0 σ') (zB E) (za_A E)) args s 0 0 (za_A E)) 28 [(0, za_O 16 90), (1, za_I 2), (3, za_I y3_4)] [za_I s0_28] σ := by
            intro s0_28 σ hz q_28
            refine zv_istore_n (lv' := [(2, za_I s0_28), (0, za_O 16 90), (1, za_I 2), (3, za_I y3_4)]) G dX0_thing_28 rfl (by decide) rfl ?_
            refine zv_aload_n (j := 1) G dX0_thing_29 rfl rfl ?_
            refine zv_dupO G dX0_thing_30 ?_
            refine zg_X0_45 G dX0_thing_31 ?_
            refine zv_iconst (v := 1) G dX0_thing_34 (by decide) ?_
            refine zv_iadd G dX0_thing_35 ?_
            refine zp_X0_45 G dX0_thing_36 ?_
            refine zv_gen (R9 := zf mx σ0) (zf_inc hz q_28 (by decide) (by omega)) (fun σ hz => ?_)
            obtain ⟨x_39, e_39⟩ : ∃ y : Int32, y = y3_4 + 1 := ⟨_, rfl⟩
            refine zv_iinc (j := 3) (v := x_39) (lv' := [(3, za_I x_39), (2, za_I s0_28), (0, za_O 16 90), (1, za_I 2)]) G dX0_thing_39 rfl (by rw [e_39]; rfl) (by decide) rfl ?_
            refine zv_goto (tgt := 4) G dX0_thing_42 (by decide) ?_
            refine zv_sub [2, 3, 1, 0] (lv' := [(0, za_O 16 90), (1, za_I 2), (2, za_I s0_28), (3, za_I x_39)]) rfl ?_
            exact ih_4 s0_28 x_39 σ hz (z_meas c_7 e_39 hn_4)
          refine zv_if_ne (tgt := 27) G dX0_thing_20 (by decide) (fun c_20 => ?_) (fun c_20 => ?_)
          · refine zv_iconst (v := 0) G dX0_thing_27 (by decide) ?_
            refine zv_sub [0, 1, 3] (lv' := [(0, za_O 16 90), (1, za_I 2), (3, za_I y3_4)]) rfl ?_
            exact J_28 (0 : Int32) σ hz (h_11.resolve_left (by rw [c_16]; decide))
          · refine zv_iconst (v := 1) G dX0_thing_23 (by decide) ?_
            refine zv_goto (tgt := 28) G dX0_thing_24 (by decide) ?_
            refine zv_sub [0, 1, 3] (lv' := [(0, za_O 16 90), (1, za_I 2), (3, za_I y3_4)]) rfl ?_
            exact J_28 (1 : Int32) σ hz (h_11.resolve_left (by rw [c_16]; decide))
  refine zv_istore_n (lv' := [(3, za_I 0), (2, za_I 0), (0, za_O 16 90), (1, za_I 2)]) G dX0_thing_3 rfl (by decide) rfl ?_
  refine zv_sub [2, 3, 1, 0] (lv' := [(0, za_O 16 90), (1, za_I 2), (2, za_I 0), (3, za_I 0)]) rfl ?_
  exact J_4 _ (0 : Int32) (0 : Int32) σ hz (Nat.lt_succ_self _)
set_option maxHeartbeats 4000000 in
set_option maxRecDepth 100000 in
theorem zc_X0_product_at2 (l : Launch) (E : za_E) (mx : Int) (σ0 : za_S) (hp : 0 ≤ (σ0.1 90 3).toInt ∧ (σ0.1 90 3).toInt ≤ mx) (hm : 42 ≤ mx ∧ mx ≤ 44) : zMi l E yX0_product cX0_product 6 (Option.some Jvm.ClassFile.FieldType.int) 15 356 [za_O 16 90, za_I 2] σ0 (fun r σ' => zf mx σ0 σ') := by
  refine zMi_of [(0, za_O 16 90), (1, za_I 2)] (by decide) rfl rfl (Nat.le_of_ble_eq_true rfl) ?_
  intro ho p e s m args below meth c G hr
  refine zv_gen (R9 := zf mx σ0) ⟨zc_r σ0, hp⟩ (fun σ hz => ?_)
  refine zv_aload_n (j := 0) G dX0_product_0 rfl rfl ?_
  refine zv_iload_n (j := 1) G dX0_product_1 rfl rfl ?_
  refine zv_callVi (as := [za_I 2]) G (by decide) rfl rfl (zc_X0_thing_at2 l E mx σ hz.2 (by omega)) zk_X0_thing zm_920 rfl ⟨(Nat.le_of_ble_eq_true rfl), (Nat.le_of_ble_eq_true rfl)⟩ ⟨Nat.zero_le _, Nat.zero_le _⟩ (Nat.le_of_ble_eq_true rfl) dX0_product_2 (fun r_2 σ h_2 => ?_)
  have hz9 := h_2
  have hz := zf_t hz hz9
  refine zv_istore_n (lv' := [(2, za_I r_2), (0, za_O 16 90), (1, za_I 2)]) G dX0_product_5 rfl (by decide) rfl ?_
  refine zv_iconst (v := 0) G dX0_product_6 (by decide) ?_
  have J_8 : ∀ (n : Nat) (y2_8 : Int32) (y3_8 : Int32) (σ : za_S) (hz : zf mx σ0 σ) (hn_8 : (2147483648 - y3_8.toInt).toNat < n), zV p l e (zRm 15 356) s m args below meth c E (za_A E) 6 0 0 (MQ below (va_Qi (fun r σ' => zf mx σ0 σ') (zB E) (za_A E)) args s 0 0 (za_A E)) 8 [(0, za_O 16 90), (1, za_I 2), (2, za_I y2_8), (3, za_I y3_8)] [] σ := by
    intro n
    induction n with
    | zero => intro y2_8 y3_8 σ hz hn; exact absurd hn (Nat.not_lt_zero _)
    | succ n ih_8 =>
      intro y2_8 y3_8 σ hz hn_8
      refine zv_iload_n (j := 3) G dX0_product_8 rfl rfl ?_
      refine zv_bipush (v := 40) G dX0_product_9 (by decide) ?_
      refine zv_icmp_ge (tgt := 97) G dX0_product_11 (by decide) (fun c_11 => ?_) (fun c_11 => ?_)
      · refine zv_iload_n (j := 2) G dX0_product_97 rfl rfl ?_
        exact zv_iret G hr dX0_product_98 hz
      · refine zv_aload_n (j := 0) G dX0_product_14 rfl rfl ?_
        refine zv_callVi (as := []) G (by decide) rfl rfl (zc_X0_peek l E  σ hz.2.1) zk_X0_peek zm_924 rfl ⟨(Nat.le_of_ble_eq_true rfl), (Nat.le_of_ble_eq_true rfl)⟩ ⟨Nat.zero_le _, Nat.zero_le _⟩ (Nat.le_of_ble_eq_true rfl) dX0_product_15 (fun r_15 σ h_15 => ?_)
        obtain ⟨h_15, rfl⟩ := h_15
        refine zv_bipush (v := 42) G dX0_product_18 (by decide) ?_
        have J_32 : ∀  (σ : za_S) (hz : zf mx σ0 σ) (q_32 : (σ.1 90 3).toInt < 40), zV p l e (zRm 15 356) s m args below meth c E (za_A E) 6 0 0 (MQ below (va_Qi (fun r σ' => zf mx σ0 σ') (zB E) (za_A E)) args s 0 0 (za_A E)) 32 [(0, za_O 16 90), (1, za_I 2), (2, za_I y2_8), (3, za_I y3_8)] [] σ := by
          intro σ hz q_32
          refine zv_aload_n (j := 0) G dX0_product_32 rfl rfl ?_
          refine zv_callVi (as := []) G (by decide) rfl rfl (zc_X0_peek l E  σ hz.2.1) zk_X0_peek zm_924 rfl ⟨(Nat.le_of_ble_eq_true rfl), (Nat.le_of_ble_eq_true rfl)⟩ ⟨Nat.zero_le _, Nat.zero_le _⟩ (Nat.le_of_ble_eq_true rfl) dX0_product_33 (fun r_33 σ h_33 => ?_)
          obtain ⟨h_33, rfl⟩ := h_33
          refine zv_bipush (v := 42) G dX0_product_36 (by decide) ?_
          have J_46 : ∀ (s0_46 : Int32) (σ : za_S) (hz : zf mx σ0 σ) (q_46 : (σ.1 90 3).toInt < 40), zV p l e (zRm 15 356) s m args below meth c E (za_A E) 6 0 0 (MQ below (va_Qi (fun r σ' => zf mx σ0 σ') (zB E) (za_A E)) args s 0 0 (za_A E)) 46 [(0, za_O 16 90), (1, za_I 2), (2, za_I y2_8), (3, za_I y3_8)] [za_I s0_46] σ := by
            intro s0_46 σ hz q_46
            refine zv_istore (lv' := [(4, za_I s0_46), (0, za_O 16 90), (1, za_I 2), (2, za_I y2_8), (3, za_I y3_8)]) G dX0_product_46 (by decide) rfl ?_
            refine zv_aload_n (j := 1) G dX0_product_48 rfl rfl ?_
            refine zv_dupO G dX0_product_49 ?_
            refine zg_X0_45 G dX0_product_50 ?_
            refine zv_iconst (v := 1) G dX0_product_53 (by decide) ?_
            refine zv_iadd G dX0_product_54 ?_
            refine zp_X0_45 G dX0_product_55 ?_
            refine zv_gen (R9 := zf mx σ0) (zf_inc hz q_46 (by decide) (by omega)) (fun σ hz => ?_)
            refine zv_aload_n (j := 1) G dX0_product_58 rfl rfl ?_
            refine zv_iload_n (j := 2) G dX0_product_59 rfl rfl ?_
            refine zv_callVi (as := [za_I 2]) G (by decide) rfl rfl (zc_X0_thing_at2 l E mx σ hz.2 (by omega)) zk_X0_thing zm_920 rfl ⟨(Nat.le_of_ble_eq_true rfl), (Nat.le_of_ble_eq_true rfl)⟩ ⟨Nat.zero_le _, Nat.zero_le _⟩ (Nat.le_of_ble_eq_true rfl) dX0_product_60 (fun r_60 σ h_60 => ?_)
            have hz9 := h_60
            have hz := zf_t hz hz9
            refine zv_istore (lv' := [(5, za_I r_60), (4, za_I s0_46), (0, za_O 16 90), (1, za_I 2), (2, za_I y2_8), (3, za_I y3_8)]) G dX0_product_63 (by decide) rfl ?_
            refine zv_iload (j := 1) G dX0_product_65 rfl ?_
            refine zv_if_eq (tgt := 77) G dX0_product_67 (by decide) (fun c_67 => ?_) (fun c_67 => ?_)
            · refine zv_iload (j := 0) G dX0_product_77 rfl ?_
              refine zv_if_ne (tgt := 86) G dX0_product_79 (by decide) (fun c_79 => ?_) (fun c_79 => ?_)
              · refine zv_iload_n (j := 4) G dX0_product_86 rfl rfl ?_
                refine zv_iload (j := 0) G dX0_product_87 rfl ?_
                refine zv_idiv G dX0_product_89 c_79 ?_
                refine zv_top (fun x_90 e_90 => ?_)
                refine zv_istore_n (lv' := [(2, za_I x_90), (5, za_I r_60), (4, za_I s0_46), (0, za_O 16 90), (1, za_I 2), (3, za_I y3_8)]) G dX0_product_90 rfl (by decide) rfl ?_
                obtain ⟨x_91, e_91⟩ : ∃ y : Int32, y = y3_8 + 1 := ⟨_, rfl⟩
                refine zv_iinc (j := 5) (v := x_91) (lv' := [(3, za_I x_91), (2, za_I x_90), (5, za_I r_60), (4, za_I s0_46), (0, za_O 16 90), (1, za_I 2)]) G dX0_product_91 rfl (by rw [e_91]; rfl) (by decide) rfl ?_
                refine zv_goto (tgt := 8) G dX0_product_94 (by decide) ?_
                refine zv_sub [4, 5, 1, 0] (lv' := [(0, za_O 16 90), (1, za_I 2), (2, za_I x_90), (3, za_I x_91)]) rfl ?_
                exact ih_8 x_90 x_91 σ hz (z_meas c_11 e_91 hn_8)
              · refine zv_iconst (v := 0) G dX0_product_82 (by decide) ?_
                refine zv_goto (tgt := 90) G dX0_product_83 (by decide) ?_
                refine zv_istore_n (lv' := [(2, za_I 0), (5, za_I r_60), (4, za_I s0_46), (0, za_O 16 90), (1, za_I 2), (3, za_I y3_8)]) G dX0_product_90 rfl (by decide) rfl ?_
                obtain ⟨x_91, e_91⟩ : ∃ y : Int32, y = y3_8 + 1 := ⟨_, rfl⟩
                refine zv_iinc (j := 5) (v := x_91) (lv' := [(3, za_I x_91), (2, za_I 0), (5, za_I r_60), (4, za_I s0_46), (0, za_O 16 90), (1, za_I 2)]) G dX0_product_91 rfl (by rw [e_91]; rfl) (by decide) rfl ?_
                refine zv_goto (tgt := 8) G dX0_product_94 (by decide) ?_
                refine zv_sub [4, 5, 1, 0] (lv' := [(0, za_O 16 90), (1, za_I 2), (2, za_I 0), (3, za_I x_91)]) rfl ?_
                exact ih_8 (0 : Int32) x_91 σ hz (z_meas c_11 e_91 hn_8)
            · refine zv_iload_n (j := 4) G dX0_product_70 rfl rfl ?_
              refine zv_iload (j := 0) G dX0_product_71 rfl ?_
              refine zv_imul G dX0_product_73 ?_
              refine zv_goto (tgt := 90) G dX0_product_74 (by decide) ?_
              refine zv_top (fun x_90 e_90 => ?_)
              refine zv_istore_n (lv' := [(2, za_I x_90), (5, za_I r_60), (4, za_I s0_46), (0, za_O 16 90), (1, za_I 2), (3, za_I y3_8)]) G dX0_product_90 rfl (by decide) rfl ?_
              obtain ⟨x_91, e_91⟩ : ∃ y : Int32, y = y3_8 + 1 := ⟨_, rfl⟩
              refine zv_iinc (j := 5) (v := x_91) (lv' := [(3, za_I x_91), (2, za_I x_90), (5, za_I r_60), (4, za_I s0_46), (0, za_O 16 90), (1, za_I 2)]) G dX0_product_91 rfl (by rw [e_91]; rfl) (by decide) rfl ?_
              refine zv_goto (tgt := 8) G dX0_product_94 (by decide) ?_
              refine zv_sub [4, 5, 1, 0] (lv' := [(0, za_O 16 90), (1, za_I 2), (2, za_I x_90), (3, za_I x_91)]) rfl ?_
              exact ih_8 x_90 x_91 σ hz (z_meas c_11 e_91 hn_8)
          refine zv_icmp_ne (tgt := 45) G dX0_product_38 (by decide) (fun c_38 => ?_) (fun c_38 => ?_)
          · refine zv_iconst (v := 0) G dX0_product_45 (by decide) ?_
            refine zv_sub [0, 1, 2, 3] (lv' := [(0, za_O 16 90), (1, za_I 2), (2, za_I y2_8), (3, za_I y3_8)]) rfl ?_
            exact J_46 (0 : Int32) σ hz q_32
          · refine zv_iconst (v := 1) G dX0_product_41 (by decide) ?_
            refine zv_goto (tgt := 46) G dX0_product_42 (by decide) ?_
            refine zv_sub [0, 1, 2, 3] (lv' := [(0, za_O 16 90), (1, za_I 2), (2, za_I y2_8), (3, za_I y3_8)]) rfl ?_
            exact J_46 (1 : Int32) σ hz q_32
        refine zv_icmp_eq (tgt := 32) G dX0_product_20 (by decide) (fun c_20 => ?_) (fun c_20 => ?_)
        · refine zv_sub [0, 1, 2, 3] (lv' := [(0, za_O 16 90), (1, za_I 2), (2, za_I y2_8), (3, za_I y3_8)]) rfl ?_
          exact J_32 σ hz (by first | exact h_24.resolve_left (by rw [c_29]; decide) | exact h_15.resolve_left (by rw [c_20]; decide))
        · refine zv_aload_n (j := 0) G dX0_product_23 rfl rfl ?_
          refine zv_callVi (as := []) G (by decide) rfl rfl (zc_X0_peek l E  σ hz.2.1) zk_X0_peek zm_924 rfl ⟨(Nat.le_of_ble_eq_true rfl), (Nat.le_of_ble_eq_true rfl)⟩ ⟨Nat.zero_le _, Nat.zero_le _⟩ (Nat.le_of_ble_eq_true rfl) dX0_product_24 (fun r_24 σ h_24 => ?_)
          obtain ⟨h_24, rfl⟩ := h_24
          refine zv_bipush (v := 47) G dX0_product_27 (by decide) ?_
          refine zv_icmp_ne (tgt := 97) G dX0_product_29 (by decide) (fun c_29 => ?_) (fun c_29 => ?_)
          · refine zv_iload_n (j := 2) G dX0_product_97 rfl rfl ?_
            exact zv_iret G hr dX0_product_98 hz
          · refine zv_sub [0, 1, 2, 3] (lv' := [(0, za_O 16 90), (1, za_I 2), (2, za_I y2_8), (3, za_I y3_8)]) rfl ?_
            exact J_32 σ hz (by first | exact h_24.resolve_left (by rw [c_29]; decide) | exact h_15.resolve_left (by rw [c_20]; decide))
  refine zv_istore_n (lv' := [(3, za_I 0), (2, za_I r_2), (0, za_O 16 90), (1, za_I 2)]) G dX0_product_7 rfl (by decide) rfl ?_
  refine zv_sub [2, 3, 1, 0] (lv' := [(0, za_O 16 90), (1, za_I 2), (2, za_I r_2), (3, za_I 0)]) rfl ?_
  exact J_8 _ r_2 (0 : Int32) σ hz (Nat.lt_succ_self _)
set_option maxHeartbeats 4000000 in
set_option maxRecDepth 100000 in
theorem zc_X0_sum_at2 (l : Launch) (E : za_E) (mx : Int) (σ0 : za_S) (hp : 0 ≤ (σ0.1 90 3).toInt ∧ (σ0.1 90 3).toInt ≤ mx) (hm : 42 ≤ mx ∧ mx ≤ 44) : zMi l E yX0_sum cX0_sum 6 (Option.some Jvm.ClassFile.FieldType.int) 16 381 [za_O 16 90, za_I 2] σ0 (fun r σ' => zf mx σ0 σ') := by
  refine zMi_of [(0, za_O 16 90), (1, za_I 2)] (by decide) rfl rfl (Nat.le_of_ble_eq_true rfl) ?_
  intro ho p e s m args below meth c G hr
  refine zv_gen (R9 := zf mx σ0) ⟨zc_r σ0, hp⟩ (fun σ hz => ?_)
  refine zv_aload_n (j := 0) G dX0_sum_0 rfl rfl ?_
  refine zv_iload_n (j := 1) G dX0_sum_1 rfl rfl ?_
  refine zv_callVi (as := [za_I 2]) G (by decide) rfl rfl (zc_X0_product_at2 l E mx σ hz.2 (by omega)) zk_X0_product zm_916 rfl ⟨(Nat.le_of_ble_eq_true rfl), (Nat.le_of_ble_eq_true rfl)⟩ ⟨Nat.zero_le _, Nat.zero_le _⟩ (Nat.le_of_ble_eq_true rfl) dX0_sum_2 (fun r_2 σ h_2 => ?_)
  have hz9 := h_2
  have hz := zf_t hz hz9
  refine zv_istore_n (lv' := [(2, za_I r_2), (0, za_O 16 90), (1, za_I 2)]) G dX0_sum_5 rfl (by decide) rfl ?_
  refine zv_iconst (v := 0) G dX0_sum_6 (by decide) ?_
  have J_8 : ∀ (n : Nat) (y2_8 : Int32) (y3_8 : Int32) (σ : za_S) (hz : zf mx σ0 σ) (hn_8 : (2147483648 - y3_8.toInt).toNat < n), zV p l e (zRm 16 381) s m args below meth c E (za_A E) 6 0 0 (MQ below (va_Qi (fun r σ' => zf mx σ0 σ') (zB E) (za_A E)) args s 0 0 (za_A E)) 8 [(0, za_O 16 90), (1, za_I 2), (2, za_I y2_8), (3, za_I y3_8)] [] σ := by
    intro n
    induction n with
    | zero => intro y2_8 y3_8 σ hz hn; exact absurd hn (Nat.not_lt_zero _)
    | succ n ih_8 =>
      intro y2_8 y3_8 σ hz hn_8
      refine zv_iload_n (j := 3) G dX0_sum_8 rfl rfl ?_
      refine zv_bipush (v := 40) G dX0_sum_9 (by decide) ?_
      refine zv_icmp_ge (tgt := 88) G dX0_sum_11 (by decide) (fun c_11 => ?_) (fun c_11 => ?_)
      · refine zv_iload_n (j := 2) G dX0_sum_88 rfl rfl ?_
        exact zv_iret G hr dX0_sum_89 hz
      · refine zv_aload_n (j := 0) G dX0_sum_14 rfl rfl ?_
        refine zv_callVi (as := []) G (by decide) rfl rfl (zc_X0_peek l E  σ hz.2.1) zk_X0_peek zm_924 rfl ⟨(Nat.le_of_ble_eq_true rfl), (Nat.le_of_ble_eq_true rfl)⟩ ⟨Nat.zero_le _, Nat.zero_le _⟩ (Nat.le_of_ble_eq_true rfl) dX0_sum_15 (fun r_15 σ h_15 => ?_)
        obtain ⟨h_15, rfl⟩ := h_15
        refine zv_bipush (v := 43) G dX0_sum_18 (by decide) ?_
        have J_32 : ∀  (σ : za_S) (hz : zf mx σ0 σ) (q_32 : (σ.1 90 3).toInt < 40), zV p l e (zRm 16 381) s m args below meth c E (za_A E) 6 0 0 (MQ below (va_Qi (fun r σ' => zf mx σ0 σ') (zB E) (za_A E)) args s 0 0 (za_A E)) 32 [(0, za_O 16 90), (1, za_I 2), (2, za_I y2_8), (3, za_I y3_8)] [] σ := by
          intro σ hz q_32
          refine zv_aload_n (j := 0) G dX0_sum_32 rfl rfl ?_
          refine zv_callVi (as := []) G (by decide) rfl rfl (zc_X0_peek l E  σ hz.2.1) zk_X0_peek zm_924 rfl ⟨(Nat.le_of_ble_eq_true rfl), (Nat.le_of_ble_eq_true rfl)⟩ ⟨Nat.zero_le _, Nat.zero_le _⟩ (Nat.le_of_ble_eq_true rfl) dX0_sum_33 (fun r_33 σ h_33 => ?_)
          obtain ⟨h_33, rfl⟩ := h_33
          refine zv_bipush (v := 43) G dX0_sum_36 (by decide) ?_
          have J_46 : ∀ (s0_46 : Int32) (σ : za_S) (hz : zf mx σ0 σ) (q_46 : (σ.1 90 3).toInt < 40), zV p l e (zRm 16 381) s m args below meth c E (za_A E) 6 0 0 (MQ below (va_Qi (fun r σ' => zf mx σ0 σ') (zB E) (za_A E)) args s 0 0 (za_A E)) 46 [(0, za_O 16 90), (1, za_I 2), (2, za_I y2_8), (3, za_I y3_8)] [za_I s0_46] σ := by
            intro s0_46 σ hz q_46
            refine zv_istore (lv' := [(4, za_I s0_46), (0, za_O 16 90), (1, za_I 2), (2, za_I y2_8), (3, za_I y3_8)]) G dX0_sum_46 (by decide) rfl ?_
            refine zv_aload_n (j := 1) G dX0_sum_48 rfl rfl ?_
            refine zv_dupO G dX0_sum_49 ?_
            refine zg_X0_45 G dX0_sum_50 ?_
            refine zv_iconst (v := 1) G dX0_sum_53 (by decide) ?_
            refine zv_iadd G dX0_sum_54 ?_
            refine zp_X0_45 G dX0_sum_55 ?_
            refine zv_gen (R9 := zf mx σ0) (zf_inc hz q_46 (by decide) (by omega)) (fun σ hz => ?_)
            refine zv_aload_n (j := 1) G dX0_sum_58 rfl rfl ?_
            refine zv_iload_n (j := 2) G dX0_sum_59 rfl rfl ?_
            refine zv_callVi (as := [za_I 2]) G (by decide) rfl rfl (zc_X0_product_at2 l E mx σ hz.2 (by omega)) zk_X0_product zm_916 rfl ⟨(Nat.le_of_ble_eq_true rfl), (Nat.le_of_ble_eq_true rfl)⟩ ⟨Nat.zero_le _, Nat.zero_le _⟩ (Nat.le_of_ble_eq_true rfl) dX0_sum_60 (fun r_60 σ h_60 => ?_)
            have hz9 := h_60
            have hz := zf_t hz hz9
            refine zv_istore (lv' := [(5, za_I r_60), (4, za_I s0_46), (0, za_O 16 90), (1, za_I 2), (2, za_I y2_8), (3, za_I y3_8)]) G dX0_sum_63 (by decide) rfl ?_
            refine zv_iload (j := 1) G dX0_sum_65 rfl ?_
            refine zv_if_eq (tgt := 77) G dX0_sum_67 (by decide) (fun c_67 => ?_) (fun c_67 => ?_)
            · refine zv_iload_n (j := 4) G dX0_sum_77 rfl rfl ?_
              refine zv_iload (j := 0) G dX0_sum_78 rfl ?_
              refine zv_isub G dX0_sum_80 ?_
              refine zv_top (fun x_81 e_81 => ?_)
              refine zv_istore_n (lv' := [(2, za_I x_81), (5, za_I r_60), (4, za_I s0_46), (0, za_O 16 90), (1, za_I 2), (3, za_I y3_8)]) G dX0_sum_81 rfl (by decide) rfl ?_
              obtain ⟨x_82, e_82⟩ : ∃ y : Int32, y = y3_8 + 1 := ⟨_, rfl⟩
              refine zv_iinc (j := 5) (v := x_82) (lv' := [(3, za_I x_82), (2, za_I x_81), (5, za_I r_60), (4, za_I s0_46), (0, za_O 16 90), (1, za_I 2)]) G dX0_sum_82 rfl (by rw [e_82]; rfl) (by decide) rfl ?_
              refine zv_goto (tgt := 8) G dX0_sum_85 (by decide) ?_
              refine zv_sub [4, 5, 1, 0] (lv' := [(0, za_O 16 90), (1, za_I 2), (2, za_I x_81), (3, za_I x_82)]) rfl ?_
              exact ih_8 x_81 x_82 σ hz (z_meas c_11 e_82 hn_8)
            · refine zv_iload_n (j := 4) G dX0_sum_70 rfl rfl ?_
              refine zv_iload (j := 0) G dX0_sum_71 rfl ?_
              refine zv_iadd G dX0_sum_73 ?_
              refine zv_goto (tgt := 81) G dX0_sum_74 (by decide) ?_
              refine zv_top (fun x_81 e_81 => ?_)
              refine zv_istore_n (lv' := [(2, za_I x_81), (5, za_I r_60), (4, za_I s0_46), (0, za_O 16 90), (1, za_I 2), (3, za_I y3_8)]) G dX0_sum_81 rfl (by decide) rfl ?_
              obtain ⟨x_82, e_82⟩ : ∃ y : Int32, y = y3_8 + 1 := ⟨_, rfl⟩
              refine zv_iinc (j := 5) (v := x_82) (lv' := [(3, za_I x_82), (2, za_I x_81), (5, za_I r_60), (4, za_I s0_46), (0, za_O 16 90), (1, za_I 2)]) G dX0_sum_82 rfl (by rw [e_82]; rfl) (by decide) rfl ?_
              refine zv_goto (tgt := 8) G dX0_sum_85 (by decide) ?_
              refine zv_sub [4, 5, 1, 0] (lv' := [(0, za_O 16 90), (1, za_I 2), (2, za_I x_81), (3, za_I x_82)]) rfl ?_
              exact ih_8 x_81 x_82 σ hz (z_meas c_11 e_82 hn_8)
          refine zv_icmp_ne (tgt := 45) G dX0_sum_38 (by decide) (fun c_38 => ?_) (fun c_38 => ?_)
          · refine zv_iconst (v := 0) G dX0_sum_45 (by decide) ?_
            refine zv_sub [0, 1, 2, 3] (lv' := [(0, za_O 16 90), (1, za_I 2), (2, za_I y2_8), (3, za_I y3_8)]) rfl ?_
            exact J_46 (0 : Int32) σ hz q_32
          · refine zv_iconst (v := 1) G dX0_sum_41 (by decide) ?_
            refine zv_goto (tgt := 46) G dX0_sum_42 (by decide) ?_
            refine zv_sub [0, 1, 2, 3] (lv' := [(0, za_O 16 90), (1, za_I 2), (2, za_I y2_8), (3, za_I y3_8)]) rfl ?_
            exact J_46 (1 : Int32) σ hz q_32
        refine zv_icmp_eq (tgt := 32) G dX0_sum_20 (by decide) (fun c_20 => ?_) (fun c_20 => ?_)
        · refine zv_sub [0, 1, 2, 3] (lv' := [(0, za_O 16 90), (1, za_I 2), (2, za_I y2_8), (3, za_I y3_8)]) rfl ?_
          exact J_32 σ hz (by first | exact h_24.resolve_left (by rw [c_29]; decide) | exact h_15.resolve_left (by rw [c_20]; decide))
        · refine zv_aload_n (j := 0) G dX0_sum_23 rfl rfl ?_
          refine zv_callVi (as := []) G (by decide) rfl rfl (zc_X0_peek l E  σ hz.2.1) zk_X0_peek zm_924 rfl ⟨(Nat.le_of_ble_eq_true rfl), (Nat.le_of_ble_eq_true rfl)⟩ ⟨Nat.zero_le _, Nat.zero_le _⟩ (Nat.le_of_ble_eq_true rfl) dX0_sum_24 (fun r_24 σ h_24 => ?_)
          obtain ⟨h_24, rfl⟩ := h_24
          refine zv_bipush (v := 45) G dX0_sum_27 (by decide) ?_
          refine zv_icmp_ne (tgt := 88) G dX0_sum_29 (by decide) (fun c_29 => ?_) (fun c_29 => ?_)
          · refine zv_iload_n (j := 2) G dX0_sum_88 rfl rfl ?_
            exact zv_iret G hr dX0_sum_89 hz
          · refine zv_sub [0, 1, 2, 3] (lv' := [(0, za_O 16 90), (1, za_I 2), (2, za_I y2_8), (3, za_I y3_8)]) rfl ?_
            exact J_32 σ hz (by first | exact h_24.resolve_left (by rw [c_29]; decide) | exact h_15.resolve_left (by rw [c_20]; decide))
  refine zv_istore_n (lv' := [(3, za_I 0), (2, za_I r_2), (0, za_O 16 90), (1, za_I 2)]) G dX0_sum_7 rfl (by decide) rfl ?_
  refine zv_sub [2, 3, 1, 0] (lv' := [(0, za_O 16 90), (1, za_I 2), (2, za_I r_2), (3, za_I 0)]) rfl ?_
  exact J_8 _ r_2 (0 : Int32) σ hz (Nat.lt_succ_self _)
set_option maxHeartbeats 4000000 in
set_option maxRecDepth 100000 in
theorem zc_X0_comparison_at2 (l : Launch) (E : za_E) (mx : Int) (σ0 : za_S) (hp : 0 ≤ (σ0.1 90 3).toInt ∧ (σ0.1 90 3).toInt ≤ mx) (hm : 42 ≤ mx ∧ mx ≤ 44) : zMi l E yX0_comparison cX0_comparison 6 (Option.some Jvm.ClassFile.FieldType.int) 17 406 [za_O 16 90, za_I 2] σ0 (fun r σ' => zf mx σ0 σ') := by
  refine zMi_of [(0, za_O 16 90), (1, za_I 2)] (by decide) rfl rfl (Nat.le_of_ble_eq_true rfl) ?_
  intro ho p e s m args below meth c G hr
  refine zv_gen (R9 := zf mx σ0) ⟨zc_r σ0, hp⟩ (fun σ hz => ?_)
  refine zv_aload_n (j := 0) G dX0_comparison_0 rfl rfl ?_
  refine zv_iload_n (j := 1) G dX0_comparison_1 rfl rfl ?_
  refine zv_callVi (as := [za_I 2]) G (by decide) rfl rfl (zc_X0_sum_at2 l E mx σ hz.2 (by omega)) zk_X0_sum zm_912 rfl ⟨(Nat.le_of_ble_eq_true rfl), (Nat.le_of_ble_eq_true rfl)⟩ ⟨Nat.zero_le _, Nat.zero_le _⟩ (Nat.le_of_ble_eq_true rfl) dX0_comparison_2 (fun r_2 σ h_2 => ?_)
  have hz9 := h_2
  have hz := zf_t hz hz9
  refine zv_istore_n (lv' := [(2, za_I r_2), (0, za_O 16 90), (1, za_I 2)]) G dX0_comparison_5 rfl (by decide) rfl ?_
  refine zv_aload_n (j := 1) G dX0_comparison_6 rfl rfl ?_
  refine zv_callVi (as := []) G (by decide) rfl rfl (zc_X0_peek l E  σ hz.2.1) zk_X0_peek zm_924 rfl ⟨(Nat.le_of_ble_eq_true rfl), (Nat.le_of_ble_eq_true rfl)⟩ ⟨Nat.zero_le _, Nat.zero_le _⟩ (Nat.le_of_ble_eq_true rfl) dX0_comparison_7 (fun r_7 σ h_7 => ?_)
  obtain ⟨h_7, rfl⟩ := h_7
  refine zv_istore_n (lv' := [(3, za_I r_7), (2, za_I r_2), (0, za_O 16 90), (1, za_I 2)]) G dX0_comparison_10 rfl (by decide) rfl ?_
  refine zv_iload_n (j := 0) G dX0_comparison_11 rfl rfl ?_
  refine zv_bipush (v := 60) G dX0_comparison_12 (by decide) ?_
  have J_31 : ∀  (σ : za_S) (hz : zf mx σ0 σ) (q_31 : (σ.1 90 3).toInt < 40), zV p l e (zRm 17 406) s m args below meth c E (za_A E) 6 0 0 (MQ below (va_Qi (fun r σ' => zf mx σ0 σ') (zB E) (za_A E)) args s 0 0 (za_A E)) 31 [(0, za_O 16 90), (1, za_I 2), (2, za_I r_2), (3, za_I r_7)] [] σ := by
    intro σ hz q_31
    refine zv_aload_n (j := 0) G dX0_comparison_31 rfl rfl ?_
    refine zv_dupO G dX0_comparison_32 ?_
    refine zg_X0_45 G dX0_comparison_33 ?_
    refine zv_iconst (v := 1) G dX0_comparison_36 (by decide) ?_
    refine zv_iadd G dX0_comparison_37 ?_
    refine zp_X0_45 G dX0_comparison_38 ?_
    refine zv_gen (R9 := zf mx σ0) (zf_inc hz q_31 (by decide) (by omega)) (fun σ hz => ?_)
    refine zv_aload_n (j := 0) G dX0_comparison_41 rfl rfl ?_
    refine zv_iload_n (j := 1) G dX0_comparison_42 rfl rfl ?_
    refine zv_callVi (as := [za_I 2]) G (by decide) rfl rfl (zc_X0_sum_at2 l E mx σ hz.2 (by omega)) zk_X0_sum zm_912 rfl ⟨(Nat.le_of_ble_eq_true rfl), (Nat.le_of_ble_eq_true rfl)⟩ ⟨Nat.zero_le _, Nat.zero_le _⟩ (Nat.le_of_ble_eq_true rfl) dX0_comparison_43 (fun r_43 σ h_43 => ?_)
    have hz9 := h_43
    have hz := zf_t hz hz9
    refine zv_istore (lv' := [(4, za_I r_43), (0, za_O 16 90), (1, za_I 2), (2, za_I r_2), (3, za_I r_7)]) G dX0_comparison_46 (by decide) rfl ?_
    refine zv_iload_n (j := 4) G dX0_comparison_48 rfl rfl ?_
    refine zv_bipush (v := 60) G dX0_comparison_49 (by decide) ?_
    refine zv_icmp_ne (tgt := 68) G dX0_comparison_51 (by decide) (fun c_51 => ?_) (fun c_51 => ?_)
    · refine zv_iload_n (j := 4) G dX0_comparison_68 rfl rfl ?_
      refine zv_bipush (v := 62) G dX0_comparison_69 (by decide) ?_
      refine zv_icmp_ne (tgt := 88) G dX0_comparison_71 (by decide) (fun c_71 => ?_) (fun c_71 => ?_)
      · refine zv_iload_n (j := 3) G dX0_comparison_88 rfl rfl ?_
        refine zv_iload (j := 0) G dX0_comparison_89 rfl ?_
        refine zv_icmp_ne (tgt := 98) G dX0_comparison_91 (by decide) (fun c_91 => ?_) (fun c_91 => ?_)
        · refine zv_iconst (v := 0) G dX0_comparison_98 (by decide) ?_
          refine zv_istore (lv' := [(5, za_I 0), (4, za_I r_43), (0, za_O 16 90), (1, za_I 2), (2, za_I r_2), (3, za_I r_7)]) G dX0_comparison_99 (by decide) rfl ?_
          refine zv_iload (j := 0) G dX0_comparison_101 rfl ?_
          refine zv_if_eq (tgt := 110) G dX0_comparison_103 (by decide) (fun c_103 => ?_) (fun c_103 => ?_)
          · refine zv_iconst (v := 0) G dX0_comparison_110 (by decide) ?_
            exact zv_iret G hr dX0_comparison_111 hz
          · exact absurd c_103 (by decide)
        · refine zv_iconst (v := 1) G dX0_comparison_94 (by decide) ?_
          refine zv_goto (tgt := 99) G dX0_comparison_95 (by decide) ?_
          refine zv_istore (lv' := [(5, za_I 1), (4, za_I r_43), (0, za_O 16 90), (1, za_I 2), (2, za_I r_2), (3, za_I r_7)]) G dX0_comparison_99 (by decide) rfl ?_
          refine zv_iload (j := 0) G dX0_comparison_101 rfl ?_
          refine zv_if_eq (tgt := 110) G dX0_comparison_103 (by decide) (fun c_103 => ?_) (fun c_103 => ?_)
          · exact absurd c_103 (by decide)
          · refine zv_iconst (v := 1) G dX0_comparison_106 (by decide) ?_
            refine zv_goto (tgt := 111) G dX0_comparison_107 (by decide) ?_
            exact zv_iret G hr dX0_comparison_111 hz
      · refine zv_iload_n (j := 3) G dX0_comparison_74 rfl rfl ?_
        refine zv_iload (j := 0) G dX0_comparison_75 rfl ?_
        refine zv_icmp_le (tgt := 84) G dX0_comparison_77 (by decide) (fun c_77 => ?_) (fun c_77 => ?_)
        · refine zv_iconst (v := 0) G dX0_comparison_84 (by decide) ?_
          refine zv_goto (tgt := 99) G dX0_comparison_85 (by decide) ?_
          refine zv_istore (lv' := [(5, za_I 0), (4, za_I r_43), (0, za_O 16 90), (1, za_I 2), (2, za_I r_2), (3, za_I r_7)]) G dX0_comparison_99 (by decide) rfl ?_
          refine zv_iload (j := 0) G dX0_comparison_101 rfl ?_
          refine zv_if_eq (tgt := 110) G dX0_comparison_103 (by decide) (fun c_103 => ?_) (fun c_103 => ?_)
          · refine zv_iconst (v := 0) G dX0_comparison_110 (by decide) ?_
            exact zv_iret G hr dX0_comparison_111 hz
          · exact absurd c_103 (by decide)
        · refine zv_iconst (v := 1) G dX0_comparison_80 (by decide) ?_
          refine zv_goto (tgt := 99) G dX0_comparison_81 (by decide) ?_
          refine zv_istore (lv' := [(5, za_I 1), (4, za_I r_43), (0, za_O 16 90), (1, za_I 2), (2, za_I r_2), (3, za_I r_7)]) G dX0_comparison_99 (by decide) rfl ?_
          refine zv_iload (j := 0) G dX0_comparison_101 rfl ?_
          refine zv_if_eq (tgt := 110) G dX0_comparison_103 (by decide) (fun c_103 => ?_) (fun c_103 => ?_)
          · exact absurd c_103 (by decide)
          · refine zv_iconst (v := 1) G dX0_comparison_106 (by decide) ?_
            refine zv_goto (tgt := 111) G dX0_comparison_107 (by decide) ?_
            exact zv_iret G hr dX0_comparison_111 hz
    · refine zv_iload_n (j := 3) G dX0_comparison_54 rfl rfl ?_
      refine zv_iload (j := 0) G dX0_comparison_55 rfl ?_
      refine zv_icmp_ge (tgt := 64) G dX0_comparison_57 (by decide) (fun c_57 => ?_) (fun c_57 => ?_)
      · refine zv_iconst (v := 0) G dX0_comparison_64 (by decide) ?_
        refine zv_goto (tgt := 99) G dX0_comparison_65 (by decide) ?_
        refine zv_istore (lv' := [(5, za_I 0), (4, za_I r_43), (0, za_O 16 90), (1, za_I 2), (2, za_I r_2), (3, za_I r_7)]) G dX0_comparison_99 (by decide) rfl ?_
        refine zv_iload (j := 0) G dX0_comparison_101 rfl ?_
        refine zv_if_eq (tgt := 110) G dX0_comparison_103 (by decide) (fun c_103 => ?_) (fun c_103 => ?_)
        · refine zv_iconst (v := 0) G dX0_comparison_110 (by decide) ?_
          exact zv_iret G hr dX0_comparison_111 hz
        · exact absurd c_103 (by decide)
      · refine zv_iconst (v := 1) G dX0_comparison_60 (by decide) ?_
        refine zv_goto (tgt := 99) G dX0_comparison_61 (by decide) ?_
        refine zv_istore (lv' := [(5, za_I 1), (4, za_I r_43), (0, za_O 16 90), (1, za_I 2), (2, za_I r_2), (3, za_I r_7)]) G dX0_comparison_99 (by decide) rfl ?_
        refine zv_iload (j := 0) G dX0_comparison_101 rfl ?_
        refine zv_if_eq (tgt := 110) G dX0_comparison_103 (by decide) (fun c_103 => ?_) (fun c_103 => ?_)
        · exact absurd c_103 (by decide)
        · refine zv_iconst (v := 1) G dX0_comparison_106 (by decide) ?_
          refine zv_goto (tgt := 111) G dX0_comparison_107 (by decide) ?_
          exact zv_iret G hr dX0_comparison_111 hz
  refine zv_icmp_eq (tgt := 31) G dX0_comparison_14 (by decide) (fun c_14 => ?_) (fun c_14 => ?_)
  · refine zv_sub [2, 3, 1, 0] (lv' := [(0, za_O 16 90), (1, za_I 2), (2, za_I r_2), (3, za_I r_7)]) rfl ?_
    exact J_31 σ hz (by first | exact h_7.resolve_left (by rw [c_26]; decide) | exact h_7.resolve_left (by rw [c_20]; decide) | exact h_7.resolve_left (by rw [c_14]; decide))
  · refine zv_iload_n (j := 0) G dX0_comparison_17 rfl rfl ?_
    refine zv_bipush (v := 62) G dX0_comparison_18 (by decide) ?_
    refine zv_icmp_eq (tgt := 31) G dX0_comparison_20 (by decide) (fun c_20 => ?_) (fun c_20 => ?_)
    · refine zv_sub [2, 3, 1, 0] (lv' := [(0, za_O 16 90), (1, za_I 2), (2, za_I r_2), (3, za_I r_7)]) rfl ?_
      exact J_31 σ hz (by first | exact h_7.resolve_left (by rw [c_26]; decide) | exact h_7.resolve_left (by rw [c_20]; decide) | exact h_7.resolve_left (by rw [c_14]; decide))
    · refine zv_iload_n (j := 0) G dX0_comparison_23 rfl rfl ?_
      refine zv_bipush (v := 61) G dX0_comparison_24 (by decide) ?_
      refine zv_icmp_eq (tgt := 31) G dX0_comparison_26 (by decide) (fun c_26 => ?_) (fun c_26 => ?_)
      · refine zv_sub [2, 3, 1, 0] (lv' := [(0, za_O 16 90), (1, za_I 2), (2, za_I r_2), (3, za_I r_7)]) rfl ?_
        exact J_31 σ hz (by first | exact h_7.resolve_left (by rw [c_26]; decide) | exact h_7.resolve_left (by rw [c_20]; decide) | exact h_7.resolve_left (by rw [c_14]; decide))
      · refine zv_iload_n (j := 1) G dX0_comparison_29 rfl rfl ?_
        exact zv_iret G hr dX0_comparison_30 hz
set_option maxHeartbeats 4000000 in
set_option maxRecDepth 100000 in
theorem zc_X0_thing_at1 (l : Launch) (E : za_E) (mx : Int) (σ0 : za_S) (hp : 0 ≤ (σ0.1 90 3).toInt ∧ (σ0.1 90 3).toInt ≤ mx) (hm : 43 ≤ mx ∧ mx ≤ 44) : zMi l E yX0_thing cX0_thing 5 (Option.some Jvm.ClassFile.FieldType.int) 18 431 [za_O 16 90, za_I 1] σ0 (fun r σ' => zf mx σ0 σ') := by
  refine zMi_of [(0, za_O 16 90), (1, za_I 1)] (by decide) rfl rfl (Nat.le_of_ble_eq_true rfl) ?_
  intro ho p e s m args below meth c G hr
  refine zv_gen (R9 := zf mx σ0) ⟨zc_r σ0, hp⟩ (fun σ hz => ?_)
  refine zv_iconst (v := 0) G dX0_thing_0 (by decide) ?_
  refine zv_istore_n (lv' := [(2, za_I 0), (0, za_O 16 90), (1, za_I 1)]) G dX0_thing_1 rfl (by decide) rfl ?_
  refine zv_iconst (v := 0) G dX0_thing_2 (by decide) ?_
  have J_4 : ∀ (n : Nat) (y2_4 : Int32) (y3_4 : Int32) (σ : za_S) (hz : zf mx σ0 σ) (hn_4 : (2147483648 - y3_4.toInt).toNat < n), zV p l e (zRm 18 431) s m args below meth c E (za_A E) 5 0 0 (MQ below (va_Qi (fun r σ' => zf mx σ0 σ') (zB E) (za_A E)) args s 0 0 (za_A E)) 4 [(0, za_O 16 90), (1, za_I 1), (2, za_I y2_4), (3, za_I y3_4)] [] σ := by
    intro n
    induction n with
    | zero => intro y2_4 y3_4 σ hz hn; exact absurd hn (Nat.not_lt_zero _)
    | succ n ih_4 =>
      intro y2_4 y3_4 σ hz hn_4
      refine zv_iload_n (j := 3) G dX0_thing_4 rfl rfl ?_
      refine zv_bipush (v := 40) G dX0_thing_5 (by decide) ?_
      have J_45 : ∀  (σ : za_S) (hz : zf mx σ0 σ), zV p l e (zRm 18 431) s m args below meth c E (za_A E) 5 0 0 (MQ below (va_Qi (fun r σ' => zf mx σ0 σ') (zB E) (za_A E)) args s 0 0 (za_A E)) 45 [(0, za_O 16 90), (1, za_I 1), (2, za_I y2_4)] [] σ := by
        intro σ hz
        refine zv_aload_n (j := 0) G dX0_thing_45 rfl rfl ?_
        refine zv_callVi (as := []) G (by decide) rfl rfl (zc_X0_peek l E  σ hz.2.1) zk_X0_peek zm_924 rfl ⟨(Nat.le_of_ble_eq_true rfl), (Nat.le_of_ble_eq_true rfl)⟩ ⟨Nat.zero_le _, Nat.zero_le _⟩ (Nat.le_of_ble_eq_true rfl) dX0_thing_46 (fun r_46 σ h_46 => ?_)
        obtain ⟨h_46, rfl⟩ := h_46
        refine zv_istore_n (lv' := [(3, za_I r_46), (0, za_O 16 90), (1, za_I 1), (2, za_I y2_4)]) G dX0_thing_49 rfl (by decide) rfl ?_
        refine zv_iload_n (j := 0) G dX0_thing_50 rfl rfl ?_
        refine zv_bipush (v := 48) G dX0_thing_51 (by decide) ?_
        have J_134 : ∀ (y4_134 : Int32) (σ : za_S) (hz : zf mx σ0 σ), zV p l e (zRm 18 431) s m args below meth c E (za_A E) 5 0 0 (MQ below (va_Qi (fun r σ' => zf mx σ0 σ') (zB E) (za_A E)) args s 0 0 (za_A E)) 134 [(2, za_I y2_4), (4, za_I y4_134)] [] σ := by
          intro y4_134 σ hz
          refine zv_iload_n (j := 0) G dX0_thing_134 rfl rfl ?_
          refine zv_if_eq (tgt := 144) G dX0_thing_135 (by decide) (fun c_135 => ?_) (fun c_135 => ?_)
          · refine zv_iload (j := 1) G dX0_thing_144 rfl ?_
            exact zv_iret G hr dX0_thing_146 hz
          · refine zv_iload (j := 1) G dX0_thing_138 rfl ?_
            refine zv_ineg G dX0_thing_140 ?_
            refine zv_goto (tgt := 146) G dX0_thing_141 (by decide) ?_
            exact zv_iret G hr dX0_thing_146 hz
        have J_71 : ∀  (σ : za_S) (hz : zf mx σ0 σ) (q_71 : r_46 = -1 ∨ (σ.1 90 3).toInt < 40), zV p l e (zRm 18 431) s m args below meth c E (za_A E) 5 0 0 (MQ below (va_Qi (fun r σ' => zf mx σ0 σ') (zB E) (za_A E)) args s 0 0 (za_A E)) 71 [(0, za_O 16 90), (1, za_I 1), (2, za_I y2_4), (3, za_I r_46)] [] σ := by
          intro σ hz q_71
          refine zv_iload_n (j := 3) G dX0_thing_71 rfl rfl ?_
          refine zv_bipush (v := 40) G dX0_thing_72 (by decide) ?_
          refine zv_icmp_ne (tgt := 127) G dX0_thing_74 (by decide) (fun c_74 => ?_) (fun c_74 => ?_)
          · refine zv_aload_n (j := 0) G dX0_thing_127 rfl rfl ?_
            refine zv_iload_n (j := 3) G dX0_thing_128 rfl rfl ?_
            refine zv_callVi (as := [za_I r_46]) G (by decide) rfl rfl (zc_X0_ofRow l E r_46 mx σ hz.2 (by omega) q_71) zk_X0_ofRow zm_936 rfl ⟨(Nat.le_of_ble_eq_true rfl), (Nat.le_of_ble_eq_true rfl)⟩ ⟨Nat.zero_le _, Nat.zero_le _⟩ (Nat.le_of_ble_eq_true rfl) dX0_thing_129 (fun r_129 σ h_129 => ?_)
            have hz9 := h_129
            have hz := zf_t hz hz9
            refine zv_istore (lv' := [(4, za_I r_129), (0, za_O 16 90), (1, za_I 1), (2, za_I y2_4), (3, za_I r_46)]) G dX0_thing_132 (by decide) rfl ?_
            refine zv_sub [3, 0] (lv' := [(2, za_I y2_4), (4, za_I r_129)]) rfl ?_
            exact J_134 r_129 σ hz
          · refine zv_iload_n (j := 1) G dX0_thing_77 rfl rfl ?_
            refine zv_iconst (v := 4) G dX0_thing_78 (by decide) ?_
            refine zv_icmp_ge (tgt := 127) G dX0_thing_79 (by decide) (fun c_79 => ?_) (fun c_79 => ?_)
            · exact absurd c_79 (by decide)
            · refine zv_aload_n (j := 0) G dX0_thing_82 rfl rfl ?_
              refine zv_dupO G dX0_thing_83 ?_
              refine zg_X0_45 G dX0_thing_84 ?_
              refine zv_iconst (v := 1) G dX0_thing_87 (by decide) ?_
              refine zv_iadd G dX0_thing_88 ?_
              refine zp_X0_45 G dX0_thing_89 ?_
              refine zv_gen (R9 := zf 40 σ0) (zf_i40 hz (q_71.resolve_left (by rw [c_74]; decide))) (fun σ hz => ?_)
              refine zv_aload_n (j := 0) G dX0_thing_92 rfl rfl ?_
              refine zv_iload_n (j := 1) G dX0_thing_93 rfl rfl ?_
              refine zv_iconst (v := 1) G dX0_thing_94 (by decide) ?_
              refine zv_iadd G dX0_thing_95 ?_
              refine zv_cst (y := 2) (by decide) ?_
              refine zv_callVi (as := [za_I 2]) G (by decide) rfl rfl (zc_X0_comparison_at2 l E 42 σ ⟨hz.2.1, by have := hz.2.2; omega⟩ (by omega)) zk_X0_comparison zm_908 rfl ⟨(Nat.le_of_ble_eq_true rfl), (Nat.le_of_ble_eq_true rfl)⟩ ⟨Nat.zero_le _, Nat.zero_le _⟩ (Nat.le_of_ble_eq_true rfl) dX0_thing_96 (fun r_96 σ h_96 => ?_)
              have hz9 := h_96
              have hz := zf_t hz hz9
              refine zv_istore (lv' := [(4, za_I r_96), (0, za_O 16 90), (1, za_I 1), (2, za_I y2_4), (3, za_I r_46)]) G dX0_thing_99 (by decide) rfl ?_
              refine zv_aload_n (j := 1) G dX0_thing_101 rfl rfl ?_
              refine zv_callVi (as := []) G (by decide) rfl rfl (zc_X0_peek l E  σ hz.2.1) zk_X0_peek zm_924 rfl ⟨(Nat.le_of_ble_eq_true rfl), (Nat.le_of_ble_eq_true rfl)⟩ ⟨Nat.zero_le _, Nat.zero_le _⟩ (Nat.le_of_ble_eq_true rfl) dX0_thing_102 (fun r_102 σ h_102 => ?_)
              obtain ⟨h_102, rfl⟩ := h_102
              refine zv_bipush (v := 41) G dX0_thing_105 (by decide) ?_
              have J_114 : ∀  (σ : za_S) (hz : zf 42 σ0 σ), zV p l e (zRm 18 431) s m args below meth c E (za_A E) 5 0 0 (MQ below (va_Qi (fun r σ' => zf mx σ0 σ') (zB E) (za_A E)) args s 0 0 (za_A E)) 114 [(0, za_O 16 90), (2, za_I y2_4), (4, za_I r_96)] [] σ := by
                intro σ hz
                refine zv_aload_n (j := 0) G dX0_thing_114 rfl rfl ?_
                refine zv_dupO G dX0_thing_115 ?_
                refine zg_X0_45 G dX0_thing_116 ?_
                refine zv_iconst (v := 1) G dX0_thing_119 (by decide) ?_
                refine zv_iadd G dX0_thing_120 ?_
                refine zp_X0_45 G dX0_thing_121 ?_
                refine zv_gen (R9 := zf mx σ0) (zf_up hz (by omega) (by decide)) (fun σ hz => ?_)
                refine zv_goto (tgt := 134) G dX0_thing_124 (by decide) ?_
                refine zv_sub [1, 2] (lv' := [(2, za_I y2_4), (4, za_I r_96)]) rfl ?_
                exact J_134 r_96 σ hz
              refine zv_icmp_eq (tgt := 114) G dX0_thing_107 (by decide) (fun c_107 => ?_) (fun c_107 => ?_)
              · refine zv_sub [1, 3, 0] (lv' := [(0, za_O 16 90), (2, za_I y2_4), (4, za_I r_96)]) rfl ?_
                exact J_114 σ hz
              · refine zv_aload_n (j := 1) G dX0_thing_110 rfl rfl ?_
                refine zv_callVv (as := []) G (by decide) rfl rfl (zc_X0_fail l E 42 σ hz.2) zk_X0_fail zm_932 rfl ⟨(Nat.le_of_ble_eq_true rfl), (Nat.le_of_ble_eq_true rfl)⟩ ⟨Nat.zero_le _, Nat.zero_le _⟩ (Nat.le_of_ble_eq_true rfl) dX0_thing_111 (fun σ h_111 => ?_)
                have hz9 := h_111
                have hz := zf_t hz hz9
                refine zv_sub [1, 3, 0] (lv' := [(0, za_O 16 90), (2, za_I y2_4), (4, za_I r_96)]) rfl ?_
                exact J_114 σ hz
        refine zv_icmp_lt (tgt := 71) G dX0_thing_53 (by decide) (fun c_53 => ?_) (fun c_53 => ?_)
        · refine zv_sub [1, 2, 3, 0] (lv' := [(0, za_O 16 90), (1, za_I 1), (2, za_I y2_4), (3, za_I r_46)]) rfl ?_
          exact J_71 σ hz h_46
        · refine zv_iload_n (j := 0) G dX0_thing_56 rfl rfl ?_
          refine zv_bipush (v := 57) G dX0_thing_57 (by decide) ?_
          refine zv_icmp_gt (tgt := 71) G dX0_thing_59 (by decide) (fun c_59 => ?_) (fun c_59 => ?_)
          · refine zv_sub [1, 2, 3, 0] (lv' := [(0, za_O 16 90), (1, za_I 1), (2, za_I y2_4), (3, za_I r_46)]) rfl ?_
            exact J_71 σ hz h_46
          · refine zv_aload_n (j := 1) G dX0_thing_62 rfl rfl ?_
            refine zv_callVi (as := []) G (by decide) rfl rfl (zc_X0_digits l E mx σ hz.2 (by omega)) zk_X0_digits zm_928 rfl ⟨(Nat.le_of_ble_eq_true rfl), (Nat.le_of_ble_eq_true rfl)⟩ ⟨Nat.zero_le _, Nat.zero_le _⟩ (Nat.le_of_ble_eq_true rfl) dX0_thing_63 (fun r_63 σ h_63 => ?_)
            have hz9 := h_63
            have hz := zf_t hz hz9
            refine zv_istore (lv' := [(4, za_I r_63), (3, za_I r_46), (0, za_O 16 90), (1, za_I 1), (2, za_I y2_4)]) G dX0_thing_66 (by decide) rfl ?_
            refine zv_goto (tgt := 134) G dX0_thing_68 (by decide) ?_
            refine zv_sub [4, 0] (lv' := [(2, za_I y2_4), (4, za_I r_63)]) rfl ?_
            exact J_134 r_63 σ hz
      refine zv_icmp_ge (tgt := 45) G dX0_thing_7 (by decide) (fun c_7 => ?_) (fun c_7 => ?_)
      · refine zv_sub [0, 1, 2] (lv' := [(0, za_O 16 90), (1, za_I 1), (2, za_I y2_4)]) rfl ?_
        exact J_45 σ hz
      · refine zv_aload_n (j := 0) G dX0_thing_10 rfl rfl ?_
        refine zv_callVi (as := []) G (by decide) rfl rfl (zc_X0_peek l E  σ hz.2.1) zk_X0_peek zm_924 rfl ⟨(Nat.le_of_ble_eq_true rfl), (Nat.le_of_ble_eq_true rfl)⟩ ⟨Nat.zero_le _, Nat.zero_le _⟩ (Nat.le_of_ble_eq_true rfl) dX0_thing_11 (fun r_11 σ h_11 => ?_)
        obtain ⟨h_11, rfl⟩ := h_11
        refine zv_bipush (v := 45) G dX0_thing_14 (by decide) ?_
        refine zv_icmp_ne (tgt := 45) G dX0_thing_16 (by decide) (fun c_16 => ?_) (fun c_16 => ?_)
        · refine zv_sub [0, 1, 2] (lv' := [(0, za_O 16 90), (1, za_I 1), (2, za_I y2_4)]) rfl ?_
          exact J_45 σ hz
        · refine zv_iload_n (j := 2) G dX0_thing_19 rfl rfl ?_
          have J_28 : ∀ (s0_28 : Int32) (σ : za_S) (hz : zf mx σ0 σ) (q_28 : (σ.1 90 3).toInt < 40), zV p l e (zRm 18 431) s m args below meth c E (za_A E) 5 0 0 (MQ below (va_Qi (fun r σ' => zf mx σ0 σ') (zB E) (za_A E)) args s 0 0 (za_A E)) 28 [(0, za_O 16 90), (1, za_I 1), (3, za_I y3_4)] [za_I s0_28] σ := by
            intro s0_28 σ hz q_28
            refine zv_istore_n (lv' := [(2, za_I s0_28), (0, za_O 16 90), (1, za_I 1), (3, za_I y3_4)]) G dX0_thing_28 rfl (by decide) rfl ?_
            refine zv_aload_n (j := 1) G dX0_thing_29 rfl rfl ?_
            refine zv_dupO G dX0_thing_30 ?_
            refine zg_X0_45 G dX0_thing_31 ?_
            refine zv_iconst (v := 1) G dX0_thing_34 (by decide) ?_
            refine zv_iadd G dX0_thing_35 ?_
            refine zp_X0_45 G dX0_thing_36 ?_
            refine zv_gen (R9 := zf mx σ0) (zf_inc hz q_28 (by decide) (by omega)) (fun σ hz => ?_)
            obtain ⟨x_39, e_39⟩ : ∃ y : Int32, y = y3_4 + 1 := ⟨_, rfl⟩
            refine zv_iinc (j := 3) (v := x_39) (lv' := [(3, za_I x_39), (2, za_I s0_28), (0, za_O 16 90), (1, za_I 1)]) G dX0_thing_39 rfl (by rw [e_39]; rfl) (by decide) rfl ?_
            refine zv_goto (tgt := 4) G dX0_thing_42 (by decide) ?_
            refine zv_sub [2, 3, 1, 0] (lv' := [(0, za_O 16 90), (1, za_I 1), (2, za_I s0_28), (3, za_I x_39)]) rfl ?_
            exact ih_4 s0_28 x_39 σ hz (z_meas c_7 e_39 hn_4)
          refine zv_if_ne (tgt := 27) G dX0_thing_20 (by decide) (fun c_20 => ?_) (fun c_20 => ?_)
          · refine zv_iconst (v := 0) G dX0_thing_27 (by decide) ?_
            refine zv_sub [0, 1, 3] (lv' := [(0, za_O 16 90), (1, za_I 1), (3, za_I y3_4)]) rfl ?_
            exact J_28 (0 : Int32) σ hz (h_11.resolve_left (by rw [c_16]; decide))
          · refine zv_iconst (v := 1) G dX0_thing_23 (by decide) ?_
            refine zv_goto (tgt := 28) G dX0_thing_24 (by decide) ?_
            refine zv_sub [0, 1, 3] (lv' := [(0, za_O 16 90), (1, za_I 1), (3, za_I y3_4)]) rfl ?_
            exact J_28 (1 : Int32) σ hz (h_11.resolve_left (by rw [c_16]; decide))
  refine zv_istore_n (lv' := [(3, za_I 0), (2, za_I 0), (0, za_O 16 90), (1, za_I 1)]) G dX0_thing_3 rfl (by decide) rfl ?_
  refine zv_sub [2, 3, 1, 0] (lv' := [(0, za_O 16 90), (1, za_I 1), (2, za_I 0), (3, za_I 0)]) rfl ?_
  exact J_4 _ (0 : Int32) (0 : Int32) σ hz (Nat.lt_succ_self _)
set_option maxHeartbeats 4000000 in
set_option maxRecDepth 100000 in
theorem zc_X0_product_at1 (l : Launch) (E : za_E) (mx : Int) (σ0 : za_S) (hp : 0 ≤ (σ0.1 90 3).toInt ∧ (σ0.1 90 3).toInt ≤ mx) (hm : 43 ≤ mx ∧ mx ≤ 44) : zMi l E yX0_product cX0_product 6 (Option.some Jvm.ClassFile.FieldType.int) 19 455 [za_O 16 90, za_I 1] σ0 (fun r σ' => zf mx σ0 σ') := by
  refine zMi_of [(0, za_O 16 90), (1, za_I 1)] (by decide) rfl rfl (Nat.le_of_ble_eq_true rfl) ?_
  intro ho p e s m args below meth c G hr
  refine zv_gen (R9 := zf mx σ0) ⟨zc_r σ0, hp⟩ (fun σ hz => ?_)
  refine zv_aload_n (j := 0) G dX0_product_0 rfl rfl ?_
  refine zv_iload_n (j := 1) G dX0_product_1 rfl rfl ?_
  refine zv_callVi (as := [za_I 1]) G (by decide) rfl rfl (zc_X0_thing_at1 l E mx σ hz.2 (by omega)) zk_X0_thing zm_920 rfl ⟨(Nat.le_of_ble_eq_true rfl), (Nat.le_of_ble_eq_true rfl)⟩ ⟨Nat.zero_le _, Nat.zero_le _⟩ (Nat.le_of_ble_eq_true rfl) dX0_product_2 (fun r_2 σ h_2 => ?_)
  have hz9 := h_2
  have hz := zf_t hz hz9
  refine zv_istore_n (lv' := [(2, za_I r_2), (0, za_O 16 90), (1, za_I 1)]) G dX0_product_5 rfl (by decide) rfl ?_
  refine zv_iconst (v := 0) G dX0_product_6 (by decide) ?_
  have J_8 : ∀ (n : Nat) (y2_8 : Int32) (y3_8 : Int32) (σ : za_S) (hz : zf mx σ0 σ) (hn_8 : (2147483648 - y3_8.toInt).toNat < n), zV p l e (zRm 19 455) s m args below meth c E (za_A E) 6 0 0 (MQ below (va_Qi (fun r σ' => zf mx σ0 σ') (zB E) (za_A E)) args s 0 0 (za_A E)) 8 [(0, za_O 16 90), (1, za_I 1), (2, za_I y2_8), (3, za_I y3_8)] [] σ := by
    intro n
    induction n with
    | zero => intro y2_8 y3_8 σ hz hn; exact absurd hn (Nat.not_lt_zero _)
    | succ n ih_8 =>
      intro y2_8 y3_8 σ hz hn_8
      refine zv_iload_n (j := 3) G dX0_product_8 rfl rfl ?_
      refine zv_bipush (v := 40) G dX0_product_9 (by decide) ?_
      refine zv_icmp_ge (tgt := 97) G dX0_product_11 (by decide) (fun c_11 => ?_) (fun c_11 => ?_)
      · refine zv_iload_n (j := 2) G dX0_product_97 rfl rfl ?_
        exact zv_iret G hr dX0_product_98 hz
      · refine zv_aload_n (j := 0) G dX0_product_14 rfl rfl ?_
        refine zv_callVi (as := []) G (by decide) rfl rfl (zc_X0_peek l E  σ hz.2.1) zk_X0_peek zm_924 rfl ⟨(Nat.le_of_ble_eq_true rfl), (Nat.le_of_ble_eq_true rfl)⟩ ⟨Nat.zero_le _, Nat.zero_le _⟩ (Nat.le_of_ble_eq_true rfl) dX0_product_15 (fun r_15 σ h_15 => ?_)
        obtain ⟨h_15, rfl⟩ := h_15
        refine zv_bipush (v := 42) G dX0_product_18 (by decide) ?_
        have J_32 : ∀  (σ : za_S) (hz : zf mx σ0 σ) (q_32 : (σ.1 90 3).toInt < 40), zV p l e (zRm 19 455) s m args below meth c E (za_A E) 6 0 0 (MQ below (va_Qi (fun r σ' => zf mx σ0 σ') (zB E) (za_A E)) args s 0 0 (za_A E)) 32 [(0, za_O 16 90), (1, za_I 1), (2, za_I y2_8), (3, za_I y3_8)] [] σ := by
          intro σ hz q_32
          refine zv_aload_n (j := 0) G dX0_product_32 rfl rfl ?_
          refine zv_callVi (as := []) G (by decide) rfl rfl (zc_X0_peek l E  σ hz.2.1) zk_X0_peek zm_924 rfl ⟨(Nat.le_of_ble_eq_true rfl), (Nat.le_of_ble_eq_true rfl)⟩ ⟨Nat.zero_le _, Nat.zero_le _⟩ (Nat.le_of_ble_eq_true rfl) dX0_product_33 (fun r_33 σ h_33 => ?_)
          obtain ⟨h_33, rfl⟩ := h_33
          refine zv_bipush (v := 42) G dX0_product_36 (by decide) ?_
          have J_46 : ∀ (s0_46 : Int32) (σ : za_S) (hz : zf mx σ0 σ) (q_46 : (σ.1 90 3).toInt < 40), zV p l e (zRm 19 455) s m args below meth c E (za_A E) 6 0 0 (MQ below (va_Qi (fun r σ' => zf mx σ0 σ') (zB E) (za_A E)) args s 0 0 (za_A E)) 46 [(0, za_O 16 90), (1, za_I 1), (2, za_I y2_8), (3, za_I y3_8)] [za_I s0_46] σ := by
            intro s0_46 σ hz q_46
            refine zv_istore (lv' := [(4, za_I s0_46), (0, za_O 16 90), (1, za_I 1), (2, za_I y2_8), (3, za_I y3_8)]) G dX0_product_46 (by decide) rfl ?_
            refine zv_aload_n (j := 1) G dX0_product_48 rfl rfl ?_
            refine zv_dupO G dX0_product_49 ?_
            refine zg_X0_45 G dX0_product_50 ?_
            refine zv_iconst (v := 1) G dX0_product_53 (by decide) ?_
            refine zv_iadd G dX0_product_54 ?_
            refine zp_X0_45 G dX0_product_55 ?_
            refine zv_gen (R9 := zf mx σ0) (zf_inc hz q_46 (by decide) (by omega)) (fun σ hz => ?_)
            refine zv_aload_n (j := 1) G dX0_product_58 rfl rfl ?_
            refine zv_iload_n (j := 2) G dX0_product_59 rfl rfl ?_
            refine zv_callVi (as := [za_I 1]) G (by decide) rfl rfl (zc_X0_thing_at1 l E mx σ hz.2 (by omega)) zk_X0_thing zm_920 rfl ⟨(Nat.le_of_ble_eq_true rfl), (Nat.le_of_ble_eq_true rfl)⟩ ⟨Nat.zero_le _, Nat.zero_le _⟩ (Nat.le_of_ble_eq_true rfl) dX0_product_60 (fun r_60 σ h_60 => ?_)
            have hz9 := h_60
            have hz := zf_t hz hz9
            refine zv_istore (lv' := [(5, za_I r_60), (4, za_I s0_46), (0, za_O 16 90), (1, za_I 1), (2, za_I y2_8), (3, za_I y3_8)]) G dX0_product_63 (by decide) rfl ?_
            refine zv_iload (j := 1) G dX0_product_65 rfl ?_
            refine zv_if_eq (tgt := 77) G dX0_product_67 (by decide) (fun c_67 => ?_) (fun c_67 => ?_)
            · refine zv_iload (j := 0) G dX0_product_77 rfl ?_
              refine zv_if_ne (tgt := 86) G dX0_product_79 (by decide) (fun c_79 => ?_) (fun c_79 => ?_)
              · refine zv_iload_n (j := 4) G dX0_product_86 rfl rfl ?_
                refine zv_iload (j := 0) G dX0_product_87 rfl ?_
                refine zv_idiv G dX0_product_89 c_79 ?_
                refine zv_top (fun x_90 e_90 => ?_)
                refine zv_istore_n (lv' := [(2, za_I x_90), (5, za_I r_60), (4, za_I s0_46), (0, za_O 16 90), (1, za_I 1), (3, za_I y3_8)]) G dX0_product_90 rfl (by decide) rfl ?_
                obtain ⟨x_91, e_91⟩ : ∃ y : Int32, y = y3_8 + 1 := ⟨_, rfl⟩
                refine zv_iinc (j := 5) (v := x_91) (lv' := [(3, za_I x_91), (2, za_I x_90), (5, za_I r_60), (4, za_I s0_46), (0, za_O 16 90), (1, za_I 1)]) G dX0_product_91 rfl (by rw [e_91]; rfl) (by decide) rfl ?_
                refine zv_goto (tgt := 8) G dX0_product_94 (by decide) ?_
                refine zv_sub [4, 5, 1, 0] (lv' := [(0, za_O 16 90), (1, za_I 1), (2, za_I x_90), (3, za_I x_91)]) rfl ?_
                exact ih_8 x_90 x_91 σ hz (z_meas c_11 e_91 hn_8)
              · refine zv_iconst (v := 0) G dX0_product_82 (by decide) ?_
                refine zv_goto (tgt := 90) G dX0_product_83 (by decide) ?_
                refine zv_istore_n (lv' := [(2, za_I 0), (5, za_I r_60), (4, za_I s0_46), (0, za_O 16 90), (1, za_I 1), (3, za_I y3_8)]) G dX0_product_90 rfl (by decide) rfl ?_
                obtain ⟨x_91, e_91⟩ : ∃ y : Int32, y = y3_8 + 1 := ⟨_, rfl⟩
                refine zv_iinc (j := 5) (v := x_91) (lv' := [(3, za_I x_91), (2, za_I 0), (5, za_I r_60), (4, za_I s0_46), (0, za_O 16 90), (1, za_I 1)]) G dX0_product_91 rfl (by rw [e_91]; rfl) (by decide) rfl ?_
                refine zv_goto (tgt := 8) G dX0_product_94 (by decide) ?_
                refine zv_sub [4, 5, 1, 0] (lv' := [(0, za_O 16 90), (1, za_I 1), (2, za_I 0), (3, za_I x_91)]) rfl ?_
                exact ih_8 (0 : Int32) x_91 σ hz (z_meas c_11 e_91 hn_8)
            · refine zv_iload_n (j := 4) G dX0_product_70 rfl rfl ?_
              refine zv_iload (j := 0) G dX0_product_71 rfl ?_
              refine zv_imul G dX0_product_73 ?_
              refine zv_goto (tgt := 90) G dX0_product_74 (by decide) ?_
              refine zv_top (fun x_90 e_90 => ?_)
              refine zv_istore_n (lv' := [(2, za_I x_90), (5, za_I r_60), (4, za_I s0_46), (0, za_O 16 90), (1, za_I 1), (3, za_I y3_8)]) G dX0_product_90 rfl (by decide) rfl ?_
              obtain ⟨x_91, e_91⟩ : ∃ y : Int32, y = y3_8 + 1 := ⟨_, rfl⟩
              refine zv_iinc (j := 5) (v := x_91) (lv' := [(3, za_I x_91), (2, za_I x_90), (5, za_I r_60), (4, za_I s0_46), (0, za_O 16 90), (1, za_I 1)]) G dX0_product_91 rfl (by rw [e_91]; rfl) (by decide) rfl ?_
              refine zv_goto (tgt := 8) G dX0_product_94 (by decide) ?_
              refine zv_sub [4, 5, 1, 0] (lv' := [(0, za_O 16 90), (1, za_I 1), (2, za_I x_90), (3, za_I x_91)]) rfl ?_
              exact ih_8 x_90 x_91 σ hz (z_meas c_11 e_91 hn_8)
          refine zv_icmp_ne (tgt := 45) G dX0_product_38 (by decide) (fun c_38 => ?_) (fun c_38 => ?_)
          · refine zv_iconst (v := 0) G dX0_product_45 (by decide) ?_
            refine zv_sub [0, 1, 2, 3] (lv' := [(0, za_O 16 90), (1, za_I 1), (2, za_I y2_8), (3, za_I y3_8)]) rfl ?_
            exact J_46 (0 : Int32) σ hz q_32
          · refine zv_iconst (v := 1) G dX0_product_41 (by decide) ?_
            refine zv_goto (tgt := 46) G dX0_product_42 (by decide) ?_
            refine zv_sub [0, 1, 2, 3] (lv' := [(0, za_O 16 90), (1, za_I 1), (2, za_I y2_8), (3, za_I y3_8)]) rfl ?_
            exact J_46 (1 : Int32) σ hz q_32
        refine zv_icmp_eq (tgt := 32) G dX0_product_20 (by decide) (fun c_20 => ?_) (fun c_20 => ?_)
        · refine zv_sub [0, 1, 2, 3] (lv' := [(0, za_O 16 90), (1, za_I 1), (2, za_I y2_8), (3, za_I y3_8)]) rfl ?_
          exact J_32 σ hz (by first | exact h_24.resolve_left (by rw [c_29]; decide) | exact h_15.resolve_left (by rw [c_20]; decide))
        · refine zv_aload_n (j := 0) G dX0_product_23 rfl rfl ?_
          refine zv_callVi (as := []) G (by decide) rfl rfl (zc_X0_peek l E  σ hz.2.1) zk_X0_peek zm_924 rfl ⟨(Nat.le_of_ble_eq_true rfl), (Nat.le_of_ble_eq_true rfl)⟩ ⟨Nat.zero_le _, Nat.zero_le _⟩ (Nat.le_of_ble_eq_true rfl) dX0_product_24 (fun r_24 σ h_24 => ?_)
          obtain ⟨h_24, rfl⟩ := h_24
          refine zv_bipush (v := 47) G dX0_product_27 (by decide) ?_
          refine zv_icmp_ne (tgt := 97) G dX0_product_29 (by decide) (fun c_29 => ?_) (fun c_29 => ?_)
          · refine zv_iload_n (j := 2) G dX0_product_97 rfl rfl ?_
            exact zv_iret G hr dX0_product_98 hz
          · refine zv_sub [0, 1, 2, 3] (lv' := [(0, za_O 16 90), (1, za_I 1), (2, za_I y2_8), (3, za_I y3_8)]) rfl ?_
            exact J_32 σ hz (by first | exact h_24.resolve_left (by rw [c_29]; decide) | exact h_15.resolve_left (by rw [c_20]; decide))
  refine zv_istore_n (lv' := [(3, za_I 0), (2, za_I r_2), (0, za_O 16 90), (1, za_I 1)]) G dX0_product_7 rfl (by decide) rfl ?_
  refine zv_sub [2, 3, 1, 0] (lv' := [(0, za_O 16 90), (1, za_I 1), (2, za_I r_2), (3, za_I 0)]) rfl ?_
  exact J_8 _ r_2 (0 : Int32) σ hz (Nat.lt_succ_self _)
set_option maxHeartbeats 4000000 in
set_option maxRecDepth 100000 in
theorem zc_X0_sum_at1 (l : Launch) (E : za_E) (mx : Int) (σ0 : za_S) (hp : 0 ≤ (σ0.1 90 3).toInt ∧ (σ0.1 90 3).toInt ≤ mx) (hm : 43 ≤ mx ∧ mx ≤ 44) : zMi l E yX0_sum cX0_sum 6 (Option.some Jvm.ClassFile.FieldType.int) 20 480 [za_O 16 90, za_I 1] σ0 (fun r σ' => zf mx σ0 σ') := by
  refine zMi_of [(0, za_O 16 90), (1, za_I 1)] (by decide) rfl rfl (Nat.le_of_ble_eq_true rfl) ?_
  intro ho p e s m args below meth c G hr
  refine zv_gen (R9 := zf mx σ0) ⟨zc_r σ0, hp⟩ (fun σ hz => ?_)
  refine zv_aload_n (j := 0) G dX0_sum_0 rfl rfl ?_
  refine zv_iload_n (j := 1) G dX0_sum_1 rfl rfl ?_
  refine zv_callVi (as := [za_I 1]) G (by decide) rfl rfl (zc_X0_product_at1 l E mx σ hz.2 (by omega)) zk_X0_product zm_916 rfl ⟨(Nat.le_of_ble_eq_true rfl), (Nat.le_of_ble_eq_true rfl)⟩ ⟨Nat.zero_le _, Nat.zero_le _⟩ (Nat.le_of_ble_eq_true rfl) dX0_sum_2 (fun r_2 σ h_2 => ?_)
  have hz9 := h_2
  have hz := zf_t hz hz9
  refine zv_istore_n (lv' := [(2, za_I r_2), (0, za_O 16 90), (1, za_I 1)]) G dX0_sum_5 rfl (by decide) rfl ?_
  refine zv_iconst (v := 0) G dX0_sum_6 (by decide) ?_
  have J_8 : ∀ (n : Nat) (y2_8 : Int32) (y3_8 : Int32) (σ : za_S) (hz : zf mx σ0 σ) (hn_8 : (2147483648 - y3_8.toInt).toNat < n), zV p l e (zRm 20 480) s m args below meth c E (za_A E) 6 0 0 (MQ below (va_Qi (fun r σ' => zf mx σ0 σ') (zB E) (za_A E)) args s 0 0 (za_A E)) 8 [(0, za_O 16 90), (1, za_I 1), (2, za_I y2_8), (3, za_I y3_8)] [] σ := by
    intro n
    induction n with
    | zero => intro y2_8 y3_8 σ hz hn; exact absurd hn (Nat.not_lt_zero _)
    | succ n ih_8 =>
      intro y2_8 y3_8 σ hz hn_8
      refine zv_iload_n (j := 3) G dX0_sum_8 rfl rfl ?_
      refine zv_bipush (v := 40) G dX0_sum_9 (by decide) ?_
      refine zv_icmp_ge (tgt := 88) G dX0_sum_11 (by decide) (fun c_11 => ?_) (fun c_11 => ?_)
      · refine zv_iload_n (j := 2) G dX0_sum_88 rfl rfl ?_
        exact zv_iret G hr dX0_sum_89 hz
      · refine zv_aload_n (j := 0) G dX0_sum_14 rfl rfl ?_
        refine zv_callVi (as := []) G (by decide) rfl rfl (zc_X0_peek l E  σ hz.2.1) zk_X0_peek zm_924 rfl ⟨(Nat.le_of_ble_eq_true rfl), (Nat.le_of_ble_eq_true rfl)⟩ ⟨Nat.zero_le _, Nat.zero_le _⟩ (Nat.le_of_ble_eq_true rfl) dX0_sum_15 (fun r_15 σ h_15 => ?_)
        obtain ⟨h_15, rfl⟩ := h_15
        refine zv_bipush (v := 43) G dX0_sum_18 (by decide) ?_
        have J_32 : ∀  (σ : za_S) (hz : zf mx σ0 σ) (q_32 : (σ.1 90 3).toInt < 40), zV p l e (zRm 20 480) s m args below meth c E (za_A E) 6 0 0 (MQ below (va_Qi (fun r σ' => zf mx σ0 σ') (zB E) (za_A E)) args s 0 0 (za_A E)) 32 [(0, za_O 16 90), (1, za_I 1), (2, za_I y2_8), (3, za_I y3_8)] [] σ := by
          intro σ hz q_32
          refine zv_aload_n (j := 0) G dX0_sum_32 rfl rfl ?_
          refine zv_callVi (as := []) G (by decide) rfl rfl (zc_X0_peek l E  σ hz.2.1) zk_X0_peek zm_924 rfl ⟨(Nat.le_of_ble_eq_true rfl), (Nat.le_of_ble_eq_true rfl)⟩ ⟨Nat.zero_le _, Nat.zero_le _⟩ (Nat.le_of_ble_eq_true rfl) dX0_sum_33 (fun r_33 σ h_33 => ?_)
          obtain ⟨h_33, rfl⟩ := h_33
          refine zv_bipush (v := 43) G dX0_sum_36 (by decide) ?_
          have J_46 : ∀ (s0_46 : Int32) (σ : za_S) (hz : zf mx σ0 σ) (q_46 : (σ.1 90 3).toInt < 40), zV p l e (zRm 20 480) s m args below meth c E (za_A E) 6 0 0 (MQ below (va_Qi (fun r σ' => zf mx σ0 σ') (zB E) (za_A E)) args s 0 0 (za_A E)) 46 [(0, za_O 16 90), (1, za_I 1), (2, za_I y2_8), (3, za_I y3_8)] [za_I s0_46] σ := by
            intro s0_46 σ hz q_46
            refine zv_istore (lv' := [(4, za_I s0_46), (0, za_O 16 90), (1, za_I 1), (2, za_I y2_8), (3, za_I y3_8)]) G dX0_sum_46 (by decide) rfl ?_
            refine zv_aload_n (j := 1) G dX0_sum_48 rfl rfl ?_
            refine zv_dupO G dX0_sum_49 ?_
            refine zg_X0_45 G dX0_sum_50 ?_
            refine zv_iconst (v := 1) G dX0_sum_53 (by decide) ?_
            refine zv_iadd G dX0_sum_54 ?_
            refine zp_X0_45 G dX0_sum_55 ?_
            refine zv_gen (R9 := zf mx σ0) (zf_inc hz q_46 (by decide) (by omega)) (fun σ hz => ?_)
            refine zv_aload_n (j := 1) G dX0_sum_58 rfl rfl ?_
            refine zv_iload_n (j := 2) G dX0_sum_59 rfl rfl ?_
            refine zv_callVi (as := [za_I 1]) G (by decide) rfl rfl (zc_X0_product_at1 l E mx σ hz.2 (by omega)) zk_X0_product zm_916 rfl ⟨(Nat.le_of_ble_eq_true rfl), (Nat.le_of_ble_eq_true rfl)⟩ ⟨Nat.zero_le _, Nat.zero_le _⟩ (Nat.le_of_ble_eq_true rfl) dX0_sum_60 (fun r_60 σ h_60 => ?_)
            have hz9 := h_60
            have hz := zf_t hz hz9
            refine zv_istore (lv' := [(5, za_I r_60), (4, za_I s0_46), (0, za_O 16 90), (1, za_I 1), (2, za_I y2_8), (3, za_I y3_8)]) G dX0_sum_63 (by decide) rfl ?_
            refine zv_iload (j := 1) G dX0_sum_65 rfl ?_
            refine zv_if_eq (tgt := 77) G dX0_sum_67 (by decide) (fun c_67 => ?_) (fun c_67 => ?_)
            · refine zv_iload_n (j := 4) G dX0_sum_77 rfl rfl ?_
              refine zv_iload (j := 0) G dX0_sum_78 rfl ?_
              refine zv_isub G dX0_sum_80 ?_
              refine zv_top (fun x_81 e_81 => ?_)
              refine zv_istore_n (lv' := [(2, za_I x_81), (5, za_I r_60), (4, za_I s0_46), (0, za_O 16 90), (1, za_I 1), (3, za_I y3_8)]) G dX0_sum_81 rfl (by decide) rfl ?_
              obtain ⟨x_82, e_82⟩ : ∃ y : Int32, y = y3_8 + 1 := ⟨_, rfl⟩
              refine zv_iinc (j := 5) (v := x_82) (lv' := [(3, za_I x_82), (2, za_I x_81), (5, za_I r_60), (4, za_I s0_46), (0, za_O 16 90), (1, za_I 1)]) G dX0_sum_82 rfl (by rw [e_82]; rfl) (by decide) rfl ?_
              refine zv_goto (tgt := 8) G dX0_sum_85 (by decide) ?_
              refine zv_sub [4, 5, 1, 0] (lv' := [(0, za_O 16 90), (1, za_I 1), (2, za_I x_81), (3, za_I x_82)]) rfl ?_
              exact ih_8 x_81 x_82 σ hz (z_meas c_11 e_82 hn_8)
            · refine zv_iload_n (j := 4) G dX0_sum_70 rfl rfl ?_
              refine zv_iload (j := 0) G dX0_sum_71 rfl ?_
              refine zv_iadd G dX0_sum_73 ?_
              refine zv_goto (tgt := 81) G dX0_sum_74 (by decide) ?_
              refine zv_top (fun x_81 e_81 => ?_)
              refine zv_istore_n (lv' := [(2, za_I x_81), (5, za_I r_60), (4, za_I s0_46), (0, za_O 16 90), (1, za_I 1), (3, za_I y3_8)]) G dX0_sum_81 rfl (by decide) rfl ?_
              obtain ⟨x_82, e_82⟩ : ∃ y : Int32, y = y3_8 + 1 := ⟨_, rfl⟩
              refine zv_iinc (j := 5) (v := x_82) (lv' := [(3, za_I x_82), (2, za_I x_81), (5, za_I r_60), (4, za_I s0_46), (0, za_O 16 90), (1, za_I 1)]) G dX0_sum_82 rfl (by rw [e_82]; rfl) (by decide) rfl ?_
              refine zv_goto (tgt := 8) G dX0_sum_85 (by decide) ?_
              refine zv_sub [4, 5, 1, 0] (lv' := [(0, za_O 16 90), (1, za_I 1), (2, za_I x_81), (3, za_I x_82)]) rfl ?_
              exact ih_8 x_81 x_82 σ hz (z_meas c_11 e_82 hn_8)
          refine zv_icmp_ne (tgt := 45) G dX0_sum_38 (by decide) (fun c_38 => ?_) (fun c_38 => ?_)
          · refine zv_iconst (v := 0) G dX0_sum_45 (by decide) ?_
            refine zv_sub [0, 1, 2, 3] (lv' := [(0, za_O 16 90), (1, za_I 1), (2, za_I y2_8), (3, za_I y3_8)]) rfl ?_
            exact J_46 (0 : Int32) σ hz q_32
          · refine zv_iconst (v := 1) G dX0_sum_41 (by decide) ?_
            refine zv_goto (tgt := 46) G dX0_sum_42 (by decide) ?_
            refine zv_sub [0, 1, 2, 3] (lv' := [(0, za_O 16 90), (1, za_I 1), (2, za_I y2_8), (3, za_I y3_8)]) rfl ?_
            exact J_46 (1 : Int32) σ hz q_32
        refine zv_icmp_eq (tgt := 32) G dX0_sum_20 (by decide) (fun c_20 => ?_) (fun c_20 => ?_)
        · refine zv_sub [0, 1, 2, 3] (lv' := [(0, za_O 16 90), (1, za_I 1), (2, za_I y2_8), (3, za_I y3_8)]) rfl ?_
          exact J_32 σ hz (by first | exact h_24.resolve_left (by rw [c_29]; decide) | exact h_15.resolve_left (by rw [c_20]; decide))
        · refine zv_aload_n (j := 0) G dX0_sum_23 rfl rfl ?_
          refine zv_callVi (as := []) G (by decide) rfl rfl (zc_X0_peek l E  σ hz.2.1) zk_X0_peek zm_924 rfl ⟨(Nat.le_of_ble_eq_true rfl), (Nat.le_of_ble_eq_true rfl)⟩ ⟨Nat.zero_le _, Nat.zero_le _⟩ (Nat.le_of_ble_eq_true rfl) dX0_sum_24 (fun r_24 σ h_24 => ?_)
          obtain ⟨h_24, rfl⟩ := h_24
          refine zv_bipush (v := 45) G dX0_sum_27 (by decide) ?_
          refine zv_icmp_ne (tgt := 88) G dX0_sum_29 (by decide) (fun c_29 => ?_) (fun c_29 => ?_)
          · refine zv_iload_n (j := 2) G dX0_sum_88 rfl rfl ?_
            exact zv_iret G hr dX0_sum_89 hz
          · refine zv_sub [0, 1, 2, 3] (lv' := [(0, za_O 16 90), (1, za_I 1), (2, za_I y2_8), (3, za_I y3_8)]) rfl ?_
            exact J_32 σ hz (by first | exact h_24.resolve_left (by rw [c_29]; decide) | exact h_15.resolve_left (by rw [c_20]; decide))
  refine zv_istore_n (lv' := [(3, za_I 0), (2, za_I r_2), (0, za_O 16 90), (1, za_I 1)]) G dX0_sum_7 rfl (by decide) rfl ?_
  refine zv_sub [2, 3, 1, 0] (lv' := [(0, za_O 16 90), (1, za_I 1), (2, za_I r_2), (3, za_I 0)]) rfl ?_
  exact J_8 _ r_2 (0 : Int32) σ hz (Nat.lt_succ_self _)
set_option maxHeartbeats 4000000 in
set_option maxRecDepth 100000 in
theorem zc_X0_comparison_at1 (l : Launch) (E : za_E) (mx : Int) (σ0 : za_S) (hp : 0 ≤ (σ0.1 90 3).toInt ∧ (σ0.1 90 3).toInt ≤ mx) (hm : 43 ≤ mx ∧ mx ≤ 44) : zMi l E yX0_comparison cX0_comparison 6 (Option.some Jvm.ClassFile.FieldType.int) 21 505 [za_O 16 90, za_I 1] σ0 (fun r σ' => zf mx σ0 σ') := by
  refine zMi_of [(0, za_O 16 90), (1, za_I 1)] (by decide) rfl rfl (Nat.le_of_ble_eq_true rfl) ?_
  intro ho p e s m args below meth c G hr
  refine zv_gen (R9 := zf mx σ0) ⟨zc_r σ0, hp⟩ (fun σ hz => ?_)
  refine zv_aload_n (j := 0) G dX0_comparison_0 rfl rfl ?_
  refine zv_iload_n (j := 1) G dX0_comparison_1 rfl rfl ?_
  refine zv_callVi (as := [za_I 1]) G (by decide) rfl rfl (zc_X0_sum_at1 l E mx σ hz.2 (by omega)) zk_X0_sum zm_912 rfl ⟨(Nat.le_of_ble_eq_true rfl), (Nat.le_of_ble_eq_true rfl)⟩ ⟨Nat.zero_le _, Nat.zero_le _⟩ (Nat.le_of_ble_eq_true rfl) dX0_comparison_2 (fun r_2 σ h_2 => ?_)
  have hz9 := h_2
  have hz := zf_t hz hz9
  refine zv_istore_n (lv' := [(2, za_I r_2), (0, za_O 16 90), (1, za_I 1)]) G dX0_comparison_5 rfl (by decide) rfl ?_
  refine zv_aload_n (j := 1) G dX0_comparison_6 rfl rfl ?_
  refine zv_callVi (as := []) G (by decide) rfl rfl (zc_X0_peek l E  σ hz.2.1) zk_X0_peek zm_924 rfl ⟨(Nat.le_of_ble_eq_true rfl), (Nat.le_of_ble_eq_true rfl)⟩ ⟨Nat.zero_le _, Nat.zero_le _⟩ (Nat.le_of_ble_eq_true rfl) dX0_comparison_7 (fun r_7 σ h_7 => ?_)
  obtain ⟨h_7, rfl⟩ := h_7
  refine zv_istore_n (lv' := [(3, za_I r_7), (2, za_I r_2), (0, za_O 16 90), (1, za_I 1)]) G dX0_comparison_10 rfl (by decide) rfl ?_
  refine zv_iload_n (j := 0) G dX0_comparison_11 rfl rfl ?_
  refine zv_bipush (v := 60) G dX0_comparison_12 (by decide) ?_
  have J_31 : ∀  (σ : za_S) (hz : zf mx σ0 σ) (q_31 : (σ.1 90 3).toInt < 40), zV p l e (zRm 21 505) s m args below meth c E (za_A E) 6 0 0 (MQ below (va_Qi (fun r σ' => zf mx σ0 σ') (zB E) (za_A E)) args s 0 0 (za_A E)) 31 [(0, za_O 16 90), (1, za_I 1), (2, za_I r_2), (3, za_I r_7)] [] σ := by
    intro σ hz q_31
    refine zv_aload_n (j := 0) G dX0_comparison_31 rfl rfl ?_
    refine zv_dupO G dX0_comparison_32 ?_
    refine zg_X0_45 G dX0_comparison_33 ?_
    refine zv_iconst (v := 1) G dX0_comparison_36 (by decide) ?_
    refine zv_iadd G dX0_comparison_37 ?_
    refine zp_X0_45 G dX0_comparison_38 ?_
    refine zv_gen (R9 := zf mx σ0) (zf_inc hz q_31 (by decide) (by omega)) (fun σ hz => ?_)
    refine zv_aload_n (j := 0) G dX0_comparison_41 rfl rfl ?_
    refine zv_iload_n (j := 1) G dX0_comparison_42 rfl rfl ?_
    refine zv_callVi (as := [za_I 1]) G (by decide) rfl rfl (zc_X0_sum_at1 l E mx σ hz.2 (by omega)) zk_X0_sum zm_912 rfl ⟨(Nat.le_of_ble_eq_true rfl), (Nat.le_of_ble_eq_true rfl)⟩ ⟨Nat.zero_le _, Nat.zero_le _⟩ (Nat.le_of_ble_eq_true rfl) dX0_comparison_43 (fun r_43 σ h_43 => ?_)
    have hz9 := h_43
    have hz := zf_t hz hz9
    refine zv_istore (lv' := [(4, za_I r_43), (0, za_O 16 90), (1, za_I 1), (2, za_I r_2), (3, za_I r_7)]) G dX0_comparison_46 (by decide) rfl ?_
    refine zv_iload_n (j := 4) G dX0_comparison_48 rfl rfl ?_
    refine zv_bipush (v := 60) G dX0_comparison_49 (by decide) ?_
    refine zv_icmp_ne (tgt := 68) G dX0_comparison_51 (by decide) (fun c_51 => ?_) (fun c_51 => ?_)
    · refine zv_iload_n (j := 4) G dX0_comparison_68 rfl rfl ?_
      refine zv_bipush (v := 62) G dX0_comparison_69 (by decide) ?_
      refine zv_icmp_ne (tgt := 88) G dX0_comparison_71 (by decide) (fun c_71 => ?_) (fun c_71 => ?_)
      · refine zv_iload_n (j := 3) G dX0_comparison_88 rfl rfl ?_
        refine zv_iload (j := 0) G dX0_comparison_89 rfl ?_
        refine zv_icmp_ne (tgt := 98) G dX0_comparison_91 (by decide) (fun c_91 => ?_) (fun c_91 => ?_)
        · refine zv_iconst (v := 0) G dX0_comparison_98 (by decide) ?_
          refine zv_istore (lv' := [(5, za_I 0), (4, za_I r_43), (0, za_O 16 90), (1, za_I 1), (2, za_I r_2), (3, za_I r_7)]) G dX0_comparison_99 (by decide) rfl ?_
          refine zv_iload (j := 0) G dX0_comparison_101 rfl ?_
          refine zv_if_eq (tgt := 110) G dX0_comparison_103 (by decide) (fun c_103 => ?_) (fun c_103 => ?_)
          · refine zv_iconst (v := 0) G dX0_comparison_110 (by decide) ?_
            exact zv_iret G hr dX0_comparison_111 hz
          · exact absurd c_103 (by decide)
        · refine zv_iconst (v := 1) G dX0_comparison_94 (by decide) ?_
          refine zv_goto (tgt := 99) G dX0_comparison_95 (by decide) ?_
          refine zv_istore (lv' := [(5, za_I 1), (4, za_I r_43), (0, za_O 16 90), (1, za_I 1), (2, za_I r_2), (3, za_I r_7)]) G dX0_comparison_99 (by decide) rfl ?_
          refine zv_iload (j := 0) G dX0_comparison_101 rfl ?_
          refine zv_if_eq (tgt := 110) G dX0_comparison_103 (by decide) (fun c_103 => ?_) (fun c_103 => ?_)
          · exact absurd c_103 (by decide)
          · refine zv_iconst (v := 1) G dX0_comparison_106 (by decide) ?_
            refine zv_goto (tgt := 111) G dX0_comparison_107 (by decide) ?_
            exact zv_iret G hr dX0_comparison_111 hz
      · refine zv_iload_n (j := 3) G dX0_comparison_74 rfl rfl ?_
        refine zv_iload (j := 0) G dX0_comparison_75 rfl ?_
        refine zv_icmp_le (tgt := 84) G dX0_comparison_77 (by decide) (fun c_77 => ?_) (fun c_77 => ?_)
        · refine zv_iconst (v := 0) G dX0_comparison_84 (by decide) ?_
          refine zv_goto (tgt := 99) G dX0_comparison_85 (by decide) ?_
          refine zv_istore (lv' := [(5, za_I 0), (4, za_I r_43), (0, za_O 16 90), (1, za_I 1), (2, za_I r_2), (3, za_I r_7)]) G dX0_comparison_99 (by decide) rfl ?_
          refine zv_iload (j := 0) G dX0_comparison_101 rfl ?_
          refine zv_if_eq (tgt := 110) G dX0_comparison_103 (by decide) (fun c_103 => ?_) (fun c_103 => ?_)
          · refine zv_iconst (v := 0) G dX0_comparison_110 (by decide) ?_
            exact zv_iret G hr dX0_comparison_111 hz
          · exact absurd c_103 (by decide)
        · refine zv_iconst (v := 1) G dX0_comparison_80 (by decide) ?_
          refine zv_goto (tgt := 99) G dX0_comparison_81 (by decide) ?_
          refine zv_istore (lv' := [(5, za_I 1), (4, za_I r_43), (0, za_O 16 90), (1, za_I 1), (2, za_I r_2), (3, za_I r_7)]) G dX0_comparison_99 (by decide) rfl ?_
          refine zv_iload (j := 0) G dX0_comparison_101 rfl ?_
          refine zv_if_eq (tgt := 110) G dX0_comparison_103 (by decide) (fun c_103 => ?_) (fun c_103 => ?_)
          · exact absurd c_103 (by decide)
          · refine zv_iconst (v := 1) G dX0_comparison_106 (by decide) ?_
            refine zv_goto (tgt := 111) G dX0_comparison_107 (by decide) ?_
            exact zv_iret G hr dX0_comparison_111 hz
    · refine zv_iload_n (j := 3) G dX0_comparison_54 rfl rfl ?_
      refine zv_iload (j := 0) G dX0_comparison_55 rfl ?_
      refine zv_icmp_ge (tgt := 64) G dX0_comparison_57 (by decide) (fun c_57 => ?_) (fun c_57 => ?_)
      · refine zv_iconst (v := 0) G dX0_comparison_64 (by decide) ?_
        refine zv_goto (tgt := 99) G dX0_comparison_65 (by decide) ?_
        refine zv_istore (lv' := [(5, za_I 0), (4, za_I r_43), (0, za_O 16 90), (1, za_I 1), (2, za_I r_2), (3, za_I r_7)]) G dX0_comparison_99 (by decide) rfl ?_
        refine zv_iload (j := 0) G dX0_comparison_101 rfl ?_
        refine zv_if_eq (tgt := 110) G dX0_comparison_103 (by decide) (fun c_103 => ?_) (fun c_103 => ?_)
        · refine zv_iconst (v := 0) G dX0_comparison_110 (by decide) ?_
          exact zv_iret G hr dX0_comparison_111 hz
        · exact absurd c_103 (by decide)
      · refine zv_iconst (v := 1) G dX0_comparison_60 (by decide) ?_
        refine zv_goto (tgt := 99) G dX0_comparison_61 (by decide) ?_
        refine zv_istore (lv' := [(5, za_I 1), (4, za_I r_43), (0, za_O 16 90), (1, za_I 1), (2, za_I r_2), (3, za_I r_7)]) G dX0_comparison_99 (by decide) rfl ?_
        refine zv_iload (j := 0) G dX0_comparison_101 rfl ?_
        refine zv_if_eq (tgt := 110) G dX0_comparison_103 (by decide) (fun c_103 => ?_) (fun c_103 => ?_)
        · exact absurd c_103 (by decide)
        · refine zv_iconst (v := 1) G dX0_comparison_106 (by decide) ?_
          refine zv_goto (tgt := 111) G dX0_comparison_107 (by decide) ?_
          exact zv_iret G hr dX0_comparison_111 hz
  refine zv_icmp_eq (tgt := 31) G dX0_comparison_14 (by decide) (fun c_14 => ?_) (fun c_14 => ?_)
  · refine zv_sub [2, 3, 1, 0] (lv' := [(0, za_O 16 90), (1, za_I 1), (2, za_I r_2), (3, za_I r_7)]) rfl ?_
    exact J_31 σ hz (by first | exact h_7.resolve_left (by rw [c_26]; decide) | exact h_7.resolve_left (by rw [c_20]; decide) | exact h_7.resolve_left (by rw [c_14]; decide))
  · refine zv_iload_n (j := 0) G dX0_comparison_17 rfl rfl ?_
    refine zv_bipush (v := 62) G dX0_comparison_18 (by decide) ?_
    refine zv_icmp_eq (tgt := 31) G dX0_comparison_20 (by decide) (fun c_20 => ?_) (fun c_20 => ?_)
    · refine zv_sub [2, 3, 1, 0] (lv' := [(0, za_O 16 90), (1, za_I 1), (2, za_I r_2), (3, za_I r_7)]) rfl ?_
      exact J_31 σ hz (by first | exact h_7.resolve_left (by rw [c_26]; decide) | exact h_7.resolve_left (by rw [c_20]; decide) | exact h_7.resolve_left (by rw [c_14]; decide))
    · refine zv_iload_n (j := 0) G dX0_comparison_23 rfl rfl ?_
      refine zv_bipush (v := 61) G dX0_comparison_24 (by decide) ?_
      refine zv_icmp_eq (tgt := 31) G dX0_comparison_26 (by decide) (fun c_26 => ?_) (fun c_26 => ?_)
      · refine zv_sub [2, 3, 1, 0] (lv' := [(0, za_O 16 90), (1, za_I 1), (2, za_I r_2), (3, za_I r_7)]) rfl ?_
        exact J_31 σ hz (by first | exact h_7.resolve_left (by rw [c_26]; decide) | exact h_7.resolve_left (by rw [c_20]; decide) | exact h_7.resolve_left (by rw [c_14]; decide))
      · refine zv_iload_n (j := 1) G dX0_comparison_29 rfl rfl ?_
        exact zv_iret G hr dX0_comparison_30 hz
set_option maxHeartbeats 4000000 in
set_option maxRecDepth 100000 in
theorem zc_X0_thing_at0 (l : Launch) (E : za_E) (mx : Int) (σ0 : za_S) (hp : 0 ≤ (σ0.1 90 3).toInt ∧ (σ0.1 90 3).toInt ≤ mx) (hm : 44 ≤ mx ∧ mx ≤ 44) : zMi l E yX0_thing cX0_thing 5 (Option.some Jvm.ClassFile.FieldType.int) 22 530 [za_O 16 90, za_I 0] σ0 (fun r σ' => zf mx σ0 σ') := by
  refine zMi_of [(0, za_O 16 90), (1, za_I 0)] (by decide) rfl rfl (Nat.le_of_ble_eq_true rfl) ?_
  intro ho p e s m args below meth c G hr
  refine zv_gen (R9 := zf mx σ0) ⟨zc_r σ0, hp⟩ (fun σ hz => ?_)
  refine zv_iconst (v := 0) G dX0_thing_0 (by decide) ?_
  refine zv_istore_n (lv' := [(2, za_I 0), (0, za_O 16 90), (1, za_I 0)]) G dX0_thing_1 rfl (by decide) rfl ?_
  refine zv_iconst (v := 0) G dX0_thing_2 (by decide) ?_
  have J_4 : ∀ (n : Nat) (y2_4 : Int32) (y3_4 : Int32) (σ : za_S) (hz : zf mx σ0 σ) (hn_4 : (2147483648 - y3_4.toInt).toNat < n), zV p l e (zRm 22 530) s m args below meth c E (za_A E) 5 0 0 (MQ below (va_Qi (fun r σ' => zf mx σ0 σ') (zB E) (za_A E)) args s 0 0 (za_A E)) 4 [(0, za_O 16 90), (1, za_I 0), (2, za_I y2_4), (3, za_I y3_4)] [] σ := by
    intro n
    induction n with
    | zero => intro y2_4 y3_4 σ hz hn; exact absurd hn (Nat.not_lt_zero _)
    | succ n ih_4 =>
      intro y2_4 y3_4 σ hz hn_4
      refine zv_iload_n (j := 3) G dX0_thing_4 rfl rfl ?_
      refine zv_bipush (v := 40) G dX0_thing_5 (by decide) ?_
      have J_45 : ∀  (σ : za_S) (hz : zf mx σ0 σ), zV p l e (zRm 22 530) s m args below meth c E (za_A E) 5 0 0 (MQ below (va_Qi (fun r σ' => zf mx σ0 σ') (zB E) (za_A E)) args s 0 0 (za_A E)) 45 [(0, za_O 16 90), (1, za_I 0), (2, za_I y2_4)] [] σ := by
        intro σ hz
        refine zv_aload_n (j := 0) G dX0_thing_45 rfl rfl ?_
        refine zv_callVi (as := []) G (by decide) rfl rfl (zc_X0_peek l E  σ hz.2.1) zk_X0_peek zm_924 rfl ⟨(Nat.le_of_ble_eq_true rfl), (Nat.le_of_ble_eq_true rfl)⟩ ⟨Nat.zero_le _, Nat.zero_le _⟩ (Nat.le_of_ble_eq_true rfl) dX0_thing_46 (fun r_46 σ h_46 => ?_)
        obtain ⟨h_46, rfl⟩ := h_46
        refine zv_istore_n (lv' := [(3, za_I r_46), (0, za_O 16 90), (1, za_I 0), (2, za_I y2_4)]) G dX0_thing_49 rfl (by decide) rfl ?_
        refine zv_iload_n (j := 0) G dX0_thing_50 rfl rfl ?_
        refine zv_bipush (v := 48) G dX0_thing_51 (by decide) ?_
        have J_134 : ∀ (y4_134 : Int32) (σ : za_S) (hz : zf mx σ0 σ), zV p l e (zRm 22 530) s m args below meth c E (za_A E) 5 0 0 (MQ below (va_Qi (fun r σ' => zf mx σ0 σ') (zB E) (za_A E)) args s 0 0 (za_A E)) 134 [(2, za_I y2_4), (4, za_I y4_134)] [] σ := by
          intro y4_134 σ hz
          refine zv_iload_n (j := 0) G dX0_thing_134 rfl rfl ?_
          refine zv_if_eq (tgt := 144) G dX0_thing_135 (by decide) (fun c_135 => ?_) (fun c_135 => ?_)
          · refine zv_iload (j := 1) G dX0_thing_144 rfl ?_
            exact zv_iret G hr dX0_thing_146 hz
          · refine zv_iload (j := 1) G dX0_thing_138 rfl ?_
            refine zv_ineg G dX0_thing_140 ?_
            refine zv_goto (tgt := 146) G dX0_thing_141 (by decide) ?_
            exact zv_iret G hr dX0_thing_146 hz
        have J_71 : ∀  (σ : za_S) (hz : zf mx σ0 σ) (q_71 : r_46 = -1 ∨ (σ.1 90 3).toInt < 40), zV p l e (zRm 22 530) s m args below meth c E (za_A E) 5 0 0 (MQ below (va_Qi (fun r σ' => zf mx σ0 σ') (zB E) (za_A E)) args s 0 0 (za_A E)) 71 [(0, za_O 16 90), (1, za_I 0), (2, za_I y2_4), (3, za_I r_46)] [] σ := by
          intro σ hz q_71
          refine zv_iload_n (j := 3) G dX0_thing_71 rfl rfl ?_
          refine zv_bipush (v := 40) G dX0_thing_72 (by decide) ?_
          refine zv_icmp_ne (tgt := 127) G dX0_thing_74 (by decide) (fun c_74 => ?_) (fun c_74 => ?_)
          · refine zv_aload_n (j := 0) G dX0_thing_127 rfl rfl ?_
            refine zv_iload_n (j := 3) G dX0_thing_128 rfl rfl ?_
            refine zv_callVi (as := [za_I r_46]) G (by decide) rfl rfl (zc_X0_ofRow l E r_46 mx σ hz.2 (by omega) q_71) zk_X0_ofRow zm_936 rfl ⟨(Nat.le_of_ble_eq_true rfl), (Nat.le_of_ble_eq_true rfl)⟩ ⟨Nat.zero_le _, Nat.zero_le _⟩ (Nat.le_of_ble_eq_true rfl) dX0_thing_129 (fun r_129 σ h_129 => ?_)
            have hz9 := h_129
            have hz := zf_t hz hz9
            refine zv_istore (lv' := [(4, za_I r_129), (0, za_O 16 90), (1, za_I 0), (2, za_I y2_4), (3, za_I r_46)]) G dX0_thing_132 (by decide) rfl ?_
            refine zv_sub [3, 0] (lv' := [(2, za_I y2_4), (4, za_I r_129)]) rfl ?_
            exact J_134 r_129 σ hz
          · refine zv_iload_n (j := 1) G dX0_thing_77 rfl rfl ?_
            refine zv_iconst (v := 4) G dX0_thing_78 (by decide) ?_
            refine zv_icmp_ge (tgt := 127) G dX0_thing_79 (by decide) (fun c_79 => ?_) (fun c_79 => ?_)
            · exact absurd c_79 (by decide)
            · refine zv_aload_n (j := 0) G dX0_thing_82 rfl rfl ?_
              refine zv_dupO G dX0_thing_83 ?_
              refine zg_X0_45 G dX0_thing_84 ?_
              refine zv_iconst (v := 1) G dX0_thing_87 (by decide) ?_
              refine zv_iadd G dX0_thing_88 ?_
              refine zp_X0_45 G dX0_thing_89 ?_
              refine zv_gen (R9 := zf 40 σ0) (zf_i40 hz (q_71.resolve_left (by rw [c_74]; decide))) (fun σ hz => ?_)
              refine zv_aload_n (j := 0) G dX0_thing_92 rfl rfl ?_
              refine zv_iload_n (j := 1) G dX0_thing_93 rfl rfl ?_
              refine zv_iconst (v := 1) G dX0_thing_94 (by decide) ?_
              refine zv_iadd G dX0_thing_95 ?_
              refine zv_cst (y := 1) (by decide) ?_
              refine zv_callVi (as := [za_I 1]) G (by decide) rfl rfl (zc_X0_comparison_at1 l E 43 σ ⟨hz.2.1, by have := hz.2.2; omega⟩ (by omega)) zk_X0_comparison zm_908 rfl ⟨(Nat.le_of_ble_eq_true rfl), (Nat.le_of_ble_eq_true rfl)⟩ ⟨Nat.zero_le _, Nat.zero_le _⟩ (Nat.le_of_ble_eq_true rfl) dX0_thing_96 (fun r_96 σ h_96 => ?_)
              have hz9 := h_96
              have hz := zf_t hz hz9
              refine zv_istore (lv' := [(4, za_I r_96), (0, za_O 16 90), (1, za_I 0), (2, za_I y2_4), (3, za_I r_46)]) G dX0_thing_99 (by decide) rfl ?_
              refine zv_aload_n (j := 1) G dX0_thing_101 rfl rfl ?_
              refine zv_callVi (as := []) G (by decide) rfl rfl (zc_X0_peek l E  σ hz.2.1) zk_X0_peek zm_924 rfl ⟨(Nat.le_of_ble_eq_true rfl), (Nat.le_of_ble_eq_true rfl)⟩ ⟨Nat.zero_le _, Nat.zero_le _⟩ (Nat.le_of_ble_eq_true rfl) dX0_thing_102 (fun r_102 σ h_102 => ?_)
              obtain ⟨h_102, rfl⟩ := h_102
              refine zv_bipush (v := 41) G dX0_thing_105 (by decide) ?_
              have J_114 : ∀  (σ : za_S) (hz : zf 43 σ0 σ), zV p l e (zRm 22 530) s m args below meth c E (za_A E) 5 0 0 (MQ below (va_Qi (fun r σ' => zf mx σ0 σ') (zB E) (za_A E)) args s 0 0 (za_A E)) 114 [(0, za_O 16 90), (2, za_I y2_4), (4, za_I r_96)] [] σ := by
                intro σ hz
                refine zv_aload_n (j := 0) G dX0_thing_114 rfl rfl ?_
                refine zv_dupO G dX0_thing_115 ?_
                refine zg_X0_45 G dX0_thing_116 ?_
                refine zv_iconst (v := 1) G dX0_thing_119 (by decide) ?_
                refine zv_iadd G dX0_thing_120 ?_
                refine zp_X0_45 G dX0_thing_121 ?_
                refine zv_gen (R9 := zf mx σ0) (zf_up hz (by omega) (by decide)) (fun σ hz => ?_)
                refine zv_goto (tgt := 134) G dX0_thing_124 (by decide) ?_
                refine zv_sub [1, 2] (lv' := [(2, za_I y2_4), (4, za_I r_96)]) rfl ?_
                exact J_134 r_96 σ hz
              refine zv_icmp_eq (tgt := 114) G dX0_thing_107 (by decide) (fun c_107 => ?_) (fun c_107 => ?_)
              · refine zv_sub [1, 3, 0] (lv' := [(0, za_O 16 90), (2, za_I y2_4), (4, za_I r_96)]) rfl ?_
                exact J_114 σ hz
              · refine zv_aload_n (j := 1) G dX0_thing_110 rfl rfl ?_
                refine zv_callVv (as := []) G (by decide) rfl rfl (zc_X0_fail l E 43 σ hz.2) zk_X0_fail zm_932 rfl ⟨(Nat.le_of_ble_eq_true rfl), (Nat.le_of_ble_eq_true rfl)⟩ ⟨Nat.zero_le _, Nat.zero_le _⟩ (Nat.le_of_ble_eq_true rfl) dX0_thing_111 (fun σ h_111 => ?_)
                have hz9 := h_111
                have hz := zf_t hz hz9
                refine zv_sub [1, 3, 0] (lv' := [(0, za_O 16 90), (2, za_I y2_4), (4, za_I r_96)]) rfl ?_
                exact J_114 σ hz
        refine zv_icmp_lt (tgt := 71) G dX0_thing_53 (by decide) (fun c_53 => ?_) (fun c_53 => ?_)
        · refine zv_sub [1, 2, 3, 0] (lv' := [(0, za_O 16 90), (1, za_I 0), (2, za_I y2_4), (3, za_I r_46)]) rfl ?_
          exact J_71 σ hz h_46
        · refine zv_iload_n (j := 0) G dX0_thing_56 rfl rfl ?_
          refine zv_bipush (v := 57) G dX0_thing_57 (by decide) ?_
          refine zv_icmp_gt (tgt := 71) G dX0_thing_59 (by decide) (fun c_59 => ?_) (fun c_59 => ?_)
          · refine zv_sub [1, 2, 3, 0] (lv' := [(0, za_O 16 90), (1, za_I 0), (2, za_I y2_4), (3, za_I r_46)]) rfl ?_
            exact J_71 σ hz h_46
          · refine zv_aload_n (j := 1) G dX0_thing_62 rfl rfl ?_
            refine zv_callVi (as := []) G (by decide) rfl rfl (zc_X0_digits l E mx σ hz.2 (by omega)) zk_X0_digits zm_928 rfl ⟨(Nat.le_of_ble_eq_true rfl), (Nat.le_of_ble_eq_true rfl)⟩ ⟨Nat.zero_le _, Nat.zero_le _⟩ (Nat.le_of_ble_eq_true rfl) dX0_thing_63 (fun r_63 σ h_63 => ?_)
            have hz9 := h_63
            have hz := zf_t hz hz9
            refine zv_istore (lv' := [(4, za_I r_63), (3, za_I r_46), (0, za_O 16 90), (1, za_I 0), (2, za_I y2_4)]) G dX0_thing_66 (by decide) rfl ?_
            refine zv_goto (tgt := 134) G dX0_thing_68 (by decide) ?_
            refine zv_sub [4, 0] (lv' := [(2, za_I y2_4), (4, za_I r_63)]) rfl ?_
            exact J_134 r_63 σ hz
      refine zv_icmp_ge (tgt := 45) G dX0_thing_7 (by decide) (fun c_7 => ?_) (fun c_7 => ?_)
      · refine zv_sub [0, 1, 2] (lv' := [(0, za_O 16 90), (1, za_I 0), (2, za_I y2_4)]) rfl ?_
        exact J_45 σ hz
      · refine zv_aload_n (j := 0) G dX0_thing_10 rfl rfl ?_
        refine zv_callVi (as := []) G (by decide) rfl rfl (zc_X0_peek l E  σ hz.2.1) zk_X0_peek zm_924 rfl ⟨(Nat.le_of_ble_eq_true rfl), (Nat.le_of_ble_eq_true rfl)⟩ ⟨Nat.zero_le _, Nat.zero_le _⟩ (Nat.le_of_ble_eq_true rfl) dX0_thing_11 (fun r_11 σ h_11 => ?_)
        obtain ⟨h_11, rfl⟩ := h_11
        refine zv_bipush (v := 45) G dX0_thing_14 (by decide) ?_
        refine zv_icmp_ne (tgt := 45) G dX0_thing_16 (by decide) (fun c_16 => ?_) (fun c_16 => ?_)
        · refine zv_sub [0, 1, 2] (lv' := [(0, za_O 16 90), (1, za_I 0), (2, za_I y2_4)]) rfl ?_
          exact J_45 σ hz
        · refine zv_iload_n (j := 2) G dX0_thing_19 rfl rfl ?_
          have J_28 : ∀ (s0_28 : Int32) (σ : za_S) (hz : zf mx σ0 σ) (q_28 : (σ.1 90 3).toInt < 40), zV p l e (zRm 22 530) s m args below meth c E (za_A E) 5 0 0 (MQ below (va_Qi (fun r σ' => zf mx σ0 σ') (zB E) (za_A E)) args s 0 0 (za_A E)) 28 [(0, za_O 16 90), (1, za_I 0), (3, za_I y3_4)] [za_I s0_28] σ := by
            intro s0_28 σ hz q_28
            refine zv_istore_n (lv' := [(2, za_I s0_28), (0, za_O 16 90), (1, za_I 0), (3, za_I y3_4)]) G dX0_thing_28 rfl (by decide) rfl ?_
            refine zv_aload_n (j := 1) G dX0_thing_29 rfl rfl ?_
            refine zv_dupO G dX0_thing_30 ?_
            refine zg_X0_45 G dX0_thing_31 ?_
            refine zv_iconst (v := 1) G dX0_thing_34 (by decide) ?_
            refine zv_iadd G dX0_thing_35 ?_
            refine zp_X0_45 G dX0_thing_36 ?_
            refine zv_gen (R9 := zf mx σ0) (zf_inc hz q_28 (by decide) (by omega)) (fun σ hz => ?_)
            obtain ⟨x_39, e_39⟩ : ∃ y : Int32, y = y3_4 + 1 := ⟨_, rfl⟩
            refine zv_iinc (j := 3) (v := x_39) (lv' := [(3, za_I x_39), (2, za_I s0_28), (0, za_O 16 90), (1, za_I 0)]) G dX0_thing_39 rfl (by rw [e_39]; rfl) (by decide) rfl ?_
            refine zv_goto (tgt := 4) G dX0_thing_42 (by decide) ?_
            refine zv_sub [2, 3, 1, 0] (lv' := [(0, za_O 16 90), (1, za_I 0), (2, za_I s0_28), (3, za_I x_39)]) rfl ?_
            exact ih_4 s0_28 x_39 σ hz (z_meas c_7 e_39 hn_4)
          refine zv_if_ne (tgt := 27) G dX0_thing_20 (by decide) (fun c_20 => ?_) (fun c_20 => ?_)
          · refine zv_iconst (v := 0) G dX0_thing_27 (by decide) ?_
            refine zv_sub [0, 1, 3] (lv' := [(0, za_O 16 90), (1, za_I 0), (3, za_I y3_4)]) rfl ?_
            exact J_28 (0 : Int32) σ hz (h_11.resolve_left (by rw [c_16]; decide))
          · refine zv_iconst (v := 1) G dX0_thing_23 (by decide) ?_
            refine zv_goto (tgt := 28) G dX0_thing_24 (by decide) ?_
            refine zv_sub [0, 1, 3] (lv' := [(0, za_O 16 90), (1, za_I 0), (3, za_I y3_4)]) rfl ?_
            exact J_28 (1 : Int32) σ hz (h_11.resolve_left (by rw [c_16]; decide))
  refine zv_istore_n (lv' := [(3, za_I 0), (2, za_I 0), (0, za_O 16 90), (1, za_I 0)]) G dX0_thing_3 rfl (by decide) rfl ?_
  refine zv_sub [2, 3, 1, 0] (lv' := [(0, za_O 16 90), (1, za_I 0), (2, za_I 0), (3, za_I 0)]) rfl ?_
  exact J_4 _ (0 : Int32) (0 : Int32) σ hz (Nat.lt_succ_self _)
set_option maxHeartbeats 4000000 in
set_option maxRecDepth 100000 in
theorem zc_X0_product_at0 (l : Launch) (E : za_E) (mx : Int) (σ0 : za_S) (hp : 0 ≤ (σ0.1 90 3).toInt ∧ (σ0.1 90 3).toInt ≤ mx) (hm : 44 ≤ mx ∧ mx ≤ 44) : zMi l E yX0_product cX0_product 6 (Option.some Jvm.ClassFile.FieldType.int) 23 554 [za_O 16 90, za_I 0] σ0 (fun r σ' => zf mx σ0 σ') := by
  refine zMi_of [(0, za_O 16 90), (1, za_I 0)] (by decide) rfl rfl (Nat.le_of_ble_eq_true rfl) ?_
  intro ho p e s m args below meth c G hr
  refine zv_gen (R9 := zf mx σ0) ⟨zc_r σ0, hp⟩ (fun σ hz => ?_)
  refine zv_aload_n (j := 0) G dX0_product_0 rfl rfl ?_
  refine zv_iload_n (j := 1) G dX0_product_1 rfl rfl ?_
  refine zv_callVi (as := [za_I 0]) G (by decide) rfl rfl (zc_X0_thing_at0 l E mx σ hz.2 (by omega)) zk_X0_thing zm_920 rfl ⟨(Nat.le_of_ble_eq_true rfl), (Nat.le_of_ble_eq_true rfl)⟩ ⟨Nat.zero_le _, Nat.zero_le _⟩ (Nat.le_of_ble_eq_true rfl) dX0_product_2 (fun r_2 σ h_2 => ?_)
  have hz9 := h_2
  have hz := zf_t hz hz9
  refine zv_istore_n (lv' := [(2, za_I r_2), (0, za_O 16 90), (1, za_I 0)]) G dX0_product_5 rfl (by decide) rfl ?_
  refine zv_iconst (v := 0) G dX0_product_6 (by decide) ?_
  have J_8 : ∀ (n : Nat) (y2_8 : Int32) (y3_8 : Int32) (σ : za_S) (hz : zf mx σ0 σ) (hn_8 : (2147483648 - y3_8.toInt).toNat < n), zV p l e (zRm 23 554) s m args below meth c E (za_A E) 6 0 0 (MQ below (va_Qi (fun r σ' => zf mx σ0 σ') (zB E) (za_A E)) args s 0 0 (za_A E)) 8 [(0, za_O 16 90), (1, za_I 0), (2, za_I y2_8), (3, za_I y3_8)] [] σ := by
    intro n
    induction n with
    | zero => intro y2_8 y3_8 σ hz hn; exact absurd hn (Nat.not_lt_zero _)
    | succ n ih_8 =>
      intro y2_8 y3_8 σ hz hn_8
      refine zv_iload_n (j := 3) G dX0_product_8 rfl rfl ?_
      refine zv_bipush (v := 40) G dX0_product_9 (by decide) ?_
      refine zv_icmp_ge (tgt := 97) G dX0_product_11 (by decide) (fun c_11 => ?_) (fun c_11 => ?_)
      · refine zv_iload_n (j := 2) G dX0_product_97 rfl rfl ?_
        exact zv_iret G hr dX0_product_98 hz
      · refine zv_aload_n (j := 0) G dX0_product_14 rfl rfl ?_
        refine zv_callVi (as := []) G (by decide) rfl rfl (zc_X0_peek l E  σ hz.2.1) zk_X0_peek zm_924 rfl ⟨(Nat.le_of_ble_eq_true rfl), (Nat.le_of_ble_eq_true rfl)⟩ ⟨Nat.zero_le _, Nat.zero_le _⟩ (Nat.le_of_ble_eq_true rfl) dX0_product_15 (fun r_15 σ h_15 => ?_)
        obtain ⟨h_15, rfl⟩ := h_15
        refine zv_bipush (v := 42) G dX0_product_18 (by decide) ?_
        have J_32 : ∀  (σ : za_S) (hz : zf mx σ0 σ) (q_32 : (σ.1 90 3).toInt < 40), zV p l e (zRm 23 554) s m args below meth c E (za_A E) 6 0 0 (MQ below (va_Qi (fun r σ' => zf mx σ0 σ') (zB E) (za_A E)) args s 0 0 (za_A E)) 32 [(0, za_O 16 90), (1, za_I 0), (2, za_I y2_8), (3, za_I y3_8)] [] σ := by
          intro σ hz q_32
          refine zv_aload_n (j := 0) G dX0_product_32 rfl rfl ?_
          refine zv_callVi (as := []) G (by decide) rfl rfl (zc_X0_peek l E  σ hz.2.1) zk_X0_peek zm_924 rfl ⟨(Nat.le_of_ble_eq_true rfl), (Nat.le_of_ble_eq_true rfl)⟩ ⟨Nat.zero_le _, Nat.zero_le _⟩ (Nat.le_of_ble_eq_true rfl) dX0_product_33 (fun r_33 σ h_33 => ?_)
          obtain ⟨h_33, rfl⟩ := h_33
          refine zv_bipush (v := 42) G dX0_product_36 (by decide) ?_
          have J_46 : ∀ (s0_46 : Int32) (σ : za_S) (hz : zf mx σ0 σ) (q_46 : (σ.1 90 3).toInt < 40), zV p l e (zRm 23 554) s m args below meth c E (za_A E) 6 0 0 (MQ below (va_Qi (fun r σ' => zf mx σ0 σ') (zB E) (za_A E)) args s 0 0 (za_A E)) 46 [(0, za_O 16 90), (1, za_I 0), (2, za_I y2_8), (3, za_I y3_8)] [za_I s0_46] σ := by
            intro s0_46 σ hz q_46
            refine zv_istore (lv' := [(4, za_I s0_46), (0, za_O 16 90), (1, za_I 0), (2, za_I y2_8), (3, za_I y3_8)]) G dX0_product_46 (by decide) rfl ?_
            refine zv_aload_n (j := 1) G dX0_product_48 rfl rfl ?_
            refine zv_dupO G dX0_product_49 ?_
            refine zg_X0_45 G dX0_product_50 ?_
            refine zv_iconst (v := 1) G dX0_product_53 (by decide) ?_
            refine zv_iadd G dX0_product_54 ?_
            refine zp_X0_45 G dX0_product_55 ?_
            refine zv_gen (R9 := zf mx σ0) (zf_inc hz q_46 (by decide) (by omega)) (fun σ hz => ?_)
            refine zv_aload_n (j := 1) G dX0_product_58 rfl rfl ?_
            refine zv_iload_n (j := 2) G dX0_product_59 rfl rfl ?_
            refine zv_callVi (as := [za_I 0]) G (by decide) rfl rfl (zc_X0_thing_at0 l E mx σ hz.2 (by omega)) zk_X0_thing zm_920 rfl ⟨(Nat.le_of_ble_eq_true rfl), (Nat.le_of_ble_eq_true rfl)⟩ ⟨Nat.zero_le _, Nat.zero_le _⟩ (Nat.le_of_ble_eq_true rfl) dX0_product_60 (fun r_60 σ h_60 => ?_)
            have hz9 := h_60
            have hz := zf_t hz hz9
            refine zv_istore (lv' := [(5, za_I r_60), (4, za_I s0_46), (0, za_O 16 90), (1, za_I 0), (2, za_I y2_8), (3, za_I y3_8)]) G dX0_product_63 (by decide) rfl ?_
            refine zv_iload (j := 1) G dX0_product_65 rfl ?_
            refine zv_if_eq (tgt := 77) G dX0_product_67 (by decide) (fun c_67 => ?_) (fun c_67 => ?_)
            · refine zv_iload (j := 0) G dX0_product_77 rfl ?_
              refine zv_if_ne (tgt := 86) G dX0_product_79 (by decide) (fun c_79 => ?_) (fun c_79 => ?_)
              · refine zv_iload_n (j := 4) G dX0_product_86 rfl rfl ?_
                refine zv_iload (j := 0) G dX0_product_87 rfl ?_
                refine zv_idiv G dX0_product_89 c_79 ?_
                refine zv_top (fun x_90 e_90 => ?_)
                refine zv_istore_n (lv' := [(2, za_I x_90), (5, za_I r_60), (4, za_I s0_46), (0, za_O 16 90), (1, za_I 0), (3, za_I y3_8)]) G dX0_product_90 rfl (by decide) rfl ?_
                obtain ⟨x_91, e_91⟩ : ∃ y : Int32, y = y3_8 + 1 := ⟨_, rfl⟩
                refine zv_iinc (j := 5) (v := x_91) (lv' := [(3, za_I x_91), (2, za_I x_90), (5, za_I r_60), (4, za_I s0_46), (0, za_O 16 90), (1, za_I 0)]) G dX0_product_91 rfl (by rw [e_91]; rfl) (by decide) rfl ?_
                refine zv_goto (tgt := 8) G dX0_product_94 (by decide) ?_
                refine zv_sub [4, 5, 1, 0] (lv' := [(0, za_O 16 90), (1, za_I 0), (2, za_I x_90), (3, za_I x_91)]) rfl ?_
                exact ih_8 x_90 x_91 σ hz (z_meas c_11 e_91 hn_8)
              · refine zv_iconst (v := 0) G dX0_product_82 (by decide) ?_
                refine zv_goto (tgt := 90) G dX0_product_83 (by decide) ?_
                refine zv_istore_n (lv' := [(2, za_I 0), (5, za_I r_60), (4, za_I s0_46), (0, za_O 16 90), (1, za_I 0), (3, za_I y3_8)]) G dX0_product_90 rfl (by decide) rfl ?_
                obtain ⟨x_91, e_91⟩ : ∃ y : Int32, y = y3_8 + 1 := ⟨_, rfl⟩
                refine zv_iinc (j := 5) (v := x_91) (lv' := [(3, za_I x_91), (2, za_I 0), (5, za_I r_60), (4, za_I s0_46), (0, za_O 16 90), (1, za_I 0)]) G dX0_product_91 rfl (by rw [e_91]; rfl) (by decide) rfl ?_
                refine zv_goto (tgt := 8) G dX0_product_94 (by decide) ?_
                refine zv_sub [4, 5, 1, 0] (lv' := [(0, za_O 16 90), (1, za_I 0), (2, za_I 0), (3, za_I x_91)]) rfl ?_
                exact ih_8 (0 : Int32) x_91 σ hz (z_meas c_11 e_91 hn_8)
            · refine zv_iload_n (j := 4) G dX0_product_70 rfl rfl ?_
              refine zv_iload (j := 0) G dX0_product_71 rfl ?_
              refine zv_imul G dX0_product_73 ?_
              refine zv_goto (tgt := 90) G dX0_product_74 (by decide) ?_
              refine zv_top (fun x_90 e_90 => ?_)
              refine zv_istore_n (lv' := [(2, za_I x_90), (5, za_I r_60), (4, za_I s0_46), (0, za_O 16 90), (1, za_I 0), (3, za_I y3_8)]) G dX0_product_90 rfl (by decide) rfl ?_
              obtain ⟨x_91, e_91⟩ : ∃ y : Int32, y = y3_8 + 1 := ⟨_, rfl⟩
              refine zv_iinc (j := 5) (v := x_91) (lv' := [(3, za_I x_91), (2, za_I x_90), (5, za_I r_60), (4, za_I s0_46), (0, za_O 16 90), (1, za_I 0)]) G dX0_product_91 rfl (by rw [e_91]; rfl) (by decide) rfl ?_
              refine zv_goto (tgt := 8) G dX0_product_94 (by decide) ?_
              refine zv_sub [4, 5, 1, 0] (lv' := [(0, za_O 16 90), (1, za_I 0), (2, za_I x_90), (3, za_I x_91)]) rfl ?_
              exact ih_8 x_90 x_91 σ hz (z_meas c_11 e_91 hn_8)
          refine zv_icmp_ne (tgt := 45) G dX0_product_38 (by decide) (fun c_38 => ?_) (fun c_38 => ?_)
          · refine zv_iconst (v := 0) G dX0_product_45 (by decide) ?_
            refine zv_sub [0, 1, 2, 3] (lv' := [(0, za_O 16 90), (1, za_I 0), (2, za_I y2_8), (3, za_I y3_8)]) rfl ?_
            exact J_46 (0 : Int32) σ hz q_32
          · refine zv_iconst (v := 1) G dX0_product_41 (by decide) ?_
            refine zv_goto (tgt := 46) G dX0_product_42 (by decide) ?_
            refine zv_sub [0, 1, 2, 3] (lv' := [(0, za_O 16 90), (1, za_I 0), (2, za_I y2_8), (3, za_I y3_8)]) rfl ?_
            exact J_46 (1 : Int32) σ hz q_32
        refine zv_icmp_eq (tgt := 32) G dX0_product_20 (by decide) (fun c_20 => ?_) (fun c_20 => ?_)
        · refine zv_sub [0, 1, 2, 3] (lv' := [(0, za_O 16 90), (1, za_I 0), (2, za_I y2_8), (3, za_I y3_8)]) rfl ?_
          exact J_32 σ hz (by first | exact h_24.resolve_left (by rw [c_29]; decide) | exact h_15.resolve_left (by rw [c_20]; decide))
        · refine zv_aload_n (j := 0) G dX0_product_23 rfl rfl ?_
          refine zv_callVi (as := []) G (by decide) rfl rfl (zc_X0_peek l E  σ hz.2.1) zk_X0_peek zm_924 rfl ⟨(Nat.le_of_ble_eq_true rfl), (Nat.le_of_ble_eq_true rfl)⟩ ⟨Nat.zero_le _, Nat.zero_le _⟩ (Nat.le_of_ble_eq_true rfl) dX0_product_24 (fun r_24 σ h_24 => ?_)
          obtain ⟨h_24, rfl⟩ := h_24
          refine zv_bipush (v := 47) G dX0_product_27 (by decide) ?_
          refine zv_icmp_ne (tgt := 97) G dX0_product_29 (by decide) (fun c_29 => ?_) (fun c_29 => ?_)
          · refine zv_iload_n (j := 2) G dX0_product_97 rfl rfl ?_
            exact zv_iret G hr dX0_product_98 hz
          · refine zv_sub [0, 1, 2, 3] (lv' := [(0, za_O 16 90), (1, za_I 0), (2, za_I y2_8), (3, za_I y3_8)]) rfl ?_
            exact J_32 σ hz (by first | exact h_24.resolve_left (by rw [c_29]; decide) | exact h_15.resolve_left (by rw [c_20]; decide))
  refine zv_istore_n (lv' := [(3, za_I 0), (2, za_I r_2), (0, za_O 16 90), (1, za_I 0)]) G dX0_product_7 rfl (by decide) rfl ?_
  refine zv_sub [2, 3, 1, 0] (lv' := [(0, za_O 16 90), (1, za_I 0), (2, za_I r_2), (3, za_I 0)]) rfl ?_
  exact J_8 _ r_2 (0 : Int32) σ hz (Nat.lt_succ_self _)
set_option maxHeartbeats 4000000 in
set_option maxRecDepth 100000 in
theorem zc_X0_sum_at0 (l : Launch) (E : za_E) (mx : Int) (σ0 : za_S) (hp : 0 ≤ (σ0.1 90 3).toInt ∧ (σ0.1 90 3).toInt ≤ mx) (hm : 44 ≤ mx ∧ mx ≤ 44) : zMi l E yX0_sum cX0_sum 6 (Option.some Jvm.ClassFile.FieldType.int) 24 579 [za_O 16 90, za_I 0] σ0 (fun r σ' => zf mx σ0 σ') := by
  refine zMi_of [(0, za_O 16 90), (1, za_I 0)] (by decide) rfl rfl (Nat.le_of_ble_eq_true rfl) ?_
  intro ho p e s m args below meth c G hr
  refine zv_gen (R9 := zf mx σ0) ⟨zc_r σ0, hp⟩ (fun σ hz => ?_)
  refine zv_aload_n (j := 0) G dX0_sum_0 rfl rfl ?_
  refine zv_iload_n (j := 1) G dX0_sum_1 rfl rfl ?_
  refine zv_callVi (as := [za_I 0]) G (by decide) rfl rfl (zc_X0_product_at0 l E mx σ hz.2 (by omega)) zk_X0_product zm_916 rfl ⟨(Nat.le_of_ble_eq_true rfl), (Nat.le_of_ble_eq_true rfl)⟩ ⟨Nat.zero_le _, Nat.zero_le _⟩ (Nat.le_of_ble_eq_true rfl) dX0_sum_2 (fun r_2 σ h_2 => ?_)
  have hz9 := h_2
  have hz := zf_t hz hz9
  refine zv_istore_n (lv' := [(2, za_I r_2), (0, za_O 16 90), (1, za_I 0)]) G dX0_sum_5 rfl (by decide) rfl ?_
  refine zv_iconst (v := 0) G dX0_sum_6 (by decide) ?_
  have J_8 : ∀ (n : Nat) (y2_8 : Int32) (y3_8 : Int32) (σ : za_S) (hz : zf mx σ0 σ) (hn_8 : (2147483648 - y3_8.toInt).toNat < n), zV p l e (zRm 24 579) s m args below meth c E (za_A E) 6 0 0 (MQ below (va_Qi (fun r σ' => zf mx σ0 σ') (zB E) (za_A E)) args s 0 0 (za_A E)) 8 [(0, za_O 16 90), (1, za_I 0), (2, za_I y2_8), (3, za_I y3_8)] [] σ := by
    intro n
    induction n with
    | zero => intro y2_8 y3_8 σ hz hn; exact absurd hn (Nat.not_lt_zero _)
    | succ n ih_8 =>
      intro y2_8 y3_8 σ hz hn_8
      refine zv_iload_n (j := 3) G dX0_sum_8 rfl rfl ?_
      refine zv_bipush (v := 40) G dX0_sum_9 (by decide) ?_
      refine zv_icmp_ge (tgt := 88) G dX0_sum_11 (by decide) (fun c_11 => ?_) (fun c_11 => ?_)
      · refine zv_iload_n (j := 2) G dX0_sum_88 rfl rfl ?_
        exact zv_iret G hr dX0_sum_89 hz
      · refine zv_aload_n (j := 0) G dX0_sum_14 rfl rfl ?_
        refine zv_callVi (as := []) G (by decide) rfl rfl (zc_X0_peek l E  σ hz.2.1) zk_X0_peek zm_924 rfl ⟨(Nat.le_of_ble_eq_true rfl), (Nat.le_of_ble_eq_true rfl)⟩ ⟨Nat.zero_le _, Nat.zero_le _⟩ (Nat.le_of_ble_eq_true rfl) dX0_sum_15 (fun r_15 σ h_15 => ?_)
        obtain ⟨h_15, rfl⟩ := h_15
        refine zv_bipush (v := 43) G dX0_sum_18 (by decide) ?_
        have J_32 : ∀  (σ : za_S) (hz : zf mx σ0 σ) (q_32 : (σ.1 90 3).toInt < 40), zV p l e (zRm 24 579) s m args below meth c E (za_A E) 6 0 0 (MQ below (va_Qi (fun r σ' => zf mx σ0 σ') (zB E) (za_A E)) args s 0 0 (za_A E)) 32 [(0, za_O 16 90), (1, za_I 0), (2, za_I y2_8), (3, za_I y3_8)] [] σ := by
          intro σ hz q_32
          refine zv_aload_n (j := 0) G dX0_sum_32 rfl rfl ?_
          refine zv_callVi (as := []) G (by decide) rfl rfl (zc_X0_peek l E  σ hz.2.1) zk_X0_peek zm_924 rfl ⟨(Nat.le_of_ble_eq_true rfl), (Nat.le_of_ble_eq_true rfl)⟩ ⟨Nat.zero_le _, Nat.zero_le _⟩ (Nat.le_of_ble_eq_true rfl) dX0_sum_33 (fun r_33 σ h_33 => ?_)
          obtain ⟨h_33, rfl⟩ := h_33
          refine zv_bipush (v := 43) G dX0_sum_36 (by decide) ?_
          have J_46 : ∀ (s0_46 : Int32) (σ : za_S) (hz : zf mx σ0 σ) (q_46 : (σ.1 90 3).toInt < 40), zV p l e (zRm 24 579) s m args below meth c E (za_A E) 6 0 0 (MQ below (va_Qi (fun r σ' => zf mx σ0 σ') (zB E) (za_A E)) args s 0 0 (za_A E)) 46 [(0, za_O 16 90), (1, za_I 0), (2, za_I y2_8), (3, za_I y3_8)] [za_I s0_46] σ := by
            intro s0_46 σ hz q_46
            refine zv_istore (lv' := [(4, za_I s0_46), (0, za_O 16 90), (1, za_I 0), (2, za_I y2_8), (3, za_I y3_8)]) G dX0_sum_46 (by decide) rfl ?_
            refine zv_aload_n (j := 1) G dX0_sum_48 rfl rfl ?_
            refine zv_dupO G dX0_sum_49 ?_
            refine zg_X0_45 G dX0_sum_50 ?_
            refine zv_iconst (v := 1) G dX0_sum_53 (by decide) ?_
            refine zv_iadd G dX0_sum_54 ?_
            refine zp_X0_45 G dX0_sum_55 ?_
            refine zv_gen (R9 := zf mx σ0) (zf_inc hz q_46 (by decide) (by omega)) (fun σ hz => ?_)
            refine zv_aload_n (j := 1) G dX0_sum_58 rfl rfl ?_
            refine zv_iload_n (j := 2) G dX0_sum_59 rfl rfl ?_
            refine zv_callVi (as := [za_I 0]) G (by decide) rfl rfl (zc_X0_product_at0 l E mx σ hz.2 (by omega)) zk_X0_product zm_916 rfl ⟨(Nat.le_of_ble_eq_true rfl), (Nat.le_of_ble_eq_true rfl)⟩ ⟨Nat.zero_le _, Nat.zero_le _⟩ (Nat.le_of_ble_eq_true rfl) dX0_sum_60 (fun r_60 σ h_60 => ?_)
            have hz9 := h_60
            have hz := zf_t hz hz9
            refine zv_istore (lv' := [(5, za_I r_60), (4, za_I s0_46), (0, za_O 16 90), (1, za_I 0), (2, za_I y2_8), (3, za_I y3_8)]) G dX0_sum_63 (by decide) rfl ?_
            refine zv_iload (j := 1) G dX0_sum_65 rfl ?_
            refine zv_if_eq (tgt := 77) G dX0_sum_67 (by decide) (fun c_67 => ?_) (fun c_67 => ?_)
            · refine zv_iload_n (j := 4) G dX0_sum_77 rfl rfl ?_
              refine zv_iload (j := 0) G dX0_sum_78 rfl ?_
              refine zv_isub G dX0_sum_80 ?_
              refine zv_top (fun x_81 e_81 => ?_)
              refine zv_istore_n (lv' := [(2, za_I x_81), (5, za_I r_60), (4, za_I s0_46), (0, za_O 16 90), (1, za_I 0), (3, za_I y3_8)]) G dX0_sum_81 rfl (by decide) rfl ?_
              obtain ⟨x_82, e_82⟩ : ∃ y : Int32, y = y3_8 + 1 := ⟨_, rfl⟩
              refine zv_iinc (j := 5) (v := x_82) (lv' := [(3, za_I x_82), (2, za_I x_81), (5, za_I r_60), (4, za_I s0_46), (0, za_O 16 90), (1, za_I 0)]) G dX0_sum_82 rfl (by rw [e_82]; rfl) (by decide) rfl ?_
              refine zv_goto (tgt := 8) G dX0_sum_85 (by decide) ?_
              refine zv_sub [4, 5, 1, 0] (lv' := [(0, za_O 16 90), (1, za_I 0), (2, za_I x_81), (3, za_I x_82)]) rfl ?_
              exact ih_8 x_81 x_82 σ hz (z_meas c_11 e_82 hn_8)
            · refine zv_iload_n (j := 4) G dX0_sum_70 rfl rfl ?_
              refine zv_iload (j := 0) G dX0_sum_71 rfl ?_
              refine zv_iadd G dX0_sum_73 ?_
              refine zv_goto (tgt := 81) G dX0_sum_74 (by decide) ?_
              refine zv_top (fun x_81 e_81 => ?_)
              refine zv_istore_n (lv' := [(2, za_I x_81), (5, za_I r_60), (4, za_I s0_46), (0, za_O 16 90), (1, za_I 0), (3, za_I y3_8)]) G dX0_sum_81 rfl (by decide) rfl ?_
              obtain ⟨x_82, e_82⟩ : ∃ y : Int32, y = y3_8 + 1 := ⟨_, rfl⟩
              refine zv_iinc (j := 5) (v := x_82) (lv' := [(3, za_I x_82), (2, za_I x_81), (5, za_I r_60), (4, za_I s0_46), (0, za_O 16 90), (1, za_I 0)]) G dX0_sum_82 rfl (by rw [e_82]; rfl) (by decide) rfl ?_
              refine zv_goto (tgt := 8) G dX0_sum_85 (by decide) ?_
              refine zv_sub [4, 5, 1, 0] (lv' := [(0, za_O 16 90), (1, za_I 0), (2, za_I x_81), (3, za_I x_82)]) rfl ?_
              exact ih_8 x_81 x_82 σ hz (z_meas c_11 e_82 hn_8)
          refine zv_icmp_ne (tgt := 45) G dX0_sum_38 (by decide) (fun c_38 => ?_) (fun c_38 => ?_)
          · refine zv_iconst (v := 0) G dX0_sum_45 (by decide) ?_
            refine zv_sub [0, 1, 2, 3] (lv' := [(0, za_O 16 90), (1, za_I 0), (2, za_I y2_8), (3, za_I y3_8)]) rfl ?_
            exact J_46 (0 : Int32) σ hz q_32
          · refine zv_iconst (v := 1) G dX0_sum_41 (by decide) ?_
            refine zv_goto (tgt := 46) G dX0_sum_42 (by decide) ?_
            refine zv_sub [0, 1, 2, 3] (lv' := [(0, za_O 16 90), (1, za_I 0), (2, za_I y2_8), (3, za_I y3_8)]) rfl ?_
            exact J_46 (1 : Int32) σ hz q_32
        refine zv_icmp_eq (tgt := 32) G dX0_sum_20 (by decide) (fun c_20 => ?_) (fun c_20 => ?_)
        · refine zv_sub [0, 1, 2, 3] (lv' := [(0, za_O 16 90), (1, za_I 0), (2, za_I y2_8), (3, za_I y3_8)]) rfl ?_
          exact J_32 σ hz (by first | exact h_24.resolve_left (by rw [c_29]; decide) | exact h_15.resolve_left (by rw [c_20]; decide))
        · refine zv_aload_n (j := 0) G dX0_sum_23 rfl rfl ?_
          refine zv_callVi (as := []) G (by decide) rfl rfl (zc_X0_peek l E  σ hz.2.1) zk_X0_peek zm_924 rfl ⟨(Nat.le_of_ble_eq_true rfl), (Nat.le_of_ble_eq_true rfl)⟩ ⟨Nat.zero_le _, Nat.zero_le _⟩ (Nat.le_of_ble_eq_true rfl) dX0_sum_24 (fun r_24 σ h_24 => ?_)
          obtain ⟨h_24, rfl⟩ := h_24
          refine zv_bipush (v := 45) G dX0_sum_27 (by decide) ?_
          refine zv_icmp_ne (tgt := 88) G dX0_sum_29 (by decide) (fun c_29 => ?_) (fun c_29 => ?_)
          · refine zv_iload_n (j := 2) G dX0_sum_88 rfl rfl ?_
            exact zv_iret G hr dX0_sum_89 hz
          · refine zv_sub [0, 1, 2, 3] (lv' := [(0, za_O 16 90), (1, za_I 0), (2, za_I y2_8), (3, za_I y3_8)]) rfl ?_
            exact J_32 σ hz (by first | exact h_24.resolve_left (by rw [c_29]; decide) | exact h_15.resolve_left (by rw [c_20]; decide))
  refine zv_istore_n (lv' := [(3, za_I 0), (2, za_I r_2), (0, za_O 16 90), (1, za_I 0)]) G dX0_sum_7 rfl (by decide) rfl ?_
  refine zv_sub [2, 3, 1, 0] (lv' := [(0, za_O 16 90), (1, za_I 0), (2, za_I r_2), (3, za_I 0)]) rfl ?_
  exact J_8 _ r_2 (0 : Int32) σ hz (Nat.lt_succ_self _)
set_option maxHeartbeats 4000000 in
set_option maxRecDepth 100000 in
theorem zc_X0_comparison_at0 (l : Launch) (E : za_E) (mx : Int) (σ0 : za_S) (hp : 0 ≤ (σ0.1 90 3).toInt ∧ (σ0.1 90 3).toInt ≤ mx) (hm : 44 ≤ mx ∧ mx ≤ 44) : zMi l E yX0_comparison cX0_comparison 6 (Option.some Jvm.ClassFile.FieldType.int) 25 604 [za_O 16 90, za_I 0] σ0 (fun r σ' => zf mx σ0 σ') := by
  refine zMi_of [(0, za_O 16 90), (1, za_I 0)] (by decide) rfl rfl (Nat.le_of_ble_eq_true rfl) ?_
  intro ho p e s m args below meth c G hr
  refine zv_gen (R9 := zf mx σ0) ⟨zc_r σ0, hp⟩ (fun σ hz => ?_)
  refine zv_aload_n (j := 0) G dX0_comparison_0 rfl rfl ?_
  refine zv_iload_n (j := 1) G dX0_comparison_1 rfl rfl ?_
  refine zv_callVi (as := [za_I 0]) G (by decide) rfl rfl (zc_X0_sum_at0 l E mx σ hz.2 (by omega)) zk_X0_sum zm_912 rfl ⟨(Nat.le_of_ble_eq_true rfl), (Nat.le_of_ble_eq_true rfl)⟩ ⟨Nat.zero_le _, Nat.zero_le _⟩ (Nat.le_of_ble_eq_true rfl) dX0_comparison_2 (fun r_2 σ h_2 => ?_)
  have hz9 := h_2
  have hz := zf_t hz hz9
  refine zv_istore_n (lv' := [(2, za_I r_2), (0, za_O 16 90), (1, za_I 0)]) G dX0_comparison_5 rfl (by decide) rfl ?_
  refine zv_aload_n (j := 1) G dX0_comparison_6 rfl rfl ?_
  refine zv_callVi (as := []) G (by decide) rfl rfl (zc_X0_peek l E  σ hz.2.1) zk_X0_peek zm_924 rfl ⟨(Nat.le_of_ble_eq_true rfl), (Nat.le_of_ble_eq_true rfl)⟩ ⟨Nat.zero_le _, Nat.zero_le _⟩ (Nat.le_of_ble_eq_true rfl) dX0_comparison_7 (fun r_7 σ h_7 => ?_)
  obtain ⟨h_7, rfl⟩ := h_7
  refine zv_istore_n (lv' := [(3, za_I r_7), (2, za_I r_2), (0, za_O 16 90), (1, za_I 0)]) G dX0_comparison_10 rfl (by decide) rfl ?_
  refine zv_iload_n (j := 0) G dX0_comparison_11 rfl rfl ?_
  refine zv_bipush (v := 60) G dX0_comparison_12 (by decide) ?_
  have J_31 : ∀  (σ : za_S) (hz : zf mx σ0 σ) (q_31 : (σ.1 90 3).toInt < 40), zV p l e (zRm 25 604) s m args below meth c E (za_A E) 6 0 0 (MQ below (va_Qi (fun r σ' => zf mx σ0 σ') (zB E) (za_A E)) args s 0 0 (za_A E)) 31 [(0, za_O 16 90), (1, za_I 0), (2, za_I r_2), (3, za_I r_7)] [] σ := by
    intro σ hz q_31
    refine zv_aload_n (j := 0) G dX0_comparison_31 rfl rfl ?_
    refine zv_dupO G dX0_comparison_32 ?_
    refine zg_X0_45 G dX0_comparison_33 ?_
    refine zv_iconst (v := 1) G dX0_comparison_36 (by decide) ?_
    refine zv_iadd G dX0_comparison_37 ?_
    refine zp_X0_45 G dX0_comparison_38 ?_
    refine zv_gen (R9 := zf mx σ0) (zf_inc hz q_31 (by decide) (by omega)) (fun σ hz => ?_)
    refine zv_aload_n (j := 0) G dX0_comparison_41 rfl rfl ?_
    refine zv_iload_n (j := 1) G dX0_comparison_42 rfl rfl ?_
    refine zv_callVi (as := [za_I 0]) G (by decide) rfl rfl (zc_X0_sum_at0 l E mx σ hz.2 (by omega)) zk_X0_sum zm_912 rfl ⟨(Nat.le_of_ble_eq_true rfl), (Nat.le_of_ble_eq_true rfl)⟩ ⟨Nat.zero_le _, Nat.zero_le _⟩ (Nat.le_of_ble_eq_true rfl) dX0_comparison_43 (fun r_43 σ h_43 => ?_)
    have hz9 := h_43
    have hz := zf_t hz hz9
    refine zv_istore (lv' := [(4, za_I r_43), (0, za_O 16 90), (1, za_I 0), (2, za_I r_2), (3, za_I r_7)]) G dX0_comparison_46 (by decide) rfl ?_
    refine zv_iload_n (j := 4) G dX0_comparison_48 rfl rfl ?_
    refine zv_bipush (v := 60) G dX0_comparison_49 (by decide) ?_
    refine zv_icmp_ne (tgt := 68) G dX0_comparison_51 (by decide) (fun c_51 => ?_) (fun c_51 => ?_)
    · refine zv_iload_n (j := 4) G dX0_comparison_68 rfl rfl ?_
      refine zv_bipush (v := 62) G dX0_comparison_69 (by decide) ?_
      refine zv_icmp_ne (tgt := 88) G dX0_comparison_71 (by decide) (fun c_71 => ?_) (fun c_71 => ?_)
      · refine zv_iload_n (j := 3) G dX0_comparison_88 rfl rfl ?_
        refine zv_iload (j := 0) G dX0_comparison_89 rfl ?_
        refine zv_icmp_ne (tgt := 98) G dX0_comparison_91 (by decide) (fun c_91 => ?_) (fun c_91 => ?_)
        · refine zv_iconst (v := 0) G dX0_comparison_98 (by decide) ?_
          refine zv_istore (lv' := [(5, za_I 0), (4, za_I r_43), (0, za_O 16 90), (1, za_I 0), (2, za_I r_2), (3, za_I r_7)]) G dX0_comparison_99 (by decide) rfl ?_
          refine zv_iload (j := 0) G dX0_comparison_101 rfl ?_
          refine zv_if_eq (tgt := 110) G dX0_comparison_103 (by decide) (fun c_103 => ?_) (fun c_103 => ?_)
          · refine zv_iconst (v := 0) G dX0_comparison_110 (by decide) ?_
            exact zv_iret G hr dX0_comparison_111 hz
          · exact absurd c_103 (by decide)
        · refine zv_iconst (v := 1) G dX0_comparison_94 (by decide) ?_
          refine zv_goto (tgt := 99) G dX0_comparison_95 (by decide) ?_
          refine zv_istore (lv' := [(5, za_I 1), (4, za_I r_43), (0, za_O 16 90), (1, za_I 0), (2, za_I r_2), (3, za_I r_7)]) G dX0_comparison_99 (by decide) rfl ?_
          refine zv_iload (j := 0) G dX0_comparison_101 rfl ?_
          refine zv_if_eq (tgt := 110) G dX0_comparison_103 (by decide) (fun c_103 => ?_) (fun c_103 => ?_)
          · exact absurd c_103 (by decide)
          · refine zv_iconst (v := 1) G dX0_comparison_106 (by decide) ?_
            refine zv_goto (tgt := 111) G dX0_comparison_107 (by decide) ?_
            exact zv_iret G hr dX0_comparison_111 hz
      · refine zv_iload_n (j := 3) G dX0_comparison_74 rfl rfl ?_
        refine zv_iload (j := 0) G dX0_comparison_75 rfl ?_
        refine zv_icmp_le (tgt := 84) G dX0_comparison_77 (by decide) (fun c_77 => ?_) (fun c_77 => ?_)
        · refine zv_iconst (v := 0) G dX0_comparison_84 (by decide) ?_
          refine zv_goto (tgt := 99) G dX0_comparison_85 (by decide) ?_
          refine zv_istore (lv' := [(5, za_I 0), (4, za_I r_43), (0, za_O 16 90), (1, za_I 0), (2, za_I r_2), (3, za_I r_7)]) G dX0_comparison_99 (by decide) rfl ?_
          refine zv_iload (j := 0) G dX0_comparison_101 rfl ?_
          refine zv_if_eq (tgt := 110) G dX0_comparison_103 (by decide) (fun c_103 => ?_) (fun c_103 => ?_)
          · refine zv_iconst (v := 0) G dX0_comparison_110 (by decide) ?_
            exact zv_iret G hr dX0_comparison_111 hz
          · exact absurd c_103 (by decide)
        · refine zv_iconst (v := 1) G dX0_comparison_80 (by decide) ?_
          refine zv_goto (tgt := 99) G dX0_comparison_81 (by decide) ?_
          refine zv_istore (lv' := [(5, za_I 1), (4, za_I r_43), (0, za_O 16 90), (1, za_I 0), (2, za_I r_2), (3, za_I r_7)]) G dX0_comparison_99 (by decide) rfl ?_
          refine zv_iload (j := 0) G dX0_comparison_101 rfl ?_
          refine zv_if_eq (tgt := 110) G dX0_comparison_103 (by decide) (fun c_103 => ?_) (fun c_103 => ?_)
          · exact absurd c_103 (by decide)
          · refine zv_iconst (v := 1) G dX0_comparison_106 (by decide) ?_
            refine zv_goto (tgt := 111) G dX0_comparison_107 (by decide) ?_
            exact zv_iret G hr dX0_comparison_111 hz
    · refine zv_iload_n (j := 3) G dX0_comparison_54 rfl rfl ?_
      refine zv_iload (j := 0) G dX0_comparison_55 rfl ?_
      refine zv_icmp_ge (tgt := 64) G dX0_comparison_57 (by decide) (fun c_57 => ?_) (fun c_57 => ?_)
      · refine zv_iconst (v := 0) G dX0_comparison_64 (by decide) ?_
        refine zv_goto (tgt := 99) G dX0_comparison_65 (by decide) ?_
        refine zv_istore (lv' := [(5, za_I 0), (4, za_I r_43), (0, za_O 16 90), (1, za_I 0), (2, za_I r_2), (3, za_I r_7)]) G dX0_comparison_99 (by decide) rfl ?_
        refine zv_iload (j := 0) G dX0_comparison_101 rfl ?_
        refine zv_if_eq (tgt := 110) G dX0_comparison_103 (by decide) (fun c_103 => ?_) (fun c_103 => ?_)
        · refine zv_iconst (v := 0) G dX0_comparison_110 (by decide) ?_
          exact zv_iret G hr dX0_comparison_111 hz
        · exact absurd c_103 (by decide)
      · refine zv_iconst (v := 1) G dX0_comparison_60 (by decide) ?_
        refine zv_goto (tgt := 99) G dX0_comparison_61 (by decide) ?_
        refine zv_istore (lv' := [(5, za_I 1), (4, za_I r_43), (0, za_O 16 90), (1, za_I 0), (2, za_I r_2), (3, za_I r_7)]) G dX0_comparison_99 (by decide) rfl ?_
        refine zv_iload (j := 0) G dX0_comparison_101 rfl ?_
        refine zv_if_eq (tgt := 110) G dX0_comparison_103 (by decide) (fun c_103 => ?_) (fun c_103 => ?_)
        · exact absurd c_103 (by decide)
        · refine zv_iconst (v := 1) G dX0_comparison_106 (by decide) ?_
          refine zv_goto (tgt := 111) G dX0_comparison_107 (by decide) ?_
          exact zv_iret G hr dX0_comparison_111 hz
  refine zv_icmp_eq (tgt := 31) G dX0_comparison_14 (by decide) (fun c_14 => ?_) (fun c_14 => ?_)
  · refine zv_sub [2, 3, 1, 0] (lv' := [(0, za_O 16 90), (1, za_I 0), (2, za_I r_2), (3, za_I r_7)]) rfl ?_
    exact J_31 σ hz (by first | exact h_7.resolve_left (by rw [c_26]; decide) | exact h_7.resolve_left (by rw [c_20]; decide) | exact h_7.resolve_left (by rw [c_14]; decide))
  · refine zv_iload_n (j := 0) G dX0_comparison_17 rfl rfl ?_
    refine zv_bipush (v := 62) G dX0_comparison_18 (by decide) ?_
    refine zv_icmp_eq (tgt := 31) G dX0_comparison_20 (by decide) (fun c_20 => ?_) (fun c_20 => ?_)
    · refine zv_sub [2, 3, 1, 0] (lv' := [(0, za_O 16 90), (1, za_I 0), (2, za_I r_2), (3, za_I r_7)]) rfl ?_
      exact J_31 σ hz (by first | exact h_7.resolve_left (by rw [c_26]; decide) | exact h_7.resolve_left (by rw [c_20]; decide) | exact h_7.resolve_left (by rw [c_14]; decide))
    · refine zv_iload_n (j := 0) G dX0_comparison_23 rfl rfl ?_
      refine zv_bipush (v := 61) G dX0_comparison_24 (by decide) ?_
      refine zv_icmp_eq (tgt := 31) G dX0_comparison_26 (by decide) (fun c_26 => ?_) (fun c_26 => ?_)
      · refine zv_sub [2, 3, 1, 0] (lv' := [(0, za_O 16 90), (1, za_I 0), (2, za_I r_2), (3, za_I r_7)]) rfl ?_
        exact J_31 σ hz (by first | exact h_7.resolve_left (by rw [c_26]; decide) | exact h_7.resolve_left (by rw [c_20]; decide) | exact h_7.resolve_left (by rw [c_14]; decide))
      · refine zv_iload_n (j := 1) G dX0_comparison_29 rfl rfl ?_
        exact zv_iret G hr dX0_comparison_30 hz
set_option maxHeartbeats 4000000 in
set_option maxRecDepth 100000 in
theorem zc_X0_faultOf (l : Launch) (E : za_E)  (σ0 : za_S)  : zMi l E yX0_faultOf cX0_faultOf 3 (Option.some Jvm.ClassFile.FieldType.int) 26 629 [za_O 16 90, za_O 7 79] σ0 (fun r σ' => zc σ0 σ') := by
  refine zMi_of [(0, za_O 16 90), (1, za_O 7 79)] (by decide) rfl rfl (Nat.le_of_ble_eq_true rfl) ?_
  intro ho p e s m args below meth c G hr
  refine zv_gen (R9 := zc σ0) (zc_r σ0) (fun σ hz => ?_)
  refine zv_aload_n (j := 0) G dX0_faultOf_0 rfl rfl ?_
  refine zv_bipush (v := 40) G dX0_faultOf_1 (by decide) ?_
  refine zv_aload_n (j := 1) G dX0_faultOf_3 rfl rfl ?_
  refine zg_X0_19 G dX0_faultOf_4 ?_
  refine zv_mmin G zm_902 zm_392 zm_147 zm_393 (Nat.le_of_ble_eq_true rfl) (Nat.le_of_ble_eq_true rfl) (Nat.zero_le _) (Nat.zero_le _) dX0_faultOf_7 ?_
  refine zv_top (fun x_7 e_7 => ?_)
  refine zp_X0_31 G dX0_faultOf_10 ?_
  refine zv_gen (R9 := zs σ0) (zs_0 hz e_7) (fun σ hz => ?_)
  refine zv_iconst (v := 0) G dX0_faultOf_13 (by decide) ?_
  have J_15 : ∀ (n : Nat) (y2_15 : Int32) (σ : za_S) (hz : zs σ0 σ) (i2_15 : 0 ≤ y2_15.toInt) (hn_15 : (2147483648 - y2_15.toInt).toNat < n), zV p l e (zRm 26 629) s m args below meth c E (za_A E) 3 0 0 (MQ below (va_Qi (fun r σ' => zc σ0 σ') (zB E) (za_A E)) args s 0 0 (za_A E)) 15 [(0, za_O 16 90), (1, za_O 7 79), (2, za_I y2_15)] [] σ := by
    intro n
    induction n with
    | zero => intro y2_15 σ hz i2_15 hn; exact absurd hn (Nat.not_lt_zero _)
    | succ n ih_15 =>
      intro y2_15 σ hz i2_15 hn_15
      refine zv_iload_n (j := 2) G dX0_faultOf_15 rfl rfl ?_
      refine zv_aload_n (j := 0) G dX0_faultOf_16 rfl rfl ?_
      refine zg_X0_31 G dX0_faultOf_17 ?_
      refine zv_icmp_ge (tgt := 41) G dX0_faultOf_20 (by decide) (fun c_20 => ?_) (fun c_20 => ?_)
      · refine zv_aload_n (j := 0) G dX0_faultOf_41 rfl rfl ?_
        refine zv_callVv (as := []) G (by decide) rfl rfl (zc_X0_rewind l E  σ ) zk_X0_rewind zm_904 rfl ⟨(Nat.le_of_ble_eq_true rfl), (Nat.le_of_ble_eq_true rfl)⟩ ⟨Nat.zero_le _, Nat.zero_le _⟩ (Nat.le_of_ble_eq_true rfl) dX0_faultOf_42 (fun σ h_42 => ?_)
        have hz : zf 44 σ0 σ := ⟨zc_t hz.1 h_42.1, h_42.2⟩
        refine zv_aload_n (j := 0) G dX0_faultOf_45 rfl rfl ?_
        refine zv_iconst (v := 0) G dX0_faultOf_46 (by decide) ?_
        refine zv_callVi (as := [za_I 0]) G (by decide) rfl rfl (zc_X0_comparison_at0 l E 44 σ hz.2 (by decide)) zk_X0_comparison zm_908 rfl ⟨(Nat.le_of_ble_eq_true rfl), (Nat.le_of_ble_eq_true rfl)⟩ ⟨Nat.zero_le _, Nat.zero_le _⟩ (Nat.le_of_ble_eq_true rfl) dX0_faultOf_47 (fun r_47 σ h_47 => ?_)
        have hz : zc σ0 σ := zc_t hz.1 h_47.1
        refine zv_popI G dX0_faultOf_50 ?_
        refine zv_aload_n (j := 0) G dX0_faultOf_51 rfl rfl ?_
        refine zg_X0_42 G dX0_faultOf_52 ?_
        refine zv_iconst (v := (-1)) G dX0_faultOf_55 (by decide) ?_
        refine zv_icmp_ne (tgt := 78) G dX0_faultOf_56 (by decide) (fun c_56 => ?_) (fun c_56 => ?_)
        · refine zv_aload_n (j := 0) G dX0_faultOf_78 rfl rfl ?_
          refine zg_X0_42 G dX0_faultOf_79 ?_
          exact zv_iret G hr dX0_faultOf_82 hz
        · refine zv_aload_n (j := 0) G dX0_faultOf_59 rfl rfl ?_
          refine zg_X0_45 G dX0_faultOf_60 ?_
          refine zv_aload_n (j := 1) G dX0_faultOf_63 rfl rfl ?_
          refine zg_X0_19 G dX0_faultOf_64 ?_
          refine zv_icmp_ge (tgt := 78) G dX0_faultOf_67 (by decide) (fun c_67 => ?_) (fun c_67 => ?_)
          · refine zv_aload_n (j := 0) G dX0_faultOf_78 rfl rfl ?_
            refine zg_X0_42 G dX0_faultOf_79 ?_
            exact zv_iret G hr dX0_faultOf_82 hz
          · refine zv_aload_n (j := 0) G dX0_faultOf_70 rfl rfl ?_
            refine zv_aload_n (j := 0) G dX0_faultOf_71 rfl rfl ?_
            refine zg_X0_45 G dX0_faultOf_72 ?_
            refine zp_X0_42 G dX0_faultOf_75 ?_
            refine zv_gen (R9 := zc σ0) (zc_t hz (zc_k16 rfl)) (fun σ hz => ?_)
            refine zv_aload_n (j := 0) G dX0_faultOf_78 rfl rfl ?_
            refine zg_X0_42 G dX0_faultOf_79 ?_
            exact zv_iret G hr dX0_faultOf_82 hz
      · refine zv_aload_n (j := 0) G dX0_faultOf_23 rfl rfl ?_
        refine zg_X0_11 G dX0_faultOf_24 ?_
        refine zv_iload_n (j := 2) G dX0_faultOf_27 rfl rfl ?_
        refine zv_aload_n (j := 1) G dX0_faultOf_28 rfl rfl ?_
        refine zv_iload_n (j := 2) G dX0_faultOf_29 rfl rfl ?_
        refine zv_callVNi (as := [za_I y2_15]) G (by decide) rfl rfl (zc_X7_signAt l E y2_15 σ ) zk_X7_signAt zm_903 rfl ⟨(Nat.le_of_ble_eq_true rfl), (Nat.le_of_ble_eq_true rfl)⟩ ⟨Nat.zero_le _, Nat.zero_le _⟩ (Nat.le_of_ble_eq_true rfl) dX0_faultOf_30 (fun r_30 σ h_30 => ?_)
        subst h_30
        refine zv_i2c G dX0_faultOf_33 ?_
        refine zv_cast G (by decide) rfl (fun _ => rfl) (z_in i2_15 (by have h9 := hz.2; rw [z_le] at c_20; omega)) dX0_faultOf_34 ?_
        refine zv_gen (R9 := zs σ0) (zs_c hz) (fun σ hz => ?_)
        obtain ⟨x_35, e_35⟩ : ∃ y : Int32, y = y2_15 + 1 := ⟨_, rfl⟩
        refine zv_iinc (j := 2) (v := x_35) (lv' := [(2, za_I x_35), (0, za_O 16 90), (1, za_O 7 79)]) G dX0_faultOf_35 rfl (by rw [e_35]; rfl) (by decide) rfl ?_
        refine zv_goto (tgt := 15) G dX0_faultOf_38 (by decide) ?_
        refine zv_sub [1, 2, 0] (lv' := [(0, za_O 16 90), (1, za_O 7 79), (2, za_I x_35)]) rfl ?_
        exact ih_15 x_35 σ hz (by have := z_inc c_20 e_35; omega) (z_meas c_20 e_35 hn_15)
  refine zv_istore_n (lv' := [(2, za_I 0), (0, za_O 16 90), (1, za_O 7 79)]) G dX0_faultOf_14 rfl (by decide) rfl ?_
  refine zv_sub [1, 2, 0] (lv' := [(0, za_O 16 90), (1, za_O 7 79), (2, za_I 0)]) rfl ?_
  exact J_15 _ (0 : Int32) σ hz (by decide) (Nat.lt_succ_self _)
set_option maxHeartbeats 4000000 in
set_option maxRecDepth 100000 in
theorem zc_X0_valueOf (l : Launch) (E : za_E) (a1 : Nat) (a2 : Int32) (σ0 : za_S)  : zMi l E yX0_valueOf cX0_valueOf 4 (Option.some Jvm.ClassFile.FieldType.int) 26 629 [za_O 16 90, za_O 2 a1, za_I a2] σ0 (fun r σ' => zc σ0 σ') := by
  refine zMi_of [(0, za_O 16 90), (1, za_O 2 a1), (2, za_I a2)] (by decide) rfl rfl (Nat.le_of_ble_eq_true rfl) ?_
  intro ho p e s m args below meth c G hr
  have h_a1 : za_kd a1 = 2 := za_okO (by decide) (List.forall_mem_cons.mp (List.forall_mem_cons.mp ho).2).1
  refine zv_gen (R9 := zc σ0) (zc_r σ0) (fun σ hz => ?_)
  refine zv_iconst (v := 0) G dX0_valueOf_0 (by decide) ?_
  have J_2 : ∀ (n : Nat) (y3_2 : Int32) (σ : za_S) (hz : zc σ0 σ) (i3_2 : 0 ≤ y3_2.toInt) (hn_2 : (2147483648 - y3_2.toInt).toNat < n), zV p l e (zRm 26 629) s m args below meth c E (za_A E) 4 0 0 (MQ below (va_Qi (fun r σ' => zc σ0 σ') (zB E) (za_A E)) args s 0 0 (za_A E)) 2 [(0, za_O 16 90), (1, za_O 2 a1), (2, za_I a2), (3, za_I y3_2)] [] σ := by
    intro n
    induction n with
    | zero => intro y3_2 σ hz i3_2 hn; exact absurd hn (Nat.not_lt_zero _)
    | succ n ih_2 =>
      intro y3_2 σ hz i3_2 hn_2
      refine zv_iload_n (j := 3) G dX0_valueOf_2 rfl rfl ?_
      refine zv_iconst (v := 5) G dX0_valueOf_3 (by decide) ?_
      refine zv_icmp_ge (tgt := 25) G dX0_valueOf_4 (by decide) (fun c_4 => ?_) (fun c_4 => ?_)
      · refine zv_aload_n (j := 0) G dX0_valueOf_25 rfl rfl ?_
        refine zg_X0_15 G dX0_valueOf_26 ?_
        refine zv_iconst (v := 5) G dX0_valueOf_29 (by decide) ?_
        refine zv_aload_n (j := 1) G dX0_valueOf_30 rfl rfl ?_
        refine zv_iload_n (j := 2) G dX0_valueOf_31 rfl rfl ?_
        refine zv_callVNi (as := [za_I a2]) G (by decide) rfl rfl (zc_X6_daysOfRow l E a1 a2 σ ) zk_X6_daysOfRow zm_1001 rfl ⟨(Nat.le_of_ble_eq_true rfl), (Nat.le_of_ble_eq_true rfl)⟩ ⟨Nat.zero_le _, Nat.zero_le _⟩ (Nat.le_of_ble_eq_true rfl) dX0_valueOf_32 (fun r_32 σ h_32 => ?_)
        subst h_32
        refine zv_iast G (by decide) rfl (fun _ => rfl) (z_in (by decide) (by decide)) dX0_valueOf_35 ?_
        refine zv_gen (R9 := zc σ0) (zc_t hz (zc_k18 rfl)) (fun σ hz => ?_)
        refine zv_aload_n (j := 0) G dX0_valueOf_36 rfl rfl ?_
        refine zg_X0_15 G dX0_valueOf_37 ?_
        refine zv_bipush (v := 6) G dX0_valueOf_40 (by decide) ?_
        refine zv_iload_n (j := 2) G dX0_valueOf_42 rfl rfl ?_
        refine zv_iast G (by decide) rfl (fun _ => rfl) (z_in (by decide) (by decide)) dX0_valueOf_43 ?_
        refine zv_gen (R9 := zc σ0) (zc_t hz (zc_k18 rfl)) (fun σ hz => ?_)
        refine zv_aload_n (j := 0) G dX0_valueOf_44 rfl rfl ?_
        refine zv_callVv (as := []) G (by decide) rfl rfl (zc_X0_rewind l E  σ ) zk_X0_rewind zm_904 rfl ⟨(Nat.le_of_ble_eq_true rfl), (Nat.le_of_ble_eq_true rfl)⟩ ⟨Nat.zero_le _, Nat.zero_le _⟩ (Nat.le_of_ble_eq_true rfl) dX0_valueOf_45 (fun σ h_45 => ?_)
        have hz : zf 44 σ0 σ := ⟨zc_t hz h_45.1, h_45.2⟩
        refine zv_aload_n (j := 0) G dX0_valueOf_48 rfl rfl ?_
        refine zv_iconst (v := 0) G dX0_valueOf_49 (by decide) ?_
        refine zv_callVi (as := [za_I 0]) G (by decide) rfl rfl (zc_X0_comparison_at0 l E 44 σ hz.2 (by decide)) zk_X0_comparison zm_908 rfl ⟨(Nat.le_of_ble_eq_true rfl), (Nat.le_of_ble_eq_true rfl)⟩ ⟨Nat.zero_le _, Nat.zero_le _⟩ (Nat.le_of_ble_eq_true rfl) dX0_valueOf_50 (fun r_50 σ h_50 => ?_)
        have hz : zc σ0 σ := zc_t hz.1 h_50.1
        exact zv_iret G hr dX0_valueOf_53 hz
      · have b_4 : 0 ≤ y3_2.toInt ∧ y3_2.toInt < 5 := ⟨i3_2, z_ltk c_4 rfl⟩
        refine zv_aload_n (j := 0) G dX0_valueOf_7 rfl rfl ?_
        refine zg_X0_15 G dX0_valueOf_8 ?_
        refine zv_iload_n (j := 3) G dX0_valueOf_11 rfl rfl ?_
        refine zv_aload_n (j := 1) G dX0_valueOf_12 rfl rfl ?_
        refine zv_iload_n (j := 2) G dX0_valueOf_13 rfl rfl ?_
        refine zv_iload_n (j := 3) G dX0_valueOf_14 rfl rfl ?_
        refine zv_callVNi (as := [za_I a2, za_I y3_2]) G (by decide) rfl rfl (zc_X6_cell l E a1 a2 y3_2 σ ) zk_X6_cell zm_1000 rfl ⟨(Nat.le_of_ble_eq_true rfl), (Nat.le_of_ble_eq_true rfl)⟩ ⟨Nat.zero_le _, Nat.zero_le _⟩ (Nat.le_of_ble_eq_true rfl) dX0_valueOf_15 (fun r_15 σ h_15 => ?_)
        subst h_15
        refine zv_iast G (by decide) rfl (fun _ => rfl) (z_in i3_2 (by have := z_ltk c_4 (n := 5) rfl; omega)) dX0_valueOf_18 ?_
        refine zv_gen (R9 := zc σ0) (zc_t hz (zc_k18 rfl)) (fun σ hz => ?_)
        obtain ⟨x_19, e_19⟩ : ∃ y : Int32, y = y3_2 + 1 := ⟨_, rfl⟩
        refine zv_iinc (j := 3) (v := x_19) (lv' := [(3, za_I x_19), (0, za_O 16 90), (1, za_O 2 a1), (2, za_I a2)]) G dX0_valueOf_19 rfl (by rw [e_19]; rfl) (by decide) rfl ?_
        refine zv_goto (tgt := 2) G dX0_valueOf_22 (by decide) ?_
        refine zv_sub [1, 2, 3, 0] (lv' := [(0, za_O 16 90), (1, za_O 2 a1), (2, za_I a2), (3, za_I x_19)]) rfl ?_
        exact ih_2 x_19 σ hz (by have := z_inc c_4 e_19; omega) (z_meas c_4 e_19 hn_2)
  refine zv_istore_n (lv' := [(3, za_I 0), (0, za_O 16 90), (1, za_O 2 a1), (2, za_I a2)]) G dX0_valueOf_1 rfl (by decide) rfl ?_
  refine zv_sub [1, 2, 3, 0] (lv' := [(0, za_O 16 90), (1, za_O 2 a1), (2, za_I a2), (3, za_I 0)]) rfl ?_
  exact J_2 _ (0 : Int32) σ hz (by decide) (Nat.lt_succ_self _)
set_option maxHeartbeats 4000000 in
set_option maxRecDepth 100000 in
theorem zc_X7_formOf (l : Launch) (E : za_E) (a1 : Int32) (σ : za_S)  : zMr l E yX7_formOf cX7_formOf 1 (Option.some (Jvm.ClassFile.FieldType.object "java/lang/String")) 1 21 [za_I a1] σ (fun r σ' => ∃ w', r = za_O 50 w' ∧ w' < 19 ∧ True ∧ σ' = σ) := by
  refine zMr_of [(0, za_I a1)] (by decide) rfl rfl (Nat.le_of_ble_eq_true rfl) ?_
  intro ho p e s m args below meth c G hr
  refine zv_iload_n (j := 0) G dX7_formOf_0 rfl rfl ?_
  rcases Decidable.em (a1 = 97) with q_1_97 | q_1_97
  · refine zv_look (off := 59) (tgt := 60) G dX7_formOf_1 (by decide) (by rw [q_1_97]; decide) (by decide) ?_
    refine zv_lds (q := 0) (tx := "19999999") G (by decide +kernel) (by decide) dX7_formOf_60 ?_
    exact zv_aret G hr dX7_formOf_62 (Or.inl ⟨_, rfl⟩) ⟨0, rfl, by decide, trivial, rfl⟩
  rcases Decidable.em (a1 = 99) with q_1_99 | q_1_99
  · refine zv_look (off := 65) (tgt := 66) G dX7_formOf_1 (by decide) (by rw [q_1_99]; decide) (by decide) ?_
    refine zv_lds (q := 2) (tx := "199999") G (by decide +kernel) (by decide) dX7_formOf_66 ?_
    exact zv_aret G hr dX7_formOf_68 (Or.inl ⟨_, rfl⟩) ⟨2, rfl, by decide, trivial, rfl⟩
  rcases Decidable.em (a1 = 106) with q_1_106 | q_1_106
  · refine zv_look (off := 68) (tgt := 69) G dX7_formOf_1 (by decide) (by rw [q_1_106]; decide) (by decide) ?_
    refine zv_lds (q := 3) (tx := "1") G (by decide +kernel) (by decide) dX7_formOf_69 ?_
    exact zv_aret G hr dX7_formOf_71 (Or.inl ⟨_, rfl⟩) ⟨3, rfl, by decide, trivial, rfl⟩
  rcases Decidable.em (a1 = 114) with q_1_114 | q_1_114
  · refine zv_look (off := 62) (tgt := 63) G dX7_formOf_1 (by decide) (by rw [q_1_114]; decide) (by decide) ?_
    refine zv_lds (q := 1) (tx := "9999999") G (by decide +kernel) (by decide) dX7_formOf_63 ?_
    exact zv_aret G hr dX7_formOf_65 (Or.inl ⟨_, rfl⟩) ⟨1, rfl, by decide, trivial, rfl⟩
  rcases Decidable.em (a1 = 115) with q_1_115 | q_1_115
  · refine zv_look (off := 59) (tgt := 60) G dX7_formOf_1 (by decide) (by rw [q_1_115]; decide) (by decide) ?_
    refine zv_lds (q := 0) (tx := "19999999") G (by decide +kernel) (by decide) dX7_formOf_60 ?_
    exact zv_aret G hr dX7_formOf_62 (Or.inl ⟨_, rfl⟩) ⟨0, rfl, by decide, trivial, rfl⟩
  rcases Decidable.em (a1 = 119) with q_1_119 | q_1_119
  · refine zv_look (off := 71) (tgt := 72) G dX7_formOf_1 (by decide) (by rw [q_1_119]; decide) (by decide) ?_
    refine zv_lds (q := 4) (tx := "2") G (by decide +kernel) (by decide) dX7_formOf_72 ?_
    exact zv_aret G hr dX7_formOf_74 (Or.inl ⟨_, rfl⟩) ⟨4, rfl, by decide, trivial, rfl⟩
  refine zv_look (off := 74) (tgt := 75) G dX7_formOf_1 (by decide) (by show Op.lookupswitch.offset [(97, 59), (99, 65), (106, 68), (114, 62), (115, 59), (119, 71)] 74 a1.toInt = 74; rw [lv_osw (a := 97) q_1_97 rfl, lv_osw (a := 99) q_1_99 rfl, lv_osw (a := 106) q_1_106 rfl, lv_osw (a := 114) q_1_114 rfl, lv_osw (a := 115) q_1_115 rfl, lv_osw (a := 119) q_1_119 rfl]; rfl) (by decide) ?_
  refine zv_lds (q := 5) (tx := "") G (by decide +kernel) (by decide) dX7_formOf_75 ?_
  exact zv_aret G hr dX7_formOf_77 (Or.inl ⟨_, rfl⟩) ⟨5, rfl, by decide, trivial, rfl⟩
set_option maxHeartbeats 4000000 in
set_option maxRecDepth 100000 in
theorem zc_X7_faultOfWork (l : Launch) (E : za_E)  (σ : za_S)  : zMi l E yX7_faultOfWork cX7_faultOfWork 5 (Option.some Jvm.ClassFile.FieldType.int) 5 106 [za_O 7 79] σ (fun r σ' => σ' = σ) := by
  refine zMi_of [(0, za_O 7 79)] (by decide) rfl rfl (Nat.le_of_ble_eq_true rfl) ?_
  intro ho p e s m args below meth c G hr
  refine zv_iconst (v := 0) G dX7_faultOfWork_0 (by decide) ?_
  refine zv_istore_n (lv' := [(1, za_I 0), (0, za_O 7 79)]) G dX7_faultOfWork_1 rfl (by decide) rfl ?_
  refine zv_iconst (v := 0) G dX7_faultOfWork_2 (by decide) ?_
  have J_4 : ∀ (n : Nat) (y1_4 : Int32) (y2_4 : Int32) (hn_4 : (2147483648 - y2_4.toInt).toNat < n), zV p l e (zRm 5 106) s m args below meth c E (za_A E) 5 0 0 (MQ below (va_Qi (fun r σ' => σ' = σ) (zB E) (za_A E)) args s 0 0 (za_A E)) 4 [(0, za_O 7 79), (1, za_I y1_4), (2, za_I y2_4)] [] σ := by
    intro n
    induction n with
    | zero => intro y1_4 y2_4 hn; exact absurd hn (Nat.not_lt_zero _)
    | succ n ih_4 =>
      intro y1_4 y2_4 hn_4
      refine zv_iload_n (j := 2) G dX7_faultOfWork_4 rfl rfl ?_
      refine zv_bipush (v := 80) G dX7_faultOfWork_5 (by decide) ?_
      refine zv_icmp_ge (tgt := 92) G dX7_faultOfWork_7 (by decide) (fun c_7 => ?_) (fun c_7 => ?_)
      · refine zv_iconst (v := (-1)) G dX7_faultOfWork_92 (by decide) ?_
        exact zv_iret G hr dX7_faultOfWork_93 rfl
      · refine zv_iload_n (j := 1) G dX7_faultOfWork_10 rfl rfl ?_
        refine zv_aload_n (j := 0) G dX7_faultOfWork_11 rfl rfl ?_
        refine zg_X7_15 G dX7_faultOfWork_12 ?_
        refine zv_icmp_ge (tgt := 92) G dX7_faultOfWork_15 (by decide) (fun c_15 => ?_) (fun c_15 => ?_)
        · refine zv_iconst (v := (-1)) G dX7_faultOfWork_92 (by decide) ?_
          exact zv_iret G hr dX7_faultOfWork_93 rfl
        · refine zv_aload_n (j := 0) G dX7_faultOfWork_18 rfl rfl ?_
          refine zv_iload_n (j := 1) G dX7_faultOfWork_19 rfl rfl ?_
          refine zv_callVi (as := [za_I y1_4]) G (by decide) rfl rfl (zc_X7_signAt l E y1_4 σ ) zk_X7_signAt zm_666 rfl ⟨(Nat.le_of_ble_eq_true rfl), (Nat.le_of_ble_eq_true rfl)⟩ ⟨Nat.zero_le _, Nat.zero_le _⟩ (Nat.le_of_ble_eq_true rfl) dX7_faultOfWork_20 (fun r_20 σ h_20 => ?_)
          subst h_20
          refine zv_callSr (as := [za_I r_20]) G (zc_X7_formOf l E r_20 σ ) zk_X7_formOf zm_670 rfl ⟨(Nat.le_of_ble_eq_true rfl), (Nat.le_of_ble_eq_true rfl)⟩ ⟨Nat.zero_le _, Nat.zero_le _⟩ (Nat.le_of_ble_eq_true rfl) dX7_faultOfWork_23 (fun r_23 σ h_23 => ?_)
          obtain ⟨w_23, rfl, h_w_23, t_23, rfl⟩ := h_23
          refine zv_astore_n (lv' := [(3, za_O 50 w_23), (0, za_O 7 79), (1, za_I y1_4), (2, za_I y2_4)]) G dX7_faultOfWork_26 rfl (by decide) rfl ?_
          refine zv_aload_n (j := 0) G dX7_faultOfWork_27 rfl rfl ?_
          refine zv_callTi (as := []) G (zc_J0_isEmpty_aae02 l E w_23 σ ) zk_J0_isEmpty_aae02 zm_679 rfl ⟨(Nat.le_of_ble_eq_true rfl), (Nat.le_of_ble_eq_true rfl)⟩ ⟨Nat.zero_le _, Nat.zero_le _⟩ (Nat.le_of_ble_eq_true rfl) dX7_faultOfWork_28 (fun r_28 σ h_28 => ?_)
          obtain ⟨h_28, rfl⟩ := h_28
          refine zv_if_eq (tgt := 36) G dX7_faultOfWork_31 (by decide) (fun c_31 => ?_) (fun c_31 => ?_)
          · refine zv_iconst (v := 0) G dX7_faultOfWork_36 (by decide) ?_
            have J_39 : ∀ (n : Nat) (y1_39 : Int32) (y4_39 : Int32) (i4_39 : 0 ≤ y4_39.toInt) (hn_39 : (2147483648 - y4_39.toInt).toNat < n), zV p l e (zRm 5 106) s m args below meth c E (za_A E) 5 0 0 (MQ below (va_Qi (fun r σ' => σ' = σ) (zB E) (za_A E)) args s 0 0 (za_A E)) 39 [(0, za_O 7 79), (1, za_I y1_39), (2, za_I y2_4), (3, za_O 50 w_23), (4, za_I y4_39)] [] σ := by
              intro n
              induction n with
              | zero => intro y1_39 y4_39 i4_39 hn; exact absurd hn (Nat.not_lt_zero _)
              | succ n ih_39 =>
                intro y1_39 y4_39 i4_39 hn_39
                refine zv_iload (j := 4) G dX7_faultOfWork_39 rfl ?_
                refine zv_aload_n (j := 3) G dX7_faultOfWork_41 rfl rfl ?_
                refine zv_callTi (as := []) G (zc_J0_length_8abf5 l E w_23 σ ) zk_J0_length_8abf5 zm_683 rfl ⟨(Nat.le_of_ble_eq_true rfl), (Nat.le_of_ble_eq_true rfl)⟩ ⟨Nat.zero_le _, Nat.zero_le _⟩ (Nat.le_of_ble_eq_true rfl) dX7_faultOfWork_42 (fun r_42 σ h_42 => ?_)
                obtain ⟨h_42, rfl⟩ := h_42
                refine zv_icmp_ge (tgt := 83) G dX7_faultOfWork_45 (by decide) (fun c_45 => ?_) (fun c_45 => ?_)
                · obtain ⟨x_83, e_83⟩ : ∃ y : Int32, y = y1_39 + 1 := ⟨_, rfl⟩
                  refine zv_iinc (j := 1) (v := x_83) (lv' := [(1, za_I x_83), (0, za_O 7 79), (2, za_I y2_4), (3, za_O 50 w_23), (4, za_I y4_39)]) G dX7_faultOfWork_83 rfl (by rw [e_83]; rfl) (by decide) rfl ?_
                  obtain ⟨x_86, e_86⟩ : ∃ y : Int32, y = y2_4 + 1 := ⟨_, rfl⟩
                  refine zv_iinc (j := 2) (v := x_86) (lv' := [(2, za_I x_86), (1, za_I x_83), (0, za_O 7 79), (3, za_O 50 w_23), (4, za_I y4_39)]) G dX7_faultOfWork_86 rfl (by rw [e_86]; rfl) (by decide) rfl ?_
                  refine zv_goto (tgt := 4) G dX7_faultOfWork_89 (by decide) ?_
                  refine zv_sub [2, 1, 0] (lv' := [(0, za_O 7 79), (1, za_I x_83), (2, za_I x_86)]) rfl ?_
                  exact ih_4 x_83 x_86 (z_meas c_7 e_86 hn_4)
                · obtain ⟨x_48, e_48⟩ : ∃ y : Int32, y = y1_39 + 1 := ⟨_, rfl⟩
                  refine zv_iinc (j := 1) (v := x_48) (lv' := [(1, za_I x_48), (0, za_O 7 79), (2, za_I y2_4), (3, za_O 50 w_23), (4, za_I y4_39)]) G dX7_faultOfWork_48 rfl (by rw [e_48]; rfl) (by decide) rfl ?_
                  refine zv_aload_n (j := 1) G dX7_faultOfWork_51 rfl rfl ?_
                  refine zv_iload_n (j := 0) G dX7_faultOfWork_52 rfl rfl ?_
                  refine zv_callVi (as := [za_I x_48]) G (by decide) rfl rfl (zc_X7_signAt l E x_48 σ ) zk_X7_signAt zm_666 rfl ⟨(Nat.le_of_ble_eq_true rfl), (Nat.le_of_ble_eq_true rfl)⟩ ⟨Nat.zero_le _, Nat.zero_le _⟩ (Nat.le_of_ble_eq_true rfl) dX7_faultOfWork_53 (fun r_53 σ h_53 => ?_)
                  subst h_53
                  refine zv_bipush (v := 48) G dX7_faultOfWork_56 (by decide) ?_
                  refine zv_icmp_lt (tgt := 75) G dX7_faultOfWork_58 (by decide) (fun c_58 => ?_) (fun c_58 => ?_)
                  · refine zv_iload_n (j := 0) G dX7_faultOfWork_75 rfl rfl ?_
                    exact zv_iret G hr dX7_faultOfWork_76 rfl
                  · refine zv_aload_n (j := 1) G dX7_faultOfWork_61 rfl rfl ?_
                    refine zv_iload_n (j := 0) G dX7_faultOfWork_62 rfl rfl ?_
                    refine zv_callVi (as := [za_I x_48]) G (by decide) rfl rfl (zc_X7_signAt l E x_48 σ ) zk_X7_signAt zm_666 rfl ⟨(Nat.le_of_ble_eq_true rfl), (Nat.le_of_ble_eq_true rfl)⟩ ⟨Nat.zero_le _, Nat.zero_le _⟩ (Nat.le_of_ble_eq_true rfl) dX7_faultOfWork_63 (fun r_63 σ h_63 => ?_)
                    subst h_63
                    refine zv_aload_n (j := 3) G dX7_faultOfWork_66 rfl rfl ?_
                    refine zv_iload (j := 4) G dX7_faultOfWork_67 rfl ?_
                    refine zv_callTi (as := [za_I y4_39]) G (zc_J0_charAt_5068e l E w_23 y4_39 σ ⟨i4_39, by rw [← h_42]; rw [z_le] at c_45; omega⟩) zk_J0_charAt_5068e zm_693 rfl ⟨(Nat.le_of_ble_eq_true rfl), (Nat.le_of_ble_eq_true rfl)⟩ ⟨Nat.zero_le _, Nat.zero_le _⟩ (Nat.le_of_ble_eq_true rfl) dX7_faultOfWork_69 (fun r_69 σ h_69 => ?_)
                    obtain ⟨h_69, rfl⟩ := h_69
                    refine zv_icmp_le (tgt := 77) G dX7_faultOfWork_72 (by decide) (fun c_72 => ?_) (fun c_72 => ?_)
                    · obtain ⟨x_77, e_77⟩ : ∃ y : Int32, y = y4_39 + 1 := ⟨_, rfl⟩
                      refine zv_iinc (j := 4) (v := x_77) (lv' := [(4, za_I x_77), (1, za_I x_48), (0, za_O 7 79), (2, za_I y2_4), (3, za_O 50 w_23)]) G dX7_faultOfWork_77 rfl (by rw [e_77]; rfl) (by decide) rfl ?_
                      refine zv_goto (tgt := 39) G dX7_faultOfWork_80 (by decide) ?_
                      refine zv_sub [2, 1, 3, 4, 0] (lv' := [(0, za_O 7 79), (1, za_I x_48), (2, za_I y2_4), (3, za_O 50 w_23), (4, za_I x_77)]) rfl ?_
                      exact ih_39 x_48 x_77 (by have := z_inc c_45 e_77; omega) (z_meas c_45 e_77 hn_39)
                    · refine zv_iload_n (j := 0) G dX7_faultOfWork_75 rfl rfl ?_
                      exact zv_iret G hr dX7_faultOfWork_76 rfl
            refine zv_istore (lv' := [(4, za_I 0), (3, za_O 50 w_23), (0, za_O 7 79), (1, za_I y1_4), (2, za_I y2_4)]) G dX7_faultOfWork_37 (by decide) rfl ?_
            refine zv_sub [2, 3, 4, 1, 0] (lv' := [(0, za_O 7 79), (1, za_I y1_4), (2, za_I y2_4), (3, za_O 50 w_23), (4, za_I 0)]) rfl ?_
            exact J_39 _ y1_4 (0 : Int32) (by decide) (Nat.lt_succ_self _)
          · refine zv_iload_n (j := 2) G dX7_faultOfWork_34 rfl rfl ?_
            exact zv_iret G hr dX7_faultOfWork_35 rfl
  refine zv_istore_n (lv' := [(2, za_I 0), (1, za_I 0), (0, za_O 7 79)]) G dX7_faultOfWork_3 rfl (by decide) rfl ?_
  refine zv_sub [2, 1, 0] (lv' := [(0, za_O 7 79), (1, za_I 0), (2, za_I 0)]) rfl ?_
  exact J_4 _ (0 : Int32) (0 : Int32) (Nat.lt_succ_self _)
set_option maxHeartbeats 4000000 in
set_option maxRecDepth 100000 in
theorem zc_X9_where (l : Launch) (E : za_E) (a1 : Int32) (σ0 : za_S)  : zMi l E yX9_where cX9_where 9 (Option.some Jvm.ClassFile.FieldType.int) 27 652 [za_O 0 0, za_I a1] σ0 (fun r σ' => zct σ0 σ') := by
  refine zMi_of [(0, za_O 0 0), (1, za_I a1)] (by decide) rfl rfl (Nat.le_of_ble_eq_true rfl) ?_
  intro ho p e s m args below meth c G hr
  refine zv_gen (R9 := zc σ0) (zc_r σ0) (fun σ hz => ?_)
  refine zv_aload_n (j := 0) G dX9_where_0 rfl rfl ?_
  refine zg_X9_71 G dX9_where_1 ?_
  refine zv_aload_n (j := 0) G dX9_where_4 rfl rfl ?_
  refine zg_X9_33 G dX9_where_5 ?_
  refine zv_callVNi (as := [za_O 7 79]) G (by decide) rfl rfl (zc_X0_faultOf l E  σ ) zk_X0_faultOf zm_898 rfl ⟨(Nat.le_of_ble_eq_true rfl), (Nat.le_of_ble_eq_true rfl)⟩ ⟨Nat.zero_le _, Nat.zero_le _⟩ (Nat.le_of_ble_eq_true rfl) dX9_where_8 (fun r_8 σ h_8 => ?_)
  have hz9 := h_8
  have hz := zc_t hz hz9
  refine zv_istore_n (lv' := [(2, za_I r_8), (0, za_O 0 0), (1, za_I a1)]) G dX9_where_11 rfl (by decide) rfl ?_
  refine zv_aload_n (j := 1) G dX9_where_12 rfl rfl ?_
  refine zg_X9_33 G dX9_where_13 ?_
  refine zv_callVNv (as := []) G (by decide) rfl rfl (zc_X7_clear l E  σ ) zk_X7_clear zm_731 rfl ⟨(Nat.le_of_ble_eq_true rfl), (Nat.le_of_ble_eq_true rfl)⟩ ⟨Nat.zero_le _, Nat.zero_le _⟩ (Nat.le_of_ble_eq_true rfl) dX9_where_16 (fun σ h_16 => ?_)
  have hz := zct_of hz h_16
  refine zv_iload_n (j := 0) G dX9_where_19 rfl rfl ?_
  refine zv_if_lt (tgt := 29) G dX9_where_20 (by decide) (fun c_20 => ?_) (fun c_20 => ?_)
  · refine zv_iload_n (j := 2) G dX9_where_29 rfl rfl ?_
    refine zv_callSi (as := [za_I a1]) G (zc_X9_isTable l E a1 σ ) zk_X9_isTable zm_438 rfl ⟨(Nat.le_of_ble_eq_true rfl), (Nat.le_of_ble_eq_true rfl)⟩ ⟨Nat.zero_le _, Nat.zero_le _⟩ (Nat.le_of_ble_eq_true rfl) dX9_where_30 (fun r_30 σ h_30 => ?_)
    obtain ⟨h_30, rfl⟩ := h_30
    refine zv_if_ne (tgt := 38) G dX9_where_33 (by decide) (fun c_33 => ?_) (fun c_33 => ?_)
    · refine zv_aload_n (j := 1) G dX9_where_38 rfl rfl ?_
      refine zg_X9_10 G dX9_where_39 ?_
      refine zv_iload_n (j := 2) G dX9_where_42 rfl rfl ?_
      refine zv_callVNr (as := [za_I a1]) G (by decide) rfl rfl (zc_X4_table l E 1 a1 σ ) zk_X4_table zm_453 rfl ⟨(Nat.le_of_ble_eq_true rfl), (Nat.le_of_ble_eq_true rfl)⟩ ⟨Nat.zero_le _, Nat.zero_le _⟩ (Nat.le_of_ble_eq_true rfl) dX9_where_43 (fun r_43 σ h_43 => ?_)
      obtain ⟨w_43, rfl, h_w_43, t_43, rfl⟩ := h_43
      refine zv_astore_n (lv' := [(3, za_O 2 w_43), (2, za_I r_8), (0, za_O 0 0), (1, za_I a1)]) G dX9_where_46 rfl (by decide) rfl ?_
      refine zv_iconst (v := 0) G dX9_where_47 (by decide) ?_
      refine zv_istore (lv' := [(4, za_I 0), (3, za_O 2 w_43), (2, za_I r_8), (0, za_O 0 0), (1, za_I a1)]) G dX9_where_48 (by decide) rfl ?_
      refine zv_iconst (v := 0) G dX9_where_50 (by decide) ?_
      refine zv_istore (lv' := [(5, za_I 0), (4, za_I 0), (3, za_O 2 w_43), (2, za_I r_8), (0, za_O 0 0), (1, za_I a1)]) G dX9_where_51 (by decide) rfl ?_
      refine zv_iconst (v := 0) G dX9_where_53 (by decide) ?_
      refine zv_istore (lv' := [(6, za_I 0), (5, za_I 0), (4, za_I 0), (3, za_O 2 w_43), (2, za_I r_8), (0, za_O 0 0), (1, za_I a1)]) G dX9_where_54 (by decide) rfl ?_
      refine zv_iconst (v := 0) G dX9_where_56 (by decide) ?_
      have J_59 : ∀ (n : Nat) (y4_59 : Int32) (y5_59 : Int32) (y6_59 : Int32) (y7_59 : Int32) (σ : za_S) (hz : zct σ0 σ) (hn_59 : (2147483648 - y7_59.toInt).toNat < n), zV p l e (zRm 27 652) s m args below meth c E (za_A E) 9 0 0 (MQ below (va_Qi (fun r σ' => zct σ0 σ') (zB E) (za_A E)) args s 0 0 (za_A E)) 59 [(0, za_O 0 0), (3, za_O 2 w_43), (4, za_I y4_59), (5, za_I y5_59), (6, za_I y6_59), (7, za_I y7_59)] [] σ := by
        intro n
        induction n with
        | zero => intro y4_59 y5_59 y6_59 y7_59 σ hz hn; exact absurd hn (Nat.not_lt_zero _)
        | succ n ih_59 =>
          intro y4_59 y5_59 y6_59 y7_59 σ hz hn_59
          refine zv_iload (j := 5) G dX9_where_59 rfl ?_
          refine zv_aload_n (j := 1) G dX9_where_61 rfl rfl ?_
          refine zg_X9_106 G dX9_where_62 ?_
          refine zv_icmp_ge (tgt := 118) G dX9_where_65 (by decide) (fun c_65 => ?_) (fun c_65 => ?_)
          · refine zv_aload_n (j := 0) G dX9_where_118 rfl rfl ?_
            refine zg_X9_40 G dX9_where_119 ?_
            refine zv_iload (j := 2) G dX9_where_122 rfl ?_
            refine zv_callSi (as := [za_I y4_59]) G (zc_J6_bitCount_0f7a4 l E y4_59 σ ) zk_J6_bitCount_0f7a4 zm_1002 rfl ⟨(Nat.le_of_ble_eq_true rfl), (Nat.le_of_ble_eq_true rfl)⟩ ⟨Nat.zero_le _, Nat.zero_le _⟩ (Nat.le_of_ble_eq_true rfl) dX9_where_124 (fun r_124 σ h_124 => ?_)
            subst h_124
            refine zv_i2l G dX9_where_127 ?_
            refine zv_iload (j := 3) G dX9_where_128 rfl ?_
            refine zv_i2l G dX9_where_130 ?_
            refine zv_iload (j := 4) G dX9_where_131 rfl ?_
            refine zv_i2l G dX9_where_133 ?_
            refine zv_callVNv (as := [za_L r_124.toInt64, za_L y5_59.toInt64, za_L y6_59.toInt64]) G (by decide) rfl rfl (zc_X8_tell__ l E r_124.toInt64 y5_59.toInt64 y6_59.toInt64 σ ) zk_X8_tell__ zm_767 rfl ⟨(Nat.le_of_ble_eq_true rfl), (Nat.le_of_ble_eq_true rfl)⟩ ⟨Nat.zero_le _, Nat.zero_le _⟩ (Nat.le_of_ble_eq_true rfl) dX9_where_134 (fun σ h_134 => ?_)
            have hz9 := h_134
            have hz := zct_t hz hz9
            refine zv_iload (j := 2) G dX9_where_137 rfl ?_
            exact zv_iret G hr dX9_where_139 hz
          · refine zv_aload_n (j := 0) G dX9_where_68 rfl rfl ?_
            refine zg_X9_71 G dX9_where_69 ?_
            refine zv_aload_n (j := 1) G dX9_where_72 rfl rfl ?_
            refine zv_iload (j := 5) G dX9_where_73 rfl ?_
            refine zv_callVNi (as := [za_O 2 w_43, za_I y7_59]) G (by decide) rfl rfl (zc_X0_valueOf l E w_43 y7_59 σ ) zk_X0_valueOf zm_996 rfl ⟨(Nat.le_of_ble_eq_true rfl), (Nat.le_of_ble_eq_true rfl)⟩ ⟨Nat.zero_le _, Nat.zero_le _⟩ (Nat.le_of_ble_eq_true rfl) dX9_where_75 (fun r_75 σ h_75 => ?_)
            have hz9 := h_75
            have hz := zct_t hz hz9
            refine zv_istore (lv' := [(8, za_I r_75), (0, za_O 0 0), (3, za_O 2 w_43), (4, za_I y4_59), (5, za_I y5_59), (6, za_I y6_59), (7, za_I y7_59)]) G dX9_where_78 (by decide) rfl ?_
            refine zv_iload (j := 5) G dX9_where_80 rfl ?_
            refine zv_iload (j := 0) G dX9_where_82 rfl ?_
            refine zv_iadd G dX9_where_84 ?_
            refine zv_top (fun x_85 e_85 => ?_)
            refine zv_istore (lv' := [(6, za_I x_85), (8, za_I r_75), (0, za_O 0 0), (3, za_O 2 w_43), (4, za_I y4_59), (5, za_I y5_59), (7, za_I y7_59)]) G dX9_where_85 (by decide) rfl ?_
            refine zv_iload (j := 1) G dX9_where_87 rfl ?_
            refine zv_if_le (tgt := 112) G dX9_where_89 (by decide) (fun c_89 => ?_) (fun c_89 => ?_)
            · obtain ⟨x_112, e_112⟩ : ∃ y : Int32, y = y7_59 + 1 := ⟨_, rfl⟩
              refine zv_iinc (j := 6) (v := x_112) (lv' := [(7, za_I x_112), (6, za_I x_85), (8, za_I r_75), (0, za_O 0 0), (3, za_O 2 w_43), (4, za_I y4_59), (5, za_I y5_59)]) G dX9_where_112 rfl (by rw [e_112]; rfl) (by decide) rfl ?_
              refine zv_goto (tgt := 59) G dX9_where_115 (by decide) ?_
              refine zv_sub [3, 4, 5, 6, 1, 0] (lv' := [(0, za_O 0 0), (3, za_O 2 w_43), (4, za_I y4_59), (5, za_I y5_59), (6, za_I x_85), (7, za_I x_112)]) rfl ?_
              exact ih_59 y4_59 y5_59 x_85 x_112 σ hz (z_meas c_65 e_112 hn_59)
            · refine zv_iload (j := 4) G dX9_where_92 rfl ?_
              refine zv_iconst (v := 1) G dX9_where_94 (by decide) ?_
              refine zv_iload (j := 6) G dX9_where_95 rfl ?_
              refine zv_ishl G dX9_where_97 ?_
              refine zv_ior G dX9_where_98 ?_
              refine zv_top (fun x_99 e_99 => ?_)
              refine zv_istore (lv' := [(4, za_I x_99), (6, za_I x_85), (8, za_I r_75), (0, za_O 0 0), (3, za_O 2 w_43), (5, za_I y5_59), (7, za_I y7_59)]) G dX9_where_99 (by decide) rfl ?_
              refine zv_iload (j := 5) G dX9_where_101 rfl ?_
              refine zv_aload_n (j := 4) G dX9_where_103 rfl rfl ?_
              refine zv_iload (j := 6) G dX9_where_104 rfl ?_
              refine zv_callVNi (as := [za_I y7_59]) G (by decide) rfl rfl (zc_X6_daysOfRow l E w_43 y7_59 σ ) zk_X6_daysOfRow zm_821 rfl ⟨(Nat.le_of_ble_eq_true rfl), (Nat.le_of_ble_eq_true rfl)⟩ ⟨Nat.zero_le _, Nat.zero_le _⟩ (Nat.le_of_ble_eq_true rfl) dX9_where_106 (fun r_106 σ h_106 => ?_)
              subst h_106
              refine zv_iadd G dX9_where_109 ?_
              refine zv_top (fun x_110 e_110 => ?_)
              refine zv_istore (lv' := [(5, za_I x_110), (4, za_I x_99), (6, za_I x_85), (8, za_I r_75), (0, za_O 0 0), (3, za_O 2 w_43), (7, za_I y7_59)]) G dX9_where_110 (by decide) rfl ?_
              obtain ⟨x_112, e_112⟩ : ∃ y : Int32, y = y7_59 + 1 := ⟨_, rfl⟩
              refine zv_iinc (j := 6) (v := x_112) (lv' := [(7, za_I x_112), (5, za_I x_110), (4, za_I x_99), (6, za_I x_85), (8, za_I r_75), (0, za_O 0 0), (3, za_O 2 w_43)]) G dX9_where_112 rfl (by rw [e_112]; rfl) (by decide) rfl ?_
              refine zv_goto (tgt := 59) G dX9_where_115 (by decide) ?_
              refine zv_sub [5, 6, 2, 1, 3, 0] (lv' := [(0, za_O 0 0), (3, za_O 2 w_43), (4, za_I x_99), (5, za_I x_110), (6, za_I x_85), (7, za_I x_112)]) rfl ?_
              exact ih_59 x_99 x_110 x_85 x_112 σ hz (z_meas c_65 e_112 hn_59)
      refine zv_istore (lv' := [(7, za_I 0), (6, za_I 0), (5, za_I 0), (4, za_I 0), (3, za_O 2 w_43), (2, za_I r_8), (0, za_O 0 0), (1, za_I a1)]) G dX9_where_57 (by decide) rfl ?_
      refine zv_sub [6, 4, 3, 2, 1, 0] (lv' := [(0, za_O 0 0), (3, za_O 2 w_43), (4, za_I 0), (5, za_I 0), (6, za_I 0), (7, za_I 0)]) rfl ?_
      exact J_59 _ (0 : Int32) (0 : Int32) (0 : Int32) (0 : Int32) σ hz (Nat.lt_succ_self _)
    · refine zv_iconst (v := (-1)) G dX9_where_36 (by decide) ?_
      exact zv_iret G hr dX9_where_37 hz
  · refine zv_sipush (v := (-1000)) G dX9_where_23 (by decide) ?_
    refine zv_iload_n (j := 0) G dX9_where_26 rfl rfl ?_
    refine zv_isub G dX9_where_27 ?_
    exact zv_iret G hr dX9_where_28 hz
set_option maxHeartbeats 4000000 in
set_option maxRecDepth 100000 in
theorem zc_X9_work (l : Launch) (E : za_E)  (σ0 : za_S)  : zMi l E yX9_work cX9_work 6 (Option.some Jvm.ClassFile.FieldType.int) 8 196 [za_O 0 0] σ0 (fun r σ' => zct σ0 σ') := by
  refine zMi_of [(0, za_O 0 0)] (by decide) rfl rfl (Nat.le_of_ble_eq_true rfl) ?_
  intro ho p e s m args below meth c G hr
  refine zv_gen (R9 := zc σ0) (zc_r σ0) (fun σ hz => ?_)
  refine zv_aload_n (j := 0) G dX9_work_0 rfl rfl ?_
  refine zg_X9_33 G dX9_work_1 ?_
  refine zv_callVNi (as := []) G (by decide) rfl rfl (zc_X7_faultOfWork l E  σ ) zk_X7_faultOfWork zm_662 rfl ⟨(Nat.le_of_ble_eq_true rfl), (Nat.le_of_ble_eq_true rfl)⟩ ⟨Nat.zero_le _, Nat.zero_le _⟩ (Nat.le_of_ble_eq_true rfl) dX9_work_4 (fun r_4 σ h_4 => ?_)
  subst h_4
  refine zv_istore_n (lv' := [(1, za_I r_4), (0, za_O 0 0)]) G dX9_work_7 rfl (by decide) rfl ?_
  refine zv_iload_n (j := 0) G dX9_work_8 rfl rfl ?_
  refine zv_if_lt (tgt := 23) G dX9_work_9 (by decide) (fun c_9 => ?_) (fun c_9 => ?_)
  · refine zv_aload_n (j := 1) G dX9_work_23 rfl rfl ?_
    refine zg_X9_22 G dX9_work_24 ?_
    refine zv_aload_n (j := 1) G dX9_work_27 rfl rfl ?_
    refine zg_X9_10 G dX9_work_28 ?_
    refine zv_callVNv (as := [za_O 1 1]) G (by decide) rfl rfl (zc_X2_prepare l E 1 σ ) zk_X2_prepare zm_409 rfl ⟨(Nat.le_of_ble_eq_true rfl), (Nat.le_of_ble_eq_true rfl)⟩ ⟨Nat.zero_le _, Nat.zero_le _⟩ (Nat.le_of_ble_eq_true rfl) dX9_work_31 (fun σ h_31 => ?_)
    have hz9 := h_31
    have hz := zc_t hz hz9
    refine zv_iconst (v := 0) G dX9_work_34 (by decide) ?_
    refine zv_istore_n (lv' := [(2, za_I 0), (1, za_I r_4), (0, za_O 0 0)]) G dX9_work_35 rfl (by decide) rfl ?_
    refine zv_iconst (v := 0) G dX9_work_36 (by decide) ?_
    refine zv_istore_n (lv' := [(3, za_I 0), (2, za_I 0), (1, za_I r_4), (0, za_O 0 0)]) G dX9_work_37 rfl (by decide) rfl ?_
    refine zv_iconst (v := 0) G dX9_work_38 (by decide) ?_
    refine zv_istore (lv' := [(4, za_I 0), (3, za_I 0), (2, za_I 0), (1, za_I r_4), (0, za_O 0 0)]) G dX9_work_39 (by decide) rfl ?_
    refine zv_iconst (v := 0) G dX9_work_41 (by decide) ?_
    have J_44 : ∀ (n : Nat) (y2_44 : Int32) (y3_44 : Int32) (y4_44 : Int32) (y5_44 : Int32) (σ : za_S) (hz : zc σ0 σ) (hn_44 : (2147483648 - y5_44.toInt).toNat < n), zV p l e (zRm 8 196) s m args below meth c E (za_A E) 6 0 0 (MQ below (va_Qi (fun r σ' => zct σ0 σ') (zB E) (za_A E)) args s 0 0 (za_A E)) 44 [(0, za_O 0 0), (2, za_I y2_44), (3, za_I y3_44), (4, za_I y4_44), (5, za_I y5_44)] [] σ := by
      intro n
      induction n with
      | zero => intro y2_44 y3_44 y4_44 y5_44 σ hz hn; exact absurd hn (Nat.not_lt_zero _)
      | succ n ih_44 =>
        intro y2_44 y3_44 y4_44 y5_44 σ hz hn_44
        refine zv_iload (j := 4) G dX9_work_44 rfl ?_
        refine zv_bipush (v := 80) G dX9_work_46 (by decide) ?_
        have J_112 : ∀  (σ : za_S) (hz : zc σ0 σ), zV p l e (zRm 8 196) s m args below meth c E (za_A E) 6 0 0 (MQ below (va_Qi (fun r σ' => zct σ0 σ') (zB E) (za_A E)) args s 0 0 (za_A E)) 112 [(0, za_O 0 0), (2, za_I y2_44), (3, za_I y3_44)] [] σ := by
          intro σ hz
          refine zv_iload_n (j := 1) G dX9_work_112 rfl rfl ?_
          have J_123 : ∀  (σ : za_S) (hz : zc σ0 σ), zV p l e (zRm 8 196) s m args below meth c E (za_A E) 6 0 0 (MQ below (va_Qi (fun r σ' => zct σ0 σ') (zB E) (za_A E)) args s 0 0 (za_A E)) 123 [(0, za_O 0 0), (2, za_I y2_44), (3, za_I y3_44)] [] σ := by
            intro σ hz
            refine zv_aload_n (j := 0) G dX9_work_123 rfl rfl ?_
            refine zg_X9_33 G dX9_work_124 ?_
            refine zv_callVNv (as := []) G (by decide) rfl rfl (zc_X7_clear l E  σ ) zk_X7_clear zm_731 rfl ⟨(Nat.le_of_ble_eq_true rfl), (Nat.le_of_ble_eq_true rfl)⟩ ⟨Nat.zero_le _, Nat.zero_le _⟩ (Nat.le_of_ble_eq_true rfl) dX9_work_127 (fun σ h_127 => ?_)
            have hz := zct_of hz h_127
            refine zv_aload_n (j := 0) G dX9_work_130 rfl rfl ?_
            refine zg_X9_40 G dX9_work_131 ?_
            refine zv_iload_n (j := 2) G dX9_work_134 rfl rfl ?_
            have J_143 : ∀ (s0_143 : Int64) (σ : za_S) (hz : zct σ0 σ), zV p l e (zRm 8 196) s m args below meth c E (za_A E) 6 0 0 (MQ below (va_Qi (fun r σ' => zct σ0 σ') (zB E) (za_A E)) args s 0 0 (za_A E)) 143 [(0, za_O 0 0), (2, za_I y2_44)] [za_L s0_143, za_O 9 81] σ := by
              intro s0_143 σ hz
              refine zv_aload_n (j := 0) G dX9_work_143 rfl rfl ?_
              refine zg_X9_10 G dX9_work_144 ?_
              refine zg_X9_102 G dX9_work_147 ?_
              refine zg_X9_106 G dX9_work_150 ?_
              refine zv_aload_n (j := 0) G dX9_work_153 rfl rfl ?_
              refine zg_X9_10 G dX9_work_154 ?_
              refine zg_X9_179 G dX9_work_157 ?_
              refine zg_X9_106 G dX9_work_160 ?_
              refine zv_iadd G dX9_work_163 ?_
              refine zv_i2l G dX9_work_164 ?_
              refine zv_callVNv (as := [za_L s0_143, za_L (((σ.1 2 1) + (σ.1 4 1)).toInt64)]) G (by decide) rfl rfl (zc_X8_tell_ l E s0_143 (((σ.1 2 1) + (σ.1 4 1)).toInt64) σ ) zk_X8_tell_ zm_608 rfl ⟨(Nat.le_of_ble_eq_true rfl), (Nat.le_of_ble_eq_true rfl)⟩ ⟨Nat.zero_le _, Nat.zero_le _⟩ (Nat.le_of_ble_eq_true rfl) dX9_work_165 (fun σ h_165 => ?_)
              have hz9 := h_165
              have hz := zct_t hz hz9
              refine zv_iload_n (j := 1) G dX9_work_168 rfl rfl ?_
              exact zv_iret G hr dX9_work_169 hz
            refine zv_if_eq (tgt := 142) G dX9_work_135 (by decide) (fun c_135 => ?_) (fun c_135 => ?_)
            · refine zv_lconst (v := 0) G dX9_work_142 (by decide) ?_
              refine zv_sub [0, 1] (lv' := [(0, za_O 0 0), (2, za_I y2_44)]) rfl ?_
              exact J_143 0 σ hz
            · refine zv_lconst (v := 1) G dX9_work_138 (by decide) ?_
              refine zv_goto (tgt := 143) G dX9_work_139 (by decide) ?_
              refine zv_sub [0, 1] (lv' := [(0, za_O 0 0), (2, za_I y2_44)]) rfl ?_
              exact J_143 1 σ hz
          refine zv_if_le (tgt := 123) G dX9_work_113 (by decide) (fun c_113 => ?_) (fun c_113 => ?_)
          · refine zv_sub [0, 1, 2] (lv' := [(0, za_O 0 0), (2, za_I y2_44), (3, za_I y3_44)]) rfl ?_
            exact J_123 σ hz
          · refine zv_aload_n (j := 0) G dX9_work_116 rfl rfl ?_
            refine zg_X9_22 G dX9_work_117 ?_
            refine zv_callVNv (as := []) G (by decide) rfl rfl (zc_X2_confirm l E  σ ) zk_X2_confirm zm_497 rfl ⟨(Nat.le_of_ble_eq_true rfl), (Nat.le_of_ble_eq_true rfl)⟩ ⟨Nat.zero_le _, Nat.zero_le _⟩ (Nat.le_of_ble_eq_true rfl) dX9_work_120 (fun σ h_120 => ?_)
            have hz9 := h_120
            have hz := zc_t hz hz9
            refine zv_sub [0, 1, 2] (lv' := [(0, za_O 0 0), (2, za_I y2_44), (3, za_I y3_44)]) rfl ?_
            exact J_123 σ hz
        refine zv_icmp_ge (tgt := 112) G dX9_work_48 (by decide) (fun c_48 => ?_) (fun c_48 => ?_)
        · refine zv_sub [0, 1, 2] (lv' := [(0, za_O 0 0), (2, za_I y2_44), (3, za_I y3_44)]) rfl ?_
          exact J_112 σ hz
        · refine zv_iload (j := 3) G dX9_work_51 rfl ?_
          refine zv_aload_n (j := 0) G dX9_work_53 rfl rfl ?_
          refine zg_X9_33 G dX9_work_54 ?_
          refine zg_X9_79 G dX9_work_57 ?_
          refine zv_icmp_ge (tgt := 112) G dX9_work_60 (by decide) (fun c_60 => ?_) (fun c_60 => ?_)
          · refine zv_sub [0, 1, 2] (lv' := [(0, za_O 0 0), (2, za_I y2_44), (3, za_I y3_44)]) rfl ?_
            exact J_112 σ hz
          · refine zv_iload_n (j := 2) G dX9_work_63 rfl rfl ?_
            refine zv_if_ne (tgt := 112) G dX9_work_64 (by decide) (fun c_64 => ?_) (fun c_64 => ?_)
            · refine zv_sub [0, 1, 2] (lv' := [(0, za_O 0 0), (2, za_I y2_44), (3, za_I y3_44)]) rfl ?_
              exact J_112 σ hz
            · refine zv_aload_n (j := 0) G dX9_work_67 rfl rfl ?_
              refine zv_iload (j := 3) G dX9_work_68 rfl ?_
              refine zv_callVi (as := [za_I y4_44]) G (by decide) rfl rfl (zc_X9_doAct l E y4_44 σ ) zk_X9_doAct zm_735 rfl ⟨(Nat.le_of_ble_eq_true rfl), (Nat.le_of_ble_eq_true rfl)⟩ ⟨Nat.zero_le _, Nat.zero_le _⟩ (Nat.le_of_ble_eq_true rfl) dX9_work_70 (fun r_70 σ h_70 => ?_)
              have hz9 := h_70
              have hz := zc_t hz hz9
              have J_84 : ∀ (y2_84 : Int32) (y3_84 : Int32) (σ : za_S) (hz : zc σ0 σ), zV p l e (zRm 8 196) s m args below meth c E (za_A E) 6 0 0 (MQ below (va_Qi (fun r σ' => zct σ0 σ') (zB E) (za_A E)) args s 0 0 (za_A E)) 84 [(0, za_O 0 0), (2, za_I y2_84), (3, za_I y3_84), (4, za_I y4_44), (5, za_I y5_44)] [] σ := by
                intro y2_84 y3_84 σ hz
                refine zv_iload (j := 3) G dX9_work_84 rfl ?_
                refine zv_iconst (v := 1) G dX9_work_86 (by decide) ?_
                refine zv_aload_n (j := 0) G dX9_work_87 rfl rfl ?_
                refine zg_X9_33 G dX9_work_88 ?_
                refine zv_iload (j := 3) G dX9_work_91 rfl ?_
                refine zv_callVNi (as := [za_I y4_44]) G (by decide) rfl rfl (zc_X7_signAt l E y4_44 σ ) zk_X7_signAt zm_743 rfl ⟨(Nat.le_of_ble_eq_true rfl), (Nat.le_of_ble_eq_true rfl)⟩ ⟨Nat.zero_le _, Nat.zero_le _⟩ (Nat.le_of_ble_eq_true rfl) dX9_work_93 (fun r_93 σ h_93 => ?_)
                subst h_93
                refine zv_callSNr (as := [za_I r_93]) G (zc_X7_formOf l E r_93 σ ) zk_X7_formOf zm_754 rfl ⟨(Nat.le_of_ble_eq_true rfl), (Nat.le_of_ble_eq_true rfl)⟩ ⟨Nat.zero_le _, Nat.zero_le _⟩ (Nat.le_of_ble_eq_true rfl) dX9_work_96 (fun r_96 σ h_96 => ?_)
                obtain ⟨w_96, rfl, h_w_96, t_96, rfl⟩ := h_96
                refine zv_callTi (as := []) G (zc_J0_length_8abf5 l E w_96 σ ) zk_J0_length_8abf5 zm_755 rfl ⟨(Nat.le_of_ble_eq_true rfl), (Nat.le_of_ble_eq_true rfl)⟩ ⟨Nat.zero_le _, Nat.zero_le _⟩ (Nat.le_of_ble_eq_true rfl) dX9_work_99 (fun r_99 σ h_99 => ?_)
                obtain ⟨h_99, rfl⟩ := h_99
                refine zv_iadd G dX9_work_102 ?_
                refine zv_iadd G dX9_work_103 ?_
                refine zv_top (fun x_104 e_104 => ?_)
                refine zv_istore (lv' := [(4, za_I x_104), (0, za_O 0 0), (2, za_I y2_84), (3, za_I y3_84), (5, za_I y5_44)]) G dX9_work_104 (by decide) rfl ?_
                obtain ⟨x_106, e_106⟩ : ∃ y : Int32, y = y5_44 + 1 := ⟨_, rfl⟩
                refine zv_iinc (j := 4) (v := x_106) (lv' := [(5, za_I x_106), (4, za_I x_104), (0, za_O 0 0), (2, za_I y2_84), (3, za_I y3_84)]) G dX9_work_106 rfl (by rw [e_106]; rfl) (by decide) rfl ?_
                refine zv_goto (tgt := 44) G dX9_work_109 (by decide) ?_
                refine zv_sub [2, 3, 4, 1, 0] (lv' := [(0, za_O 0 0), (2, za_I y2_84), (3, za_I y3_84), (4, za_I x_104), (5, za_I x_106)]) rfl ?_
                exact ih_44 y2_84 y3_84 x_104 x_106 σ hz (z_meas c_48 e_106 hn_44)
              refine zv_if_ge (tgt := 81) G dX9_work_73 (by decide) (fun c_73 => ?_) (fun c_73 => ?_)
              · obtain ⟨x_81, e_81⟩ : ∃ y : Int32, y = y2_44 + 1 := ⟨_, rfl⟩
                refine zv_iinc (j := 1) (v := x_81) (lv' := [(2, za_I x_81), (0, za_O 0 0), (3, za_I y3_44), (4, za_I y4_44), (5, za_I y5_44)]) G dX9_work_81 rfl (by rw [e_81]; rfl) (by decide) rfl ?_
                refine zv_sub [1, 0, 2, 3, 4] (lv' := [(0, za_O 0 0), (2, za_I x_81), (3, za_I y3_44), (4, za_I y4_44), (5, za_I y5_44)]) rfl ?_
                exact J_84 x_81 y3_44 σ hz
              · refine zv_iconst (v := 1) G dX9_work_76 (by decide) ?_
                refine zv_istore_n (lv' := [(3, za_I 1), (0, za_O 0 0), (2, za_I y2_44), (4, za_I y4_44), (5, za_I y5_44)]) G dX9_work_77 rfl (by decide) rfl ?_
                refine zv_goto (tgt := 84) G dX9_work_78 (by decide) ?_
                refine zv_sub [1, 2, 0, 3, 4] (lv' := [(0, za_O 0 0), (2, za_I y2_44), (3, za_I 1), (4, za_I y4_44), (5, za_I y5_44)]) rfl ?_
                exact J_84 y2_44 (1 : Int32) σ hz
    refine zv_istore (lv' := [(5, za_I 0), (4, za_I 0), (3, za_I 0), (2, za_I 0), (1, za_I r_4), (0, za_O 0 0)]) G dX9_work_42 (by decide) rfl ?_
    refine zv_sub [5, 3, 2, 1, 0] (lv' := [(0, za_O 0 0), (2, za_I 0), (3, za_I 0), (4, za_I 0), (5, za_I 0)]) rfl ?_
    exact J_44 _ (0 : Int32) (0 : Int32) (0 : Int32) (0 : Int32) σ hz (Nat.lt_succ_self _)
  · refine zv_aload_n (j := 1) G dX9_work_12 rfl rfl ?_
    refine zg_X9_33 G dX9_work_13 ?_
    refine zv_callVNv (as := []) G (by decide) rfl rfl (zc_X7_clear l E  σ ) zk_X7_clear zm_731 rfl ⟨(Nat.le_of_ble_eq_true rfl), (Nat.le_of_ble_eq_true rfl)⟩ ⟨Nat.zero_le _, Nat.zero_le _⟩ (Nat.le_of_ble_eq_true rfl) dX9_work_16 (fun σ h_16 => ?_)
    have hz := zct_of hz h_16
    refine zv_iconst (v := (-1)) G dX9_work_19 (by decide) ?_
    refine zv_iload_n (j := 0) G dX9_work_20 rfl rfl ?_
    refine zv_isub G dX9_work_21 ?_
    exact zv_iret G hr dX9_work_22 hz
set_option maxHeartbeats 4000000 in
set_option maxRecDepth 100000 in
theorem zc_X7_appendFour (l : Launch) (E : za_E) (a1 : Int32) (σ0 : za_S) (h0 : 0 ≤ (σ0.1 79 1).toInt ∧ (σ0.1 79 1).toInt ≤ 80) : zMi l E yX7_appendFour cX7_appendFour 3 (Option.some Jvm.ClassFile.FieldType.boolean) 1 21 [za_O 7 79, za_I a1] σ0 (fun r σ' => (r = 0 ∨ r = 1) ∧ ((r = 0 ∧ 76 < (σ0.1 79 1).toInt ∧ zap σ0 0 σ') ∨ (r = 1 ∧ (σ0.1 79 1).toInt ≤ 76 ∧ zap σ0 4 σ'))) := by
  refine zMi_of [(0, za_O 7 79), (1, za_I a1)] (by decide) rfl rfl (Nat.le_of_ble_eq_true rfl) ?_
  intro ho p e s m args below meth c G hr
  refine zv_gen (R9 := zap σ0 0) ⟨zcT_r σ0, by omega⟩ (fun σ hz => ?_)
  refine zv_aload_n (j := 0) G dX7_appendFour_0 rfl rfl ?_
  refine zg_X7_15 G dX7_appendFour_1 ?_
  refine zv_iconst (v := 4) G dX7_appendFour_4 (by decide) ?_
  refine zv_iadd G dX7_appendFour_5 ?_
  refine zv_bipush (v := 80) G dX7_appendFour_6 (by decide) ?_
  refine zv_icmp_le (tgt := 13) G dX7_appendFour_8 (by decide) (fun c_8 => ?_) (fun c_8 => ?_)
  · have q76 := z_le76s hz h0 c_8
    refine zv_iconst (v := 0) G dX7_appendFour_13 (by decide) ?_
    have J_15 : ∀ (n : Nat) (y2_15 : Int32) (σ : za_S) (hz : zap σ0 y2_15.toInt σ) (k_15 : 0 ≤ y2_15.toInt ∧ y2_15.toInt ≤ 4) (hn_15 : (2147483648 - y2_15.toInt).toNat < n), zV p l e (zRm 1 21) s m args below meth c E (za_A E) 3 0 0 (MQ below (va_Qi (fun r σ' => (r = 0 ∨ r = 1) ∧ ((r = 0 ∧ 76 < (σ0.1 79 1).toInt ∧ zap σ0 0 σ') ∨ (r = 1 ∧ (σ0.1 79 1).toInt ≤ 76 ∧ zap σ0 4 σ'))) (zB E) (za_A E)) args s 0 0 (za_A E)) 15 [(0, za_O 7 79), (1, za_I a1), (2, za_I y2_15)] [] σ := by
      intro n
      induction n with
      | zero => intro y2_15 σ hz k_15 hn; exact absurd hn (Nat.not_lt_zero _)
      | succ n ih_15 =>
        intro y2_15 σ hz k_15 hn_15
        refine zv_iload_n (j := 2) G dX7_appendFour_15 rfl rfl ?_
        refine zv_iconst (v := 4) G dX7_appendFour_16 (by decide) ?_
        refine zv_icmp_ge (tgt := 59) G dX7_appendFour_17 (by decide) (fun c_17 => ?_) (fun c_17 => ?_)
        · refine zv_iconst (v := 1) G dX7_appendFour_59 (by decide) ?_
          exact zv_zret G hr dX7_appendFour_60 (by decide) ⟨Or.inr rfl, Or.inr ⟨rfl, q76, z_four hz k_15 c_17⟩⟩
        · refine zv_aload_n (j := 0) G dX7_appendFour_20 rfl rfl ?_
          refine zg_X7_11 G dX7_appendFour_21 ?_
          refine zv_aload_n (j := 0) G dX7_appendFour_24 rfl rfl ?_
          refine zg_X7_15 G dX7_appendFour_25 ?_
          refine zv_iload_n (j := 1) G dX7_appendFour_28 rfl rfl ?_
          refine zv_bipush (v := 24) G dX7_appendFour_29 (by decide) ?_
          refine zv_bipush (v := 8) G dX7_appendFour_31 (by decide) ?_
          refine zv_iload_n (j := 2) G dX7_appendFour_33 rfl rfl ?_
          refine zv_imul G dX7_appendFour_34 ?_
          refine zv_isub G dX7_appendFour_35 ?_
          refine zv_iushr G dX7_appendFour_36 ?_
          refine zv_sipush (v := 255) G dX7_appendFour_37 (by decide) ?_
          refine zv_iand G dX7_appendFour_40 ?_
          refine zv_i2c G dX7_appendFour_41 ?_
          refine zv_cast G (by decide) rfl (fun _ => rfl) (z_in (by have h1 := hz.2; omega) (by have h1 := hz.2; have h2 := z_ltk c_17 (n := 4) rfl; omega)) dX7_appendFour_42 ?_
          refine zv_gen (R9 := zap σ0 y2_15.toInt) (zap_c hz) (fun σ hz => ?_)
          refine zv_aload_n (j := 0) G dX7_appendFour_43 rfl rfl ?_
          refine zv_dupO G dX7_appendFour_44 ?_
          refine zg_X7_15 G dX7_appendFour_45 ?_
          refine zv_iconst (v := 1) G dX7_appendFour_48 (by decide) ?_
          refine zv_iadd G dX7_appendFour_49 ?_
          refine zp_X7_15 G dX7_appendFour_50 ?_
          refine zv_gen (R9 := zap σ0 (y2_15.toInt + 1)) (zap_i hz (by omega) (by have h2 := z_ltk c_17 (n := 4) rfl; omega)) (fun σ hz => ?_)
          obtain ⟨x_53, e_53⟩ : ∃ y : Int32, y = y2_15 + 1 := ⟨_, rfl⟩
          refine zv_iinc (j := 2) (v := x_53) (lv' := [(2, za_I x_53), (0, za_O 7 79), (1, za_I a1)]) G dX7_appendFour_53 rfl (by rw [e_53]; rfl) (by decide) rfl ?_
          refine zv_goto (tgt := 15) G dX7_appendFour_56 (by decide) ?_
          refine zv_sub [1, 2, 0] (lv' := [(0, za_O 7 79), (1, za_I a1), (2, za_I x_53)]) rfl ?_
          exact ih_15 x_53 σ (by rw [z_inc c_17 e_53]; exact hz) (by have h1 := z_inc c_17 e_53; have h2 := z_ltk c_17 (n := 4) rfl; omega) (z_meas c_17 e_53 hn_15)
    refine zv_istore_n (lv' := [(2, za_I 0), (0, za_O 7 79), (1, za_I a1)]) G dX7_appendFour_14 rfl (by decide) rfl ?_
    refine zv_sub [1, 2, 0] (lv' := [(0, za_O 7 79), (1, za_I a1), (2, za_I 0)]) rfl ?_
    exact J_15 _ (0 : Int32) σ hz (by decide) (Nat.lt_succ_self _)
  · have q77 := z_gt76s hz h0 c_8
    refine zv_iconst (v := 0) G dX7_appendFour_11 (by decide) ?_
    exact zv_zret G hr dX7_appendFour_12 (by decide) ⟨Or.inl rfl, Or.inl ⟨rfl, q77, hz⟩⟩
set_option maxHeartbeats 4000000 in
set_option maxRecDepth 100000 in
theorem zc_X9_sign (l : Launch) (E : za_E) (a1 : Int32) (σ0 : za_S) (h0 : 0 ≤ (σ0.1 79 1).toInt ∧ (σ0.1 79 1).toInt ≤ 80) : zMi l E yX9_sign cX9_sign 2 (Option.some Jvm.ClassFile.FieldType.int) 2 43 [za_O 0 0, za_I a1] σ0 (fun r σ' => zcT σ0 σ' ∧ zsg (σ0.1 79 1).toInt r.toInt (σ'.1 79 1).toInt) := by
  refine zMi_of [(0, za_O 0 0), (1, za_I a1)] (by decide) rfl rfl (Nat.le_of_ble_eq_true rfl) ?_
  intro ho p e s m args below meth c G hr
  refine zv_aload_n (j := 0) G dX9_sign_0 rfl rfl ?_
  refine zg_X9_33 G dX9_sign_1 ?_
  refine zv_iload_n (j := 1) G dX9_sign_4 rfl rfl ?_
  refine zv_callVNi (as := [za_I a1]) G (by decide) rfl rfl (zc_X7_appendFour l E a1 σ0 h0) zk_X7_appendFour zm_376 rfl ⟨(Nat.le_of_ble_eq_true rfl), (Nat.le_of_ble_eq_true rfl)⟩ ⟨Nat.zero_le _, Nat.zero_le _⟩ (Nat.le_of_ble_eq_true rfl) dX9_sign_5 (fun r_5 σ h_5 => ?_)
  obtain ⟨h_5, h_5b⟩ := h_5
  refine zv_if_eq (tgt := 21) G dX9_sign_8 (by decide) (fun c_8 => ?_) (fun c_8 => ?_)
  · refine zv_iconst (v := (-1)) G dX9_sign_21 (by decide) ?_
    exact zv_iret G hr dX9_sign_22 (by first | exact z_sign1 h_5b c_8 | exact z_sign0 h_5b c_8)
  · refine zv_aload_n (j := 0) G dX9_sign_11 rfl rfl ?_
    refine zg_X9_33 G dX9_sign_12 ?_
    refine zg_X9_79 G dX9_sign_15 ?_
    refine zv_goto (tgt := 22) G dX9_sign_18 (by decide) ?_
    exact zv_iret G hr dX9_sign_22 (by first | exact z_sign1 h_5b c_8 | exact z_sign0 h_5b c_8)
set_option maxHeartbeats 4000000 in
set_option maxRecDepth 100000 in
theorem zc_X9_end (l : Launch) (E : za_E) (a1 : Int32) (σ0 : za_S)  : zMi l E yX9_end cX9_end 2 (Option.some Jvm.ClassFile.FieldType.boolean) 1 21 [za_O 0 0, za_I a1] σ0 (fun r σ' => (r = 0 ∨ r = 1) ∧ zcT σ0 σ' ∧ zen (σ0.1 79 1).toInt a1.toInt r (σ'.1 79 1).toInt) := by
  refine zMi_of [(0, za_O 0 0), (1, za_I a1)] (by decide) rfl rfl (Nat.le_of_ble_eq_true rfl) ?_
  intro ho p e s m args below meth c G hr
  refine zv_iload_n (j := 1) G dX9_end_0 rfl rfl ?_
  refine zv_if_lt (tgt := 15) G dX9_end_1 (by decide) (fun c_1 => ?_) (fun c_1 => ?_)
  · refine zv_iconst (v := 0) G dX9_end_15 (by decide) ?_
    exact zv_zret G hr dX9_end_16 (by decide) (by first | exact z_endN c_1 | exact z_endM c_1 c_12)
  · refine zv_iload_n (j := 1) G dX9_end_4 rfl rfl ?_
    refine zv_aload_n (j := 0) G dX9_end_5 rfl rfl ?_
    refine zg_X9_33 G dX9_end_6 ?_
    refine zg_X9_79 G dX9_end_9 ?_
    refine zv_icmp_le (tgt := 17) G dX9_end_12 (by decide) (fun c_12 => ?_) (fun c_12 => ?_)
    · refine zv_aload_n (j := 0) G dX9_end_17 rfl rfl ?_
      refine zg_X9_33 G dX9_end_18 ?_
      refine zv_iload_n (j := 1) G dX9_end_21 rfl rfl ?_
      refine zp_X9_79 G dX9_end_22 ?_
      refine zv_iconst (v := 1) G dX9_end_25 (by decide) ?_
      exact zv_zret G hr dX9_end_26 (by decide) (z_endY c_1 c_12)
    · refine zv_iconst (v := 0) G dX9_end_15 (by decide) ?_
      exact zv_zret G hr dX9_end_16 (by decide) (by first | exact z_endN c_1 | exact z_endM c_1 c_12)
set_option maxHeartbeats 4000000 in
set_option maxRecDepth 100000 in
theorem zc_X3_add (l : Launch) (E : za_E) (a1 : Int32) (σ0 : za_S) (h0 : 0 ≤ (σ0.1 83 1).toInt ∧ (σ0.1 83 1).toInt ≤ 12) : zMi l E yX3_add cX3_add 2 (Option.some Jvm.ClassFile.FieldType.boolean) 1 21 [za_O 11 83, za_I a1] σ0 (fun r σ' => (r = 0 ∨ r = 1) ∧ zcR σ0 σ' ∧ ((r = 1 ∧ (σ0.1 83 1).toInt < 12 ∧ (σ'.1 83 1).toInt = (σ0.1 83 1).toInt + 1) ∨ (r = 0 ∧ 12 ≤ (σ0.1 83 1).toInt ∧ (σ'.1 83 1).toInt = (σ0.1 83 1).toInt))) := by
  refine zMi_of [(0, za_O 11 83), (1, za_I a1)] (by decide) rfl rfl (Nat.le_of_ble_eq_true rfl) ?_
  intro ho p e s m args below meth c G hr
  refine zv_aload_n (j := 0) G dX3_add_0 rfl rfl ?_
  refine zg_X3_13 G dX3_add_1 ?_
  refine zv_if_lt (tgt := 16) G dX3_add_4 (by decide) (fun c_4 => ?_) (fun c_4 => ?_)
  · exact absurd (z_neg c_4) (by omega)
  · refine zv_aload_n (j := 0) G dX3_add_7 rfl rfl ?_
    refine zg_X3_13 G dX3_add_8 ?_
    refine zv_bipush (v := 12) G dX3_add_11 (by decide) ?_
    refine zv_icmp_lt (tgt := 18) G dX3_add_13 (by decide) (fun c_13 => ?_) (fun c_13 => ?_)
    · refine zv_aload_n (j := 0) G dX3_add_18 rfl rfl ?_
      refine zg_X3_9 G dX3_add_19 ?_
      refine zv_aload_n (j := 0) G dX3_add_22 rfl rfl ?_
      refine zg_X3_13 G dX3_add_23 ?_
      refine zv_iload_n (j := 1) G dX3_add_26 rfl rfl ?_
      refine zv_iast G (by decide) rfl (fun _ => rfl) (z_in h0.1 (z_ltn c_13 (n := 12) rfl)) dX3_add_27 ?_
      refine zv_aload_n (j := 0) G dX3_add_28 rfl rfl ?_
      refine zv_dupO G dX3_add_29 ?_
      refine zg_X3_13 G dX3_add_30 ?_
      refine zv_iconst (v := 1) G dX3_add_33 (by decide) ?_
      refine zv_iadd G dX3_add_34 ?_
      refine zp_X3_13 G dX3_add_35 ?_
      refine zv_iconst (v := 1) G dX3_add_38 (by decide) ?_
      exact zv_zret G hr dX3_add_39 (by decide) ⟨Or.inr rfl, z_rum (z_ltn c_13 (n := 12) rfl) h0.1⟩
    · refine zv_iconst (v := 0) G dX3_add_16 (by decide) ?_
      exact zv_zret G hr dX3_add_17 (by decide) ⟨Or.inl rfl, zcR_r σ0, Or.inr ⟨rfl, z_gek c_13 (n := 12) rfl, rfl⟩⟩
set_option maxHeartbeats 4000000 in
set_option maxRecDepth 100000 in
theorem zc_X9_denies (l : Launch) (E : za_E)  (σ0 : za_S)  : zMi l E yX9_denies cX9_denies 2 (Option.some Jvm.ClassFile.FieldType.int) 1 21 [za_O 0 0] σ0 (fun r σ' => zcR σ0 σ' ∧ r = σ0.1 83 1 ∧ σ'.1 83 1 = 0) := by
  refine zMi_of [(0, za_O 0 0)] (by decide) rfl rfl (Nat.le_of_ble_eq_true rfl) ?_
  intro ho p e s m args below meth c G hr
  refine zv_aload_n (j := 0) G dX9_denies_0 rfl rfl ?_
  refine zg_X9_47 G dX9_denies_1 ?_
  refine zg_X9_392 G dX9_denies_4 ?_
  refine zv_top (fun x_7 e_7 => ?_)
  refine zv_istore_n (lv' := [(1, za_I x_7), (0, za_O 0 0)]) G dX9_denies_7 rfl (by decide) rfl ?_
  refine zv_aload_n (j := 1) G dX9_denies_8 rfl rfl ?_
  refine zg_X9_47 G dX9_denies_9 ?_
  refine zv_iconst (v := 0) G dX9_denies_12 (by decide) ?_
  refine zp_X9_392 G dX9_denies_13 ?_
  refine zv_iload_n (j := 0) G dX9_denies_16 rfl rfl ?_
  exact zv_iret G hr dX9_denies_17 ⟨zcR_si, e_7, za_si_same _ _ _ _⟩
set_option maxHeartbeats 4000000 in
set_option maxRecDepth 100000 in
theorem zc_X9_heard (l : Launch) (E : za_E) (a1 : Int32) (a2 : Int32) (σ0 : za_S) (h0 : 0 ≤ (σ0.1 83 1).toInt ∧ (σ0.1 83 1).toInt ≤ 12) : zMi l E yX9_heard cX9_heard 4 (Option.some Jvm.ClassFile.FieldType.int) 2 42 [za_O 0 0, za_I a1, za_I a2] σ0 (fun r σ' => zcR σ0 σ' ∧ ((((a1.toInt = 3 ∧ (a2.toInt = 0 ∨ a2.toInt = 1)) ∨ ((0 ≤ a1.toInt ∧ a1.toInt ≤ 2) ∧ 0 ≤ a2.toInt ∧ a2.toInt ≤ 9)) ∧ (σ0.1 83 1).toInt < 12 ∧ r.toInt = (σ0.1 83 1).toInt + 1 ∧ (σ'.1 83 1).toInt = (σ0.1 83 1).toInt + 1) ∨ (¬ (((a1.toInt = 3 ∧ (a2.toInt = 0 ∨ a2.toInt = 1)) ∨ ((0 ≤ a1.toInt ∧ a1.toInt ≤ 2) ∧ 0 ≤ a2.toInt ∧ a2.toInt ≤ 9)) ∧ (σ0.1 83 1).toInt < 12) ∧ r = -1 ∧ (σ'.1 83 1).toInt = (σ0.1 83 1).toInt))) := by
  refine zMi_of [(0, za_O 0 0), (1, za_I a1), (2, za_I a2)] (by decide) rfl rfl (Nat.le_of_ble_eq_true rfl) ?_
  intro ho p e s m args below meth c G hr
  refine zv_iload_n (j := 1) G dX9_heard_0 rfl rfl ?_
  refine zv_iconst (v := 3) G dX9_heard_1 (by decide) ?_
  have J_46 : ∀ (s0_46 : Int32) (k_46 : (s0_46 = 1 ∧ ((a1.toInt = 3 ∧ (a2.toInt = 0 ∨ a2.toInt = 1)) ∨ ((0 ≤ a1.toInt ∧ a1.toInt ≤ 2) ∧ 0 ≤ a2.toInt ∧ a2.toInt ≤ 9))) ∨ (s0_46 = 0 ∧ ¬ ((a1.toInt = 3 ∧ (a2.toInt = 0 ∨ a2.toInt = 1)) ∨ ((0 ≤ a1.toInt ∧ a1.toInt ≤ 2) ∧ 0 ≤ a2.toInt ∧ a2.toInt ≤ 9)))), zV p l e (zRm 2 42) s m args below meth c E (za_A E) 4 0 0 (MQ below (va_Qi (fun r σ' => zcR σ0 σ' ∧ ((((a1.toInt = 3 ∧ (a2.toInt = 0 ∨ a2.toInt = 1)) ∨ ((0 ≤ a1.toInt ∧ a1.toInt ≤ 2) ∧ 0 ≤ a2.toInt ∧ a2.toInt ≤ 9)) ∧ (σ0.1 83 1).toInt < 12 ∧ r.toInt = (σ0.1 83 1).toInt + 1 ∧ (σ'.1 83 1).toInt = (σ0.1 83 1).toInt + 1) ∨ (¬ (((a1.toInt = 3 ∧ (a2.toInt = 0 ∨ a2.toInt = 1)) ∨ ((0 ≤ a1.toInt ∧ a1.toInt ≤ 2) ∧ 0 ≤ a2.toInt ∧ a2.toInt ≤ 9)) ∧ (σ0.1 83 1).toInt < 12) ∧ r = -1 ∧ (σ'.1 83 1).toInt = (σ0.1 83 1).toInt))) (zB E) (za_A E)) args s 0 0 (za_A E)) 46 [(0, za_O 0 0), (1, za_I a1), (2, za_I a2)] [za_I s0_46] σ0 := by
    intro s0_46 k_46
    refine zv_istore_n (lv' := [(3, za_I s0_46), (0, za_O 0 0), (1, za_I a1), (2, za_I a2)]) G dX9_heard_46 rfl (by decide) rfl ?_
    refine zv_iload_n (j := 0) G dX9_heard_47 rfl rfl ?_
    refine zv_if_eq (tgt := 67) G dX9_heard_48 (by decide) (fun c_48 => ?_) (fun c_48 => ?_)
    · refine zv_iconst (v := (-1)) G dX9_heard_67 (by decide) ?_
      exact zv_iret G hr dX9_heard_68 (by first | exact z_heardB h_61z h_61b c_64 | exact z_heardA k_46 c_48)
    · refine zv_aload_n (j := 1) G dX9_heard_51 rfl rfl ?_
      refine zg_X9_47 G dX9_heard_52 ?_
      refine zv_iload_n (j := 2) G dX9_heard_55 rfl rfl ?_
      refine zv_bipush (v := 10) G dX9_heard_56 (by decide) ?_
      refine zv_imul G dX9_heard_58 ?_
      refine zv_iload_n (j := 3) G dX9_heard_59 rfl rfl ?_
      refine zv_iadd G dX9_heard_60 ?_
      refine zv_callVNi (as := [za_I ((a1 * 10) + a2)]) G (by decide) rfl rfl (zc_X3_add l E ((a1 * 10) + a2) σ0 h0) zk_X3_add zm_1027 rfl ⟨(Nat.le_of_ble_eq_true rfl), (Nat.le_of_ble_eq_true rfl)⟩ ⟨Nat.zero_le _, Nat.zero_le _⟩ (Nat.le_of_ble_eq_true rfl) dX9_heard_61 (fun r_61 σ h_61 => ?_)
      obtain ⟨h_61, h_61z, h_61b⟩ := h_61
      refine zv_if_ne (tgt := 69) G dX9_heard_64 (by decide) (fun c_64 => ?_) (fun c_64 => ?_)
      · refine zv_aload_n (j := 1) G dX9_heard_69 rfl rfl ?_
        refine zg_X9_47 G dX9_heard_70 ?_
        refine zg_X9_392 G dX9_heard_73 ?_
        exact zv_iret G hr dX9_heard_76 (z_heardC k_46 c_48 h_61z h_61b c_64)
      · refine zv_iconst (v := (-1)) G dX9_heard_67 (by decide) ?_
        exact zv_iret G hr dX9_heard_68 (by first | exact z_heardB h_61z h_61b c_64 | exact z_heardA k_46 c_48)
  refine zv_icmp_ne (tgt := 22) G dX9_heard_2 (by decide) (fun c_2 => ?_) (fun c_2 => ?_)
  · refine zv_iload_n (j := 1) G dX9_heard_22 rfl rfl ?_
    have J_45 : ∀  (k_45 : ¬ ((a1.toInt = 3 ∧ (a2.toInt = 0 ∨ a2.toInt = 1)) ∨ ((0 ≤ a1.toInt ∧ a1.toInt ≤ 2) ∧ 0 ≤ a2.toInt ∧ a2.toInt ≤ 9))), zV p l e (zRm 2 42) s m args below meth c E (za_A E) 4 0 0 (MQ below (va_Qi (fun r σ' => zcR σ0 σ' ∧ ((((a1.toInt = 3 ∧ (a2.toInt = 0 ∨ a2.toInt = 1)) ∨ ((0 ≤ a1.toInt ∧ a1.toInt ≤ 2) ∧ 0 ≤ a2.toInt ∧ a2.toInt ≤ 9)) ∧ (σ0.1 83 1).toInt < 12 ∧ r.toInt = (σ0.1 83 1).toInt + 1 ∧ (σ'.1 83 1).toInt = (σ0.1 83 1).toInt + 1) ∨ (¬ (((a1.toInt = 3 ∧ (a2.toInt = 0 ∨ a2.toInt = 1)) ∨ ((0 ≤ a1.toInt ∧ a1.toInt ≤ 2) ∧ 0 ≤ a2.toInt ∧ a2.toInt ≤ 9)) ∧ (σ0.1 83 1).toInt < 12) ∧ r = -1 ∧ (σ'.1 83 1).toInt = (σ0.1 83 1).toInt))) (zB E) (za_A E)) args s 0 0 (za_A E)) 45 [(0, za_O 0 0), (1, za_I a1), (2, za_I a2)] [] σ0 := by
      intro k_45
      refine zv_iconst (v := 0) G dX9_heard_45 (by decide) ?_
      refine zv_sub [0, 1, 2] (lv' := [(0, za_O 0 0), (1, za_I a1), (2, za_I a2)]) rfl ?_
      exact J_46 (0 : Int32) (by first | exact Or.inl ⟨rfl, k_14⟩ | exact Or.inr ⟨rfl, k_45⟩ | exact Or.inr ⟨rfl, (by have hL := z_lits; have k0 := c_2; rw [z_eq] at k0; have k1 := c_6; rw [z_eq] at k1; have k2 := c_11; rw [z_eq] at k2; omega)⟩ | exact Or.inl ⟨rfl, (by have hL := z_lits; have k0 := c_23; rw [z_lt] at k0; have k1 := c_28; rw [z_lt] at k1; have k2 := c_32; rw [z_lt] at k2; have k3 := c_38; rw [z_lt] at k3; omega)⟩)
    refine zv_if_lt (tgt := 45) G dX9_heard_23 (by decide) (fun c_23 => ?_) (fun c_23 => ?_)
    · refine zv_sub [0, 1, 2] (lv' := [(0, za_O 0 0), (1, za_I a1), (2, za_I a2)]) rfl ?_
      exact J_45 (by first | exact (by have hL := z_lits; have k0 := c_2; rw [z_eq] at k0; have k1 := c_23; rw [z_lt] at k1; omega) | exact (by have hL := z_lits; have k0 := c_2; rw [z_eq] at k0; have k1 := c_23; rw [z_lt] at k1; have k2 := c_28; rw [z_lt] at k2; omega) | exact (by have hL := z_lits; have k0 := c_2; rw [z_eq] at k0; have k1 := c_32; rw [z_lt] at k1; omega) | exact (by have hL := z_lits; have k0 := c_2; rw [z_eq] at k0; have k1 := c_38; rw [z_lt] at k1; omega))
    · refine zv_iload_n (j := 1) G dX9_heard_26 rfl rfl ?_
      refine zv_iconst (v := 2) G dX9_heard_27 (by decide) ?_
      refine zv_icmp_gt (tgt := 45) G dX9_heard_28 (by decide) (fun c_28 => ?_) (fun c_28 => ?_)
      · refine zv_sub [0, 1, 2] (lv' := [(0, za_O 0 0), (1, za_I a1), (2, za_I a2)]) rfl ?_
        exact J_45 (by first | exact (by have hL := z_lits; have k0 := c_2; rw [z_eq] at k0; have k1 := c_23; rw [z_lt] at k1; omega) | exact (by have hL := z_lits; have k0 := c_2; rw [z_eq] at k0; have k1 := c_23; rw [z_lt] at k1; have k2 := c_28; rw [z_lt] at k2; omega) | exact (by have hL := z_lits; have k0 := c_2; rw [z_eq] at k0; have k1 := c_32; rw [z_lt] at k1; omega) | exact (by have hL := z_lits; have k0 := c_2; rw [z_eq] at k0; have k1 := c_38; rw [z_lt] at k1; omega))
      · refine zv_iload_n (j := 2) G dX9_heard_31 rfl rfl ?_
        refine zv_if_lt (tgt := 45) G dX9_heard_32 (by decide) (fun c_32 => ?_) (fun c_32 => ?_)
        · refine zv_sub [0, 1, 2] (lv' := [(0, za_O 0 0), (1, za_I a1), (2, za_I a2)]) rfl ?_
          exact J_45 (by first | exact (by have hL := z_lits; have k0 := c_2; rw [z_eq] at k0; have k1 := c_23; rw [z_lt] at k1; omega) | exact (by have hL := z_lits; have k0 := c_2; rw [z_eq] at k0; have k1 := c_23; rw [z_lt] at k1; have k2 := c_28; rw [z_lt] at k2; omega) | exact (by have hL := z_lits; have k0 := c_2; rw [z_eq] at k0; have k1 := c_32; rw [z_lt] at k1; omega) | exact (by have hL := z_lits; have k0 := c_2; rw [z_eq] at k0; have k1 := c_38; rw [z_lt] at k1; omega))
        · refine zv_iload_n (j := 2) G dX9_heard_35 rfl rfl ?_
          refine zv_bipush (v := 9) G dX9_heard_36 (by decide) ?_
          refine zv_icmp_gt (tgt := 45) G dX9_heard_38 (by decide) (fun c_38 => ?_) (fun c_38 => ?_)
          · refine zv_sub [0, 1, 2] (lv' := [(0, za_O 0 0), (1, za_I a1), (2, za_I a2)]) rfl ?_
            exact J_45 (by first | exact (by have hL := z_lits; have k0 := c_2; rw [z_eq] at k0; have k1 := c_23; rw [z_lt] at k1; omega) | exact (by have hL := z_lits; have k0 := c_2; rw [z_eq] at k0; have k1 := c_23; rw [z_lt] at k1; have k2 := c_28; rw [z_lt] at k2; omega) | exact (by have hL := z_lits; have k0 := c_2; rw [z_eq] at k0; have k1 := c_32; rw [z_lt] at k1; omega) | exact (by have hL := z_lits; have k0 := c_2; rw [z_eq] at k0; have k1 := c_38; rw [z_lt] at k1; omega))
          · refine zv_iconst (v := 1) G dX9_heard_41 (by decide) ?_
            refine zv_goto (tgt := 46) G dX9_heard_42 (by decide) ?_
            refine zv_sub [0, 1, 2] (lv' := [(0, za_O 0 0), (1, za_I a1), (2, za_I a2)]) rfl ?_
            exact J_46 (1 : Int32) (by first | exact Or.inl ⟨rfl, k_14⟩ | exact Or.inr ⟨rfl, k_45⟩ | exact Or.inr ⟨rfl, (by have hL := z_lits; have k0 := c_2; rw [z_eq] at k0; have k1 := c_6; rw [z_eq] at k1; have k2 := c_11; rw [z_eq] at k2; omega)⟩ | exact Or.inl ⟨rfl, (by have hL := z_lits; have k0 := c_23; rw [z_lt] at k0; have k1 := c_28; rw [z_lt] at k1; have k2 := c_32; rw [z_lt] at k2; have k3 := c_38; rw [z_lt] at k3; omega)⟩)
  · refine zv_iload_n (j := 2) G dX9_heard_5 rfl rfl ?_
    have J_14 : ∀  (k_14 : ((a1.toInt = 3 ∧ (a2.toInt = 0 ∨ a2.toInt = 1)) ∨ ((0 ≤ a1.toInt ∧ a1.toInt ≤ 2) ∧ 0 ≤ a2.toInt ∧ a2.toInt ≤ 9))), zV p l e (zRm 2 42) s m args below meth c E (za_A E) 4 0 0 (MQ below (va_Qi (fun r σ' => zcR σ0 σ' ∧ ((((a1.toInt = 3 ∧ (a2.toInt = 0 ∨ a2.toInt = 1)) ∨ ((0 ≤ a1.toInt ∧ a1.toInt ≤ 2) ∧ 0 ≤ a2.toInt ∧ a2.toInt ≤ 9)) ∧ (σ0.1 83 1).toInt < 12 ∧ r.toInt = (σ0.1 83 1).toInt + 1 ∧ (σ'.1 83 1).toInt = (σ0.1 83 1).toInt + 1) ∨ (¬ (((a1.toInt = 3 ∧ (a2.toInt = 0 ∨ a2.toInt = 1)) ∨ ((0 ≤ a1.toInt ∧ a1.toInt ≤ 2) ∧ 0 ≤ a2.toInt ∧ a2.toInt ≤ 9)) ∧ (σ0.1 83 1).toInt < 12) ∧ r = -1 ∧ (σ'.1 83 1).toInt = (σ0.1 83 1).toInt))) (zB E) (za_A E)) args s 0 0 (za_A E)) 14 [(0, za_O 0 0), (1, za_I a1), (2, za_I a2)] [] σ0 := by
      intro k_14
      refine zv_iconst (v := 1) G dX9_heard_14 (by decide) ?_
      refine zv_goto (tgt := 46) G dX9_heard_15 (by decide) ?_
      refine zv_sub [0, 1, 2] (lv' := [(0, za_O 0 0), (1, za_I a1), (2, za_I a2)]) rfl ?_
      exact J_46 (1 : Int32) (by first | exact Or.inl ⟨rfl, k_14⟩ | exact Or.inr ⟨rfl, k_45⟩ | exact Or.inr ⟨rfl, (by have hL := z_lits; have k0 := c_2; rw [z_eq] at k0; have k1 := c_6; rw [z_eq] at k1; have k2 := c_11; rw [z_eq] at k2; omega)⟩ | exact Or.inl ⟨rfl, (by have hL := z_lits; have k0 := c_23; rw [z_lt] at k0; have k1 := c_28; rw [z_lt] at k1; have k2 := c_32; rw [z_lt] at k2; have k3 := c_38; rw [z_lt] at k3; omega)⟩)
    refine zv_if_eq (tgt := 14) G dX9_heard_6 (by decide) (fun c_6 => ?_) (fun c_6 => ?_)
    · refine zv_sub [0, 1, 2] (lv' := [(0, za_O 0 0), (1, za_I a1), (2, za_I a2)]) rfl ?_
      exact J_14 (by first | exact (by have hL := z_lits; have k0 := c_2; rw [z_eq] at k0; have k1 := c_6; rw [z_eq] at k1; omega) | exact (by have hL := z_lits; have k0 := c_2; rw [z_eq] at k0; have k1 := c_11; rw [z_eq] at k1; omega))
    · refine zv_iload_n (j := 2) G dX9_heard_9 rfl rfl ?_
      refine zv_iconst (v := 1) G dX9_heard_10 (by decide) ?_
      refine zv_icmp_ne (tgt := 18) G dX9_heard_11 (by decide) (fun c_11 => ?_) (fun c_11 => ?_)
      · refine zv_iconst (v := 0) G dX9_heard_18 (by decide) ?_
        refine zv_goto (tgt := 46) G dX9_heard_19 (by decide) ?_
        refine zv_sub [0, 1, 2] (lv' := [(0, za_O 0 0), (1, za_I a1), (2, za_I a2)]) rfl ?_
        exact J_46 (0 : Int32) (by first | exact Or.inl ⟨rfl, k_14⟩ | exact Or.inr ⟨rfl, k_45⟩ | exact Or.inr ⟨rfl, (by have hL := z_lits; have k0 := c_2; rw [z_eq] at k0; have k1 := c_6; rw [z_eq] at k1; have k2 := c_11; rw [z_eq] at k2; omega)⟩ | exact Or.inl ⟨rfl, (by have hL := z_lits; have k0 := c_23; rw [z_lt] at k0; have k1 := c_28; rw [z_lt] at k1; have k2 := c_32; rw [z_lt] at k2; have k3 := c_38; rw [z_lt] at k3; omega)⟩)
      · refine zv_sub [0, 1, 2] (lv' := [(0, za_O 0 0), (1, za_I a1), (2, za_I a2)]) rfl ?_
        exact J_14 (by first | exact (by have hL := z_lits; have k0 := c_2; rw [z_eq] at k0; have k1 := c_6; rw [z_eq] at k1; omega) | exact (by have hL := z_lits; have k0 := c_2; rw [z_eq] at k0; have k1 := c_11; rw [z_eq] at k1; omega))
set_option maxHeartbeats 4000000 in
set_option maxRecDepth 100000 in
theorem zc_X9_keep (l : Launch) (E : za_E) (a1 : Int32) (σ0 : za_S)  : zMi l E yX9_keep cX9_keep 2 (Option.some Jvm.ClassFile.FieldType.boolean) 3 102 [za_O 0 0, za_I a1] σ0 (fun r σ' => (r = 0 ∨ r = 1) ∧ ((r = 1 ∧ (0 ≤ a1.toInt ∧ a1.toInt < 2) ∧ zcK σ0 σ' ∧ ∀ j, j < 2 → σ'.1 (69 + 5 * j) 3 = if j = a1.toNatClampNeg then 1 else σ0.1 (69 + 5 * j) 3) ∨ (r = 0 ∧ ¬ (0 ≤ a1.toInt ∧ a1.toInt < 2) ∧ σ' = σ0))) := by
  refine zMi_of [(0, za_O 0 0), (1, za_I a1)] (by decide) rfl rfl (Nat.le_of_ble_eq_true rfl) ?_
  intro ho p e s m args below meth c G hr
  refine zv_iload_n (j := 1) G dX9_keep_0 rfl rfl ?_
  refine zv_callSi (as := [za_I a1]) G (zc_X9_isKeptNumber l E a1 σ0 ) zk_X9_isKeptNumber zm_1012 rfl ⟨(Nat.le_of_ble_eq_true rfl), (Nat.le_of_ble_eq_true rfl)⟩ ⟨Nat.zero_le _, Nat.zero_le _⟩ (Nat.le_of_ble_eq_true rfl) dX9_keep_1 (fun r_1 σ h_1 => ?_)
  obtain ⟨h_1, e9⟩ := h_1
  rw [e9]
  clear e9 σ
  refine zv_if_ne (tgt := 9) G dX9_keep_4 (by decide) (fun c_4 => ?_) (fun c_4 => ?_)
  · refine zv_aload_n (j := 0) G dX9_keep_9 rfl rfl ?_
    refine zg_X9_26 G dX9_keep_10 ?_
    refine zv_iload_n (j := 1) G dX9_keep_13 rfl rfl ?_
    refine zv_aald (kd2 := 1) (b := 69) (r := 5) G (by decide) (by decide) rfl (z_in (h_1.2.1 c_4).1 (h_1.2.1 c_4).2) (by decide +kernel) dX9_keep_14 ?_
    refine zv_aload_n (j := 0) G dX9_keep_15 rfl rfl ?_
    refine zg_X9_10 G dX9_keep_16 ?_
    refine zv_callVNv (as := [za_O 1 1]) G (by decide) rfl rfl (zc_X4_copyOf l E (69 + 5 * a1.toNatClampNeg) 1 σ0 ) zk_X4_copyOf zm_475 rfl ⟨(Nat.le_of_ble_eq_true rfl), (Nat.le_of_ble_eq_true rfl)⟩ ⟨Nat.zero_le _, Nat.zero_le _⟩ (Nat.le_of_ble_eq_true rfl) dX9_keep_19 (fun σ h_19 => ?_)
    refine zv_aload_n (j := 0) G dX9_keep_22 rfl rfl ?_
    refine zg_X9_26 G dX9_keep_23 ?_
    refine zv_iload_n (j := 1) G dX9_keep_26 rfl rfl ?_
    refine zv_aald (kd2 := 1) (b := 69) (r := 5) G (by decide) (by decide) rfl (z_in (h_1.2.1 c_4).1 (h_1.2.1 c_4).2) (by decide +kernel) dX9_keep_27 ?_
    refine zv_iconst (v := 1) G dX9_keep_28 (by decide) ?_
    refine zp_X9_378 G (by decide) (by decide) dX9_keep_29 ?_
    refine zv_iconst (v := 1) G dX9_keep_32 (by decide) ?_
    exact zv_zret G hr dX9_keep_33 (by decide) ⟨Or.inr rfl, Or.inl ⟨rfl, h_1.2.1 c_4, z_keep h_19 (h_1.2.1 c_4).1 (h_1.2.1 c_4).2⟩⟩
  · refine zv_iconst (v := 0) G dX9_keep_7 (by decide) ?_
    exact zv_zret G hr dX9_keep_8 (by decide) ⟨Or.inl rfl, Or.inr ⟨rfl, h_1.2.2 c_4, rfl⟩⟩
set_option maxHeartbeats 4000000 in
set_option maxRecDepth 100000 in
theorem zc_X9_again (l : Launch) (E : za_E) (a1 : Int32) (σ0 : za_S)  : zMi l E yX9_again cX9_again 2 (Option.some Jvm.ClassFile.FieldType.boolean) 3 102 [za_O 0 0, za_I a1] σ0 (fun r σ' => (r = 0 ∨ r = 1) ∧ zc σ0 σ' ∧ (r = 1 ↔ (0 ≤ a1.toInt ∧ a1.toInt < 2) ∧ ¬ σ0.1 (69 + 5 * a1.toNatClampNeg) 3 = 0)) := by
  refine zMi_of [(0, za_O 0 0), (1, za_I a1)] (by decide) rfl rfl (Nat.le_of_ble_eq_true rfl) ?_
  intro ho p e s m args below meth c G hr
  refine zv_gen (R9 := (fun σ => σ = σ0)) rfl (fun σ hz => ?_)
  refine zv_iload_n (j := 1) G dX9_again_0 rfl rfl ?_
  refine zv_callSi (as := [za_I a1]) G (zc_X9_isKeptNumber l E a1 σ ) zk_X9_isKeptNumber zm_1012 rfl ⟨(Nat.le_of_ble_eq_true rfl), (Nat.le_of_ble_eq_true rfl)⟩ ⟨Nat.zero_le _, Nat.zero_le _⟩ (Nat.le_of_ble_eq_true rfl) dX9_again_1 (fun r_1 σ h_1 => ?_)
  obtain ⟨h_1, rfl⟩ := h_1
  refine zv_if_eq (tgt := 19) G dX9_again_4 (by decide) (fun c_4 => ?_) (fun c_4 => ?_)
  · refine zv_iconst (v := 0) G dX9_again_19 (by decide) ?_
    exact zv_zret G hr dX9_again_20 (by decide) (by first | exact ⟨Or.inl rfl, hz ▸ zc_r σ0, z_aga0 c_16⟩ | exact ⟨Or.inl rfl, hz ▸ zc_r σ0, z_agaN (h_1.2.2 c_4)⟩)
  · refine zv_aload_n (j := 0) G dX9_again_7 rfl rfl ?_
    refine zg_X9_26 G dX9_again_8 ?_
    refine zv_iload_n (j := 1) G dX9_again_11 rfl rfl ?_
    refine zv_aald (kd2 := 1) (b := 69) (r := 5) G (by decide) (by decide) rfl (z_in (h_1.2.1 c_4).1 (h_1.2.1 c_4).2) (by decide +kernel) dX9_again_12 ?_
    refine zg_X9_378 G dX9_again_13 ?_
    refine zv_if_ne (tgt := 21) G dX9_again_16 (by decide) (fun c_16 => ?_) (fun c_16 => ?_)
    · rw [hz] at c_16
      have hz : zc σ0 σ := hz ▸ zc_r σ0
      refine zv_aload_n (j := 0) G dX9_again_21 rfl rfl ?_
      refine zg_X9_10 G dX9_again_22 ?_
      refine zv_aload_n (j := 0) G dX9_again_25 rfl rfl ?_
      refine zg_X9_26 G dX9_again_26 ?_
      refine zv_iload_n (j := 1) G dX9_again_29 rfl rfl ?_
      refine zv_aald (kd2 := 1) (b := 69) (r := 5) G (by decide) (by decide) rfl (z_in (h_1.2.1 c_4).1 (h_1.2.1 c_4).2) (by decide +kernel) dX9_again_30 ?_
      refine zv_callVNv (as := [za_O 1 (69 + 5 * a1.toNatClampNeg)]) G (by decide) rfl rfl (zc_X4_copyOf l E 1 (69 + 5 * a1.toNatClampNeg) σ ) zk_X4_copyOf zm_475 rfl ⟨(Nat.le_of_ble_eq_true rfl), (Nat.le_of_ble_eq_true rfl)⟩ ⟨Nat.zero_le _, Nat.zero_le _⟩ (Nat.le_of_ble_eq_true rfl) dX9_again_31 (fun σ h_31 => ?_)
      have hz9 := h_31
      have hz := zc_t hz hz9
      refine zv_aload_n (j := 0) G dX9_again_34 rfl rfl ?_
      refine zg_X9_22 G dX9_again_35 ?_
      refine zv_iconst (v := 0) G dX9_again_38 (by decide) ?_
      refine zp_X9_186 G dX9_again_39 ?_
      refine zv_gen (R9 := zc σ0) (zc_t hz (zc_k4 rfl)) (fun σ hz => ?_)
      refine zv_iconst (v := 1) G dX9_again_42 (by decide) ?_
      exact zv_zret G hr dX9_again_43 (by decide) ⟨Or.inr rfl, hz, z_aga1 (h_1.2.1 c_4) c_16⟩
    · rw [hz] at c_16
      refine zv_iconst (v := 0) G dX9_again_19 (by decide) ?_
      exact zv_zret G hr dX9_again_20 (by decide) (by first | exact ⟨Or.inl rfl, hz ▸ zc_r σ0, z_aga0 c_16⟩ | exact ⟨Or.inl rfl, hz ▸ zc_r σ0, z_agaN (h_1.2.2 c_4)⟩)
