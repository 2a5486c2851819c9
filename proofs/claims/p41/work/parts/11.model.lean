def fb_ct (p : Nat → Bool) : Nat → Nat
  | 0 => 0
  | n + 1 => fb_ct p n + (if p n then 1 else 0)
theorem fb_ct_succ (p : Nat → Bool) (n : Nat) : fb_ct p (n + 1) = fb_ct p n + (if p n then 1 else 0) := rfl
theorem fb_ct_le (p : Nat → Bool) : ∀ n, fb_ct p n ≤ n
  | 0 => Nat.le_refl _
  | n + 1 => by
    have h := fb_ct_le p n
    rw [fb_ct_succ]
    split <;> omega
theorem fb_ct_step (p : Nat → Bool) (m : Nat) : ∀ n, fb_ct p m ≤ fb_ct p (m + n)
  | 0 => Nat.le_refl _
  | n + 1 => by
    have h := fb_ct_step p m n
    show fb_ct p m ≤ fb_ct p (m + n + 1)
    rw [fb_ct_succ]
    omega
theorem fb_ct_mono (p : Nat → Bool) {m n : Nat} (h : m ≤ n) : fb_ct p m ≤ fb_ct p n := by
  have := fb_ct_step p m (n - m)
  rwa [Nat.add_sub_cancel' h] at this
theorem fb_ct_cong {p q : Nat → Bool} : ∀ {n : Nat}, (∀ k, k < n → p k = q k) → fb_ct p n = fb_ct q n
  | 0, _ => rfl
  | n + 1, h => by
    rw [fb_ct_succ, fb_ct_succ, fb_ct_cong (fun k hk => h k (by omega)), h n (by omega)]
theorem fb_ct_out (p : Nat → Bool) (b : Bool) {i n : Nat} (h : n ≤ i) : fb_ct (fun k => if k = i then b else p k) n = fb_ct p n :=
  fb_ct_cong fun k hk => if_neg (by omega)
theorem fb_ct_upd (p : Nat → Bool) (b : Bool) {i : Nat} : ∀ {n : Nat}, i < n → fb_ct (fun k => if k = i then b else p k) n + (if p i then 1 else 0) = fb_ct p n + (if b then 1 else 0)
  | 0, h => absurd h (Nat.not_lt_zero i)
  | n + 1, h => by
    rw [fb_ct_succ, fb_ct_succ]
    rcases Nat.lt_or_ge i n with q | q
    · have := fb_ct_upd p b q
      have e : (if n = i then b else p n) = p n := if_neg (by omega)
      rw [e]
      omega
    · have e : i = n := by omega
      subst e
      rw [fb_ct_out p b (Nat.le_refl _)]
      simp only [if_true]
      omega
theorem fb_ct_sub {p q : Nat → Bool} : ∀ {n : Nat}, (∀ k, k < n → p k = true → q k = true) → fb_ct p n ≤ fb_ct q n
  | 0, _ => Nat.le_refl _
  | n + 1, h => by
    have h1 := fb_ct_sub (n := n) (p := p) (q := q) (fun k hk => h k (by omega))
    have h2 := h n (by omega)
    rw [fb_ct_succ, fb_ct_succ]
    cases hp : p n <;> cases hq : q n <;> simp_all <;> omega
theorem fb_ct_or {p q : Nat → Bool} : ∀ {n : Nat}, (∀ k, k < n → ¬ (p k = true ∧ q k = true)) → fb_ct (fun k => p k || q k) n = fb_ct p n + fb_ct q n
  | 0, _ => rfl
  | n + 1, h => by
    have h1 := fb_ct_or (n := n) (p := p) (q := q) (fun k hk => h k (by omega))
    have h2 := h n (by omega)
    rw [fb_ct_succ, fb_ct_succ, fb_ct_succ, h1]
    cases hp : p n <;> cases hq : q n <;> simp_all <;> omega
theorem fb_ct_not (p : Nat → Bool) : ∀ n, fb_ct p n + fb_ct (fun k => !p k) n = n
  | 0 => rfl
  | n + 1 => by
    have h := fb_ct_not p n
    rw [fb_ct_succ, fb_ct_succ]
    cases p n <;> simp <;> omega
theorem fb_ct_split (p : Nat → Bool) (m : Nat) : ∀ n, fb_ct p (m + n) = fb_ct p m + fb_ct (fun k => p (m + k)) n
  | 0 => rfl
  | n + 1 => by
    have h := fb_ct_split p m n
    show fb_ct p (m + n + 1) = _
    rw [fb_ct_succ, fb_ct_succ, h, Nat.add_assoc]
theorem fb_ct_zero {p : Nat → Bool} : ∀ {n : Nat}, fb_ct p n = 0 ↔ ∀ k, k < n → p k = false
  | 0 => ⟨fun _ k hk => absurd hk (Nat.not_lt_zero k), fun _ => rfl⟩
  | n + 1 => by
    have h := fb_ct_zero (p := p) (n := n)
    rw [fb_ct_succ]
    constructor
    · intro e k hk
      have e1 : fb_ct p n = 0 := by omega
      rcases Nat.lt_or_ge k n with q | q
      · exact h.mp e1 k q
      · have ek : k = n := by omega
        subst ek
        cases hp : p k
        · rfl
        · simp [hp] at e
    · intro a
      rw [h.mpr (fun k hk => a k (by omega)), a n (by omega)]
      rfl
theorem fb_ct_pos {p : Nat → Bool} {n : Nat} : 0 < fb_ct p n ↔ ∃ k, k < n ∧ p k = true := by
  constructor
  · intro h
    refine Classical.byContradiction fun hx => ?_
    have := fb_ct_zero.mpr (fun k hk => by
      cases hp : p k
      · rfl
      · exact absurd ⟨k, hk, hp⟩ hx : ∀ k, k < n → p k = false)
    omega
  · rintro ⟨k, hk, hp⟩
    rcases Nat.eq_zero_or_pos (fb_ct p n) with e | e
    · have := fb_ct_zero.mp e k hk
      rw [this] at hp
      cases hp
    · exact e
theorem fb_ct_all {p : Nat → Bool} {n : Nat} : fb_ct p n = n ↔ ∀ k, k < n → p k = true := by
  have h := fb_ct_not p n
  constructor
  · intro e k hk
    have z : fb_ct (fun k => !p k) n = 0 := by omega
    have := fb_ct_zero.mp z k hk
    cases hp : p k
    · simp [hp] at this
    · rfl
  · intro a
    have z : fb_ct (fun k => !p k) n = 0 := fb_ct_zero.mpr (fun k hk => by simp [a k hk])
    omega
theorem fb_ct_kth {p : Nat → Bool} {k : Nat} : ∀ {n : Nat}, k < fb_ct p n → ∃ i, i < n ∧ p i = true ∧ fb_ct p i = k
  | 0, h => absurd h (Nat.not_lt_zero k)
  | n + 1, h => by
    rcases Nat.lt_or_ge k (fb_ct p n) with q | q
    · obtain ⟨i, h1, h2⟩ := fb_ct_kth q
      exact ⟨i, by omega, h2⟩
    · rw [fb_ct_succ] at h
      cases hp : p n
      · simp [hp] at h; omega
      · simp [hp] at h
        exact ⟨n, by omega, hp, by omega⟩
theorem fb_ct_kth_one {p : Nat → Bool} {i j : Nat} (hi : p i = true) (hj : p j = true) (e : fb_ct p i = fb_ct p j) : i = j := by
  have key : ∀ a b : Nat, a < b → p a = true → fb_ct p a < fb_ct p b := by
    intro a b hab ha
    have h := fb_ct_mono p (show a + 1 ≤ b from hab)
    rw [fb_ct_succ, ha] at h
    simp at h
    omega
  rcases Nat.lt_trichotomy i j with q | q | q
  · have := key i j q hi; omega
  · exact q
  · have := key j i q hj; omega
/-! ===== the reference: a cell of its tables, 0 where nothing is ===== -/
theorem z_div {a b : Int32} (ha : 0 ≤ a.toInt) (hb : 0 < b.toInt) : (a / b).toInt = a.toInt / b.toInt := by
  have h1 := z_rng a
  have h2 := z_rng b
  have h3 : 0 ≤ a.toInt / b.toInt := Int.ediv_nonneg ha (by omega)
  have h4 : a.toInt / b.toInt ≤ a.toInt := Int.ediv_le_self _ ha
  rw [Int32.toInt_div, Int.tdiv_eq_ediv_of_nonneg ha]
  exact Int.bmod_eq_of_le (by omega) (by omega)
theorem z_rem {a b : Int32} (ha : 0 ≤ a.toInt) (hb : 0 < b.toInt) : (a - a / b * b).toInt = a.toInt % b.toInt := by
  have h1 := z_rng a
  have hd := z_div ha hb
  have h5 : a.toInt / b.toInt * b.toInt = a.toInt - a.toInt % b.toInt := by
    have := Int.emod_add_mul_ediv a.toInt b.toInt
    rw [Int.mul_comm] at this
    omega
  have h6 := Int.emod_nonneg a.toInt (show b.toInt ≠ 0 by omega)
  have h7 : a.toInt % b.toInt ≤ a.toInt := by
    have h8 : 0 ≤ a.toInt / b.toInt * b.toInt := Int.mul_nonneg (Int.ediv_nonneg ha (by omega)) (by omega)
    omega
  have hm : (a / b * b).toInt = a.toInt / b.toInt * b.toInt := by rw [z_mul (by rw [hd]; omega) (by rw [hd]; omega), hd]
  rw [z_sub (by rw [hm]; omega) (by rw [hm]; omega), hm]
  omega
def zT (x : Int32) : Prop := 0 < x.toInt
def zBg (x : Int32) : Prop := 0 < x.toInt ∧ (x.toInt - 1) % 2 = 1
def zix (t k d : Int32) : Nat := (1000 * t.toInt + 100 * k.toInt + d.toInt).toNat
def zth (f : Nat → Int32) (t k d : Int32) : Prop := (0 ≤ d.toInt ∧ d.toInt ≤ 99) ∧ zT (f (zix t k d))
def zbg (f : Nat → Int32) (t k d : Int32) : Prop := (0 ≤ d.toInt ∧ d.toInt ≤ 99) ∧ zBg (f (zix t k d))
def zvl (x : Int32) : Int32 := (x - 1) / 2 / 11
def zrf (x : Int32) : Int32 := (x - 1) / 2 - (x - 1) / 2 / 11 * 11
def zly (v f : Int32) (b : Int32) : Int32 := 1 + 2 * (11 * v + f) + b
theorem z_onT {r t k d : Int32} (ht : 0 ≤ t.toInt ∧ t.toInt ≤ 1) (hk : 0 ≤ k.toInt ∧ k.toInt ≤ 9) (hd : 0 ≤ d.toInt ∧ d.toInt ≤ 99) (e : r = 1000 * t + 100 * k + d) : r.toInt = 1000 * t.toInt + 100 * k.toInt + d.toInt := by
  have h1 : (1000 : Int32).toInt = 1000 := by decide
  have h2 : (100 : Int32).toInt = 100 := by decide
  have h3 : (1000 * t).toInt = 1000 * t.toInt := by rw [z_mul (by rw [h1]; omega) (by rw [h1]; omega), h1]
  have h4 : (100 * k).toInt = 100 * k.toInt := by rw [z_mul (by rw [h2]; omega) (by rw [h2]; omega), h2]
  have h5 : (1000 * t + 100 * k).toInt = 1000 * t.toInt + 100 * k.toInt := by rw [z_add (by rw [h3, h4]; omega) (by rw [h3, h4]; omega), h3, h4]
  rw [e, z_add (by rw [h5]; omega) (by rw [h5]; omega), h5]
theorem z_onI {r t k d : Int32} (ht : 0 ≤ t.toInt ∧ t.toInt ≤ 1) (hk : 0 ≤ k.toInt ∧ k.toInt ≤ 9) (hd : 0 ≤ d.toInt ∧ d.toInt ≤ 99) (e : r = 1000 * t + 100 * k + d) : vp_in r 2001 ∧ r.toNatClampNeg = zix t k d := by
  have h := z_onT ht hk hd e
  refine ⟨z_in (by omega) (by omega), ?_⟩
  show r.toInt.toNat = _
  rw [h]
  rfl
theorem z_gt0 {x : Int32} (c : ¬ x ≤ 0) : 0 < x.toInt := by
  rw [z_le] at c
  have h0 : (0 : Int32).toInt = 0 := by decide
  omega
theorem z_le0 {x : Int32} (c : x ≤ 0) : ¬ 0 < x.toInt := by
  rw [z_le] at c
  have h0 : (0 : Int32).toInt = 0 := by decide
  omega
theorem z_par {x : Int32} (h : 0 < x.toInt) : ((x - 1) - (x - 1) / 2 * 2 = 1 ↔ (x.toInt - 1) % 2 = 1) := by
  have hr := z_rng x
  have h1 : (x - 1).toInt = x.toInt - 1 := by rw [z_sub (by rw [z_one]; omega) (by rw [z_one]; omega), z_one]
  have h2 : (2 : Int32).toInt = 2 := by decide
  rw [z_eq, z_rem (by omega) (by rw [h2]; omega), h1, h2, z_one]
theorem z_lcl {x y : Int64} : lg_cmp x y < 0 ↔ x.toInt < y.toInt := (lg_cmp_lt x y).trans Int64.lt_iff_toInt_lt
theorem z_lcg {x y : Int64} : 0 < lg_cmp x y ↔ y.toInt < x.toInt := (lg_cmp_gt x y).trans Int64.lt_iff_toInt_lt
theorem z_w (a : Int32) : a.toInt64.toInt = a.toInt := Int32.toInt_toInt64 a
theorem z_lL : (0 : Int64).toInt = 0 ∧ (1 : Int64).toInt = 1 ∧ (2 : Int64).toInt = 2 ∧ (3 : Int64).toInt = 3 ∧ (4 : Int64).toInt = 4 ∧ (9 : Int64).toInt = 9 ∧ (10 : Int64).toInt = 10 ∧ (40 : Int64).toInt = 40 ∧ (99 : Int64).toInt = 99 ∧ (-99 : Int64).toInt = -99 ∧ (100 : Int64).toInt = 100 ∧ (48 : Int64).toInt = 48 ∧ (57 : Int64).toInt = 57 := by decide
theorem z_rf {x : Int32} (h : 0 < x.toInt) : 0 ≤ (zrf x).toInt ∧ (zrf x).toInt ≤ 10 := by
  have hr := z_rng x
  have h1 : (x - 1).toInt = x.toInt - 1 := by rw [z_sub (by rw [z_one]; omega) (by rw [z_one]; omega), z_one]
  have h2 : (2 : Int32).toInt = 2 := by decide
  have h11 : (11 : Int32).toInt = 11 := by decide
  have h3 : ((x - 1) / 2).toInt = (x.toInt - 1) / 2 := by rw [z_div (by omega) (by rw [h2]; omega), h1, h2]
  unfold zrf
  rw [z_rem (by omega) (by rw [h11]; omega), h11]
  omega
theorem z_rf9 {x r : Int32} (h : 0 < x.toInt) (e : r = zrf x) (n : ¬ r = 10) : 0 ≤ r.toInt ∧ r.toInt ≤ 9 := by
  have h1 := z_rf h
  rw [← e] at h1
  have h10 : (10 : Int32).toInt = 10 := by decide
  rw [z_eq, h10] at n
  omega
theorem z_vl {x : Int32} (h : 0 < x.toInt) (h9 : x.toInt ≤ 2200) : 0 ≤ (zvl x).toInt ∧ (zvl x).toInt ≤ 99 := by
  have hr := z_rng x
  have h1 : (x - 1).toInt = x.toInt - 1 := by rw [z_sub (by rw [z_one]; omega) (by rw [z_one]; omega), z_one]
  have h2 : (2 : Int32).toInt = 2 := by decide
  have h11 : (11 : Int32).toInt = 11 := by decide
  have h3 : ((x - 1) / 2).toInt = (x.toInt - 1) / 2 := by rw [z_div (by omega) (by rw [h2]; omega), h1, h2]
  unfold zvl
  rw [z_div (by omega) (by rw [h11]; omega), h3, h11]
  omega
theorem z_lyT {v f b : Int32} (hv : 0 ≤ v.toInt ∧ v.toInt ≤ 99) (hf : 0 ≤ f.toInt ∧ f.toInt ≤ 10) (hb : b = 0 ∨ b = 1) : (zly v f b).toInt = 1 + 2 * (11 * v.toInt + f.toInt) + b.toInt := by
  have h2 : (2 : Int32).toInt = 2 := by decide
  have h11 : (11 : Int32).toInt = 11 := by decide
  have hb1 : 0 ≤ b.toInt ∧ b.toInt ≤ 1 := by rcases hb with rfl | rfl <;> decide
  have a1 : (11 * v).toInt = 11 * v.toInt := by rw [z_mul (by rw [h11]; omega) (by rw [h11]; omega), h11]
  have a2 : (11 * v + f).toInt = 11 * v.toInt + f.toInt := by rw [z_add (by rw [a1]; omega) (by rw [a1]; omega), a1]
  have a3 : (2 * (11 * v + f)).toInt = 2 * (11 * v.toInt + f.toInt) := by rw [z_mul (by rw [h2, a2]; omega) (by rw [h2, a2]; omega), h2, a2]
  have a4 : (1 + 2 * (11 * v + f)).toInt = 1 + 2 * (11 * v.toInt + f.toInt) := by rw [z_add (by rw [z_one, a3]; omega) (by rw [z_one, a3]; omega), z_one, a3]
  unfold zly
  rw [z_add (by rw [a4]; omega) (by rw [a4]; omega), a4]
theorem z_lyB {v f b : Int32} (hv : 0 ≤ v.toInt ∧ v.toInt ≤ 99) (hf : 0 ≤ f.toInt ∧ f.toInt ≤ 10) (hb : b = 0 ∨ b = 1) : (0 < (zly v f b).toInt ∧ (zly v f b).toInt ≤ 2200) ∧ (zBg (zly v f b) ↔ b = 1) := by
  have h := z_lyT hv hf hb
  rcases hb with rfl | rfl
  · have h0 : (0 : Int32).toInt = 0 := by decide
    refine ⟨by omega, fun q => ?_, fun q => absurd q (by decide)⟩
    have := q.2
    omega
  · refine ⟨by rw [z_one] at h; omega, fun _ => rfl, fun _ => ⟨by rw [z_one] at h; omega, by rw [z_one] at h; omega⟩⟩
def zGI (f : Nat → Int32) : Prop := ∀ i, i < 2000 → zT (f i) → zBg (f i) ∨ (¬ i % 100 = 0 ∧ zT (f (i - 1)))
def zGB (f : Nat → Int32) : Prop := ∀ i, i < 2000 → 0 ≤ (f i).toInt ∧ (f i).toInt ≤ 2200
def zbB (x : Int32) : Bool := decide (0 < x.toInt ∧ (x.toInt - 1) % 2 = 1)
theorem zbB_iff {x : Int32} : zbB x = true ↔ zBg x := decide_eq_true_iff
def zp (f : Nat → Int32) (t : Nat) : Nat → Bool := fun j => zbB (f (1000 * t + j))
def zcn (f : Nat → Int32) (t : Nat) : Nat := fb_ct (zp f t) 1000
def zGC (f : Nat → Int32) : Prop := zcn f 0 ≤ 20 ∧ zcn f 1 ≤ 20
def zG (f : Nat → Int32) : Prop := zGB f ∧ zGI f ∧ zGC f
theorem zix_lt {t k d : Int32} (ht : 0 ≤ t.toInt ∧ t.toInt ≤ 1) (hk : 0 ≤ k.toInt ∧ k.toInt ≤ 9) (hd : 0 ≤ d.toInt ∧ d.toInt ≤ 99) : zix t k d < 2000 ∧ ((zix t k d : Nat) : Int) = 1000 * t.toInt + 100 * k.toInt + d.toInt := by
  unfold zix
  omega
theorem z_from {f : Nat → Int32} {t k y x : Int32} (ht : 0 ≤ t.toInt ∧ t.toInt ≤ 1) (hk : 0 ≤ k.toInt ∧ k.toInt ≤ 9) (h : zth f t k y) (nb : zbg f t k y → False) (G9 : zGI f) (e : x = y + (-1)) : zth f t k x ∧ x.toInt = y.toInt - 1 ∧ 0 < y.toInt := by
  have h1 := zix_lt ht hk h.1
  have hm : (-1 : Int32).toInt = -1 := by decide
  rcases G9 _ h1.1 h.2 with h2 | ⟨h2, h3⟩
  · exact absurd ⟨h.1, h2⟩ nb
  · have hy := h.1
    have hp : 0 < y.toInt := by omega
    have hx : x.toInt = y.toInt - 1 := by rw [e, z_add (by rw [hm]; omega) (by rw [hm]; omega), hm]; omega
    have hx2 : 0 ≤ x.toInt ∧ x.toInt ≤ 99 := by omega
    have h4 := zix_lt ht hk hx2
    have h5 : zix t k x = zix t k y - 1 := by omega
    exact ⟨⟨hx2, by rw [h5]; exact h3⟩, hx, hp⟩
theorem z_inc9 {x y : Int32} (h1 : x.toInt < 1000000) (e : y = x + 1) : y.toInt = x.toInt + 1 := by
  have hr := z_rng x
  rw [e, z_add (by rw [z_one]; omega) (by rw [z_one]; omega), z_one]
theorem z_cstep {f : Nat → Int32} {t k d y x a b : Int32} {n : Nat} (ht : 0 ≤ t.toInt ∧ t.toInt ≤ 1) (hk : 0 ≤ k.toInt ∧ k.toInt ≤ 9) (hd : 0 ≤ d.toInt ∧ d.toInt ≤ 99) (ha : (a = 0 ∨ a = 1) ∧ (¬ a = 0 ↔ zbg f t k d)) (hb : (b = 0 ∨ b = 1) ∧ b = if a = 0 then 0 else 1) (e : x = y + b) (m : y.toInt = (fb_ct (zp f t.toInt.toNat) n : Nat)) (hn : (n : Int) = 100 * k.toInt + d.toInt) : x.toInt = (fb_ct (zp f t.toInt.toNat) (n + 1) : Nat) := by
  have h1 := fb_ct_le (zp f t.toInt.toNat) n
  have h2 := zix_lt ht hk hd
  have h3 : zix t k d = 1000 * t.toInt.toNat + n := by omega
  have hb1 : 0 ≤ b.toInt ∧ b.toInt ≤ 1 := by rcases hb.1 with q | q <;> rw [q] <;> decide
  have hx : x.toInt = y.toInt + b.toInt := by rw [e, z_add (by omega) (by omega)]
  rw [fb_ct_succ, hx, m]
  have h4 : zp f t.toInt.toNat n = true ↔ zBg (f (zix t k d)) := by
    rw [h3]
    exact zbB_iff
  by_cases c0 : a = 0
  · rw [if_pos c0] at hb
    have h5 : ¬ zp f t.toInt.toNat n = true := fun q => ha.2.mpr ⟨hd, h4.mp q⟩ c0
    rw [if_neg h5, hb.2]
    have h0 : (0 : Int32).toInt = 0 := by decide
    omega
  · rw [if_neg c0] at hb
    have h5 : zp f t.toInt.toNat n = true := h4.mpr (ha.2.mp c0).2
    rw [if_pos h5, hb.2, z_one]
    omega
/-- a row of a table laid over another -/
def zcp (σ : za_S) (q w n : Nat) : za_S := za_sr σ w (fun i => if i < n then σ.1 q i else σ.1 w i)
theorem zcp_0 (σ : za_S) (q w : Nat) : zcp σ q w 0 = σ := by
  unfold zcp za_sr
  refine Prod.ext (funext fun w' => ?_) rfl
  show (if w' = w then _ else σ.1 w') = σ.1 w'
  split
  · rename_i h
    rw [h]
    funext i
    exact if_neg (Nat.not_lt_zero i)
  · rfl
theorem zcp_q {σ : za_S} {q w n i : Nat} (h : n ≤ i) : (zcp σ q w n).1 q i = σ.1 q i := by
  show (if q = w then _ else σ.1 q) i = σ.1 q i
  split
  · rename_i e
    show (if i < n then σ.1 q i else σ.1 w i) = _
    rw [if_neg (by omega), e]
  · rfl
theorem zcp_s {σ : za_S} {q w n : Nat} : za_si (zcp σ q w n) w n ((zcp σ q w n).1 q n) = zcp σ q w (n + 1) := by
  rw [zcp_q (Nat.le_refl n)]
  refine Prod.ext (funext fun w' => ?_) rfl
  show (if w' = w then upd ((zcp σ q w n).1 w) n (σ.1 q n) else (zcp σ q w n).1 w') = (if w' = w then _ else σ.1 w')
  by_cases e : w' = w
  · rw [if_pos e, if_pos e]
    funext i
    show (if i = n then σ.1 q n else (zcp σ q w n).1 w i) = if i < n + 1 then σ.1 q i else σ.1 w i
    have h2 : (zcp σ q w n).1 w i = if i < n then σ.1 q i else σ.1 w i := by
      show (if w = w then _ else σ.1 w) i = _
      rw [if_pos rfl]
    rw [h2]
    by_cases h3 : i = n
    · rw [if_pos h3, if_pos (by omega), h3]
    · rw [if_neg h3]
      by_cases h4 : i < n
      · rw [if_pos h4, if_pos (by omega)]
      · rw [if_neg h4, if_neg (by omega)]
  · rw [if_neg e, if_neg e]
    show (if w' = w then _ else σ.1 w') = _
    rw [if_neg e]
theorem zcp_w {σ : za_S} {q w n i : Nat} (h : i < n) : (zcp σ q w n).1 w i = σ.1 q i := by
  show (if w = w then _ else σ.1 w) i = _
  rw [if_pos rfl]
  exact if_pos h
theorem zcp_o {σ : za_S} {q w n w' : Nat} (h : w' ≠ w) : (zcp σ q w n).1 w' = σ.1 w' := if_neg h
theorem z_2001 {y : Int32} (c : (2001 : Int32) ≤ y) (h : y.toInt ≤ 2001) : y.toInt.toNat = 2001 := by
  rw [z_le] at c
  have h9 : (2001 : Int32).toInt = 2001 := by decide
  omega
theorem z_row {p : Nat → Bool} {y k x d : Int32} (m : y.toInt = (fb_ct p (100 * k.toInt.toNat + d.toInt.toNat) : Nat)) (h : d.toInt ≤ 100) (c : (100 : Int32) ≤ d) (e : x.toInt = k.toInt + 1) (i : 0 ≤ k.toInt) : y.toInt = (fb_ct p (100 * x.toInt.toNat) : Nat) := by
  rw [z_le] at c
  have h9 : (100 : Int32).toInt = 100 := by decide
  rw [m]
  congr 2
  omega
theorem z_dstep {p : Nat → Bool} {y k d : Int32} (m : y.toInt = (fb_ct p (100 * k.toInt.toNat + d.toInt.toNat + 1) : Nat)) (i : 0 ≤ d.toInt) : y.toInt = (fb_ct p (100 * k.toInt.toNat + (d.toInt + 1).toNat) : Nat) := by
  rw [m]
  congr 2
  omega
theorem z_end {f : Nat → Int32} {t y k : Int32} (m : y.toInt = (fb_ct (zp f t.toInt.toNat) (100 * k.toInt.toNat) : Nat)) (h : k.toInt ≤ 10) (c : (10 : Int32) ≤ k) : y.toInt = (zcn f t.toInt.toNat : Nat) := by
  rw [z_le] at c
  have h9 : (10 : Int32).toInt = 10 := by decide
  rw [m]
  unfold zcn
  congr 2
  omega
/-- the i-th row of a table begins at a day of a key -/
def zsk (f : Nat → Int32) (t i k d : Int32) : Prop := (0 ≤ k.toInt ∧ k.toInt ≤ 9) ∧ zbg f t k d ∧ i.toInt = (fb_ct (zp f t.toInt.toNat) (100 * k.toInt.toNat + d.toInt.toNat) : Nat)
theorem zsk_lt {f : Nat → Int32} {t i k d : Int32} (ht : 0 ≤ t.toInt ∧ t.toInt ≤ 1) (h : zsk f t i k d) : i.toInt < (zcn f t.toInt.toNat : Nat) := by
  obtain ⟨hk, hb, hi⟩ := h
  have h2 := zix_lt ht hk hb.1
  have hd := hb.1
  have h3 : zix t k d = 1000 * t.toInt.toNat + (100 * k.toInt.toNat + d.toInt.toNat) := by omega
  have h4 : zp f t.toInt.toNat (100 * k.toInt.toNat + d.toInt.toNat) = true := by
    show zbB (f _) = true
    rw [← h3]
    exact zbB_iff.mpr hb.2
  have h5 := fb_ct_mono (zp f t.toInt.toNat) (m := 100 * k.toInt.toNat + d.toInt.toNat + 1) (n := 1000) (by omega)
  rw [fb_ct_succ, if_pos h4] at h5
  unfold zcn
  omega
/-- left, of i, once n places are behind -/
def zlf (f : Nat → Int32) (t i y : Int32) (n : Nat) : Prop := 0 ≤ y.toInt ∧ y.toInt = i.toInt - (fb_ct (zp f t.toInt.toNat) n : Nat)
theorem z_lf1 {f : Nat → Int32} {t i y k d : Int32} (ht : 0 ≤ t.toInt ∧ t.toInt ≤ 1) (hk : 0 ≤ k.toInt ∧ k.toInt ≤ 9) (hd : 0 ≤ d.toInt ∧ d.toInt ≤ 99) (h : zlf f t i y (100 * k.toInt.toNat + d.toInt.toNat)) (nb : zbg f t k d → False) : zlf f t i y (100 * k.toInt.toNat + (d.toInt + 1).toNat) := by
  have h2 := zix_lt ht hk hd
  have h3 : zix t k d = 1000 * t.toInt.toNat + (100 * k.toInt.toNat + d.toInt.toNat) := by omega
  have h4 : ¬ zp f t.toInt.toNat (100 * k.toInt.toNat + d.toInt.toNat) = true := fun q => nb ⟨hd, by rw [h3]; exact zbB_iff.mp q⟩
  have h5 : 100 * k.toInt.toNat + (d.toInt + 1).toNat = 100 * k.toInt.toNat + d.toInt.toNat + 1 := by omega
  unfold zlf at h ⊢
  rw [h5, fb_ct_succ, if_neg h4]
  exact h
theorem z_lf2 {f : Nat → Int32} {t i y x k d : Int32} (ht : 0 ≤ t.toInt ∧ t.toInt ≤ 1) (hk : 0 ≤ k.toInt ∧ k.toInt ≤ 9) (h : zlf f t i y (100 * k.toInt.toNat + d.toInt.toNat)) (b : zbg f t k d) (c : ¬ y = 0) (e : x = y + (-1)) : zlf f t i x (100 * k.toInt.toNat + (d.toInt + 1).toNat) := by
  have hd := b.1
  have h2 := zix_lt ht hk hd
  have h3 : zix t k d = 1000 * t.toInt.toNat + (100 * k.toInt.toNat + d.toInt.toNat) := by omega
  have h4 : zp f t.toInt.toNat (100 * k.toInt.toNat + d.toInt.toNat) = true := by
    show zbB (f _) = true
    rw [← h3]
    exact zbB_iff.mpr b.2
  have h5 : 100 * k.toInt.toNat + (d.toInt + 1).toNat = 100 * k.toInt.toNat + d.toInt.toNat + 1 := by omega
  have hm : (-1 : Int32).toInt = -1 := by decide
  have h0 : (0 : Int32).toInt = 0 := by decide
  have hr := z_rng y
  have h8 := h.1
  rw [z_eq, h0] at c
  have hx : x.toInt = y.toInt - 1 := by rw [e, z_add (by rw [hm]; omega) (by rw [hm]; omega), hm]; omega
  unfold zlf at h ⊢
  rw [h5, fb_ct_succ, if_pos h4, hx]
  omega
theorem z_lf3 {f : Nat → Int32} {t i y k x d : Int32} (h : zlf f t i y (100 * k.toInt.toNat + d.toInt.toNat)) (hd : d.toInt ≤ 100) (c : (100 : Int32) ≤ d) (e : x.toInt = k.toInt + 1) (i9 : 0 ≤ k.toInt) : zlf f t i y (100 * x.toInt.toNat) := by
  rw [z_le] at c
  have h9 : (100 : Int32).toInt = 100 := by decide
  have h5 : 100 * x.toInt.toNat = 100 * k.toInt.toNat + d.toInt.toNat := by omega
  rw [h5]
  exact h
theorem z_lf4 {f : Nat → Int32} {t i y k : Int32} (h : zlf f t i y (100 * k.toInt.toNat)) (hk : k.toInt ≤ 10) (c : (10 : Int32) ≤ k) : ¬ i.toInt < (zcn f t.toInt.toNat : Nat) := by
  rw [z_le] at c
  have h9 : (10 : Int32).toInt = 10 := by decide
  have h5 : 100 * k.toInt.toNat = 1000 := by omega
  rw [h5] at h
  unfold zcn
  have h6 := h.1
  have h7 := h.2
  omega
theorem z_lf5 {f : Nat → Int32} {t i y k d : Int32} (hk : 0 ≤ k.toInt ∧ k.toInt ≤ 9) (h : zlf f t i y (100 * k.toInt.toNat + d.toInt.toNat)) (b : zbg f t k d) (c : y = 0) : zsk f t i k d := by
  have h0 : (0 : Int32).toInt = 0 := by decide
  rw [z_eq, h0] at c
  have h7 := h.2
  exact ⟨hk, b, by omega⟩
theorem z_set {f : Nat → Int32} {r a : Int32} (h1 : r.toInt = (zcn f (0 : Int32).toInt.toNat : Nat)) (c1 : ¬ (20 : Int32) < r) (h2 : a.toInt = (zcn f (1 : Int32).toInt.toNat : Nat)) (c2 : a ≤ 20) : zcn f 0 ≤ 20 ∧ zcn f 1 ≤ 20 := by
  have h20 : (20 : Int32).toInt = 20 := by decide
  have e0 : (0 : Int32).toInt.toNat = 0 := by decide
  have e1 : (1 : Int32).toInt.toNat = 1 := by decide
  rw [z_lt, h1, h20, e0] at c1
  rw [z_le, h2, h20, e1] at c2
  omega
theorem z_clt {x y : Int32} {a b : Int} (c : x < y) (hx : x.toInt = a) (hy : y.toInt = b) : a < b := by
  rw [z_lt] at c
  omega
theorem z_cnlt {x y : Int32} {a b : Int} (c : ¬ x < y) (hx : x.toInt = a) (hy : y.toInt = b) : b ≤ a := by
  rw [z_lt] at c
  omega
theorem z_cle {x y : Int32} {a b : Int} (c : x ≤ y) (hx : x.toInt = a) (hy : y.toInt = b) : a ≤ b := by
  rw [z_le] at c
  omega
theorem z_cnle {x y : Int32} {a b : Int} (c : ¬ x ≤ y) (hx : x.toInt = a) (hy : y.toInt = b) : b < a := by
  rw [z_le] at c
  omega
theorem z_ceq {x y : Int32} {a b : Int} (c : x = y) (hx : x.toInt = a) (hy : y.toInt = b) : a = b := by
  rw [z_eq] at c
  omega
theorem z_cne {x y : Int32} {a b : Int} (c : ¬ x = y) (hx : x.toInt = a) (hy : y.toInt = b) : ¬ a = b := by
  rw [z_eq] at c
  omega
theorem z_flagT {b r : Int32} {a : Int} (h : r = if b = 0 then 0 else 1) (e : b.toInt = a) : (a = 0 ∧ r.toInt = 0) ∨ (¬ a = 0 ∧ r.toInt = 1) := by
  have h0 : (0 : Int32).toInt = 0 := by decide
  by_cases c : b = 0
  · rw [if_pos c] at h
    rw [z_eq, h0] at c
    exact Or.inl ⟨by omega, by rw [h]; exact h0⟩
  · rw [if_neg c] at h
    rw [z_eq, h0] at c
    exact Or.inr ⟨by omega, by rw [h]; exact z_one⟩
theorem z_addf {z x y : Int32} {a b : Int} (e : z = x + y) (hx : x.toInt = a) (hy : y.toInt = b) (h1 : -2147483648 ≤ a + b) (h2 : a + b < 2147483648) : z.toInt = a + b := by
  rw [e, z_add (by omega) (by omega), hx, hy]
theorem z_subf {z x y : Int32} {a b : Int} (e : z = x - y) (hx : x.toInt = a) (hy : y.toInt = b) (h1 : -2147483648 ≤ a - b) (h2 : a - b < 2147483648) : z.toInt = a - b := by
  rw [e, z_sub (by omega) (by omega), hx, hy]
theorem z_dec9 {x y : Int32} (h1 : -1000000 < x.toInt) (e : y = x + (-1)) : y.toInt = x.toInt - 1 := by
  have hr := z_rng x
  have hm : (-1 : Int32).toInt = -1 := by decide
  rw [e, z_add (by rw [hm]; omega) (by rw [hm]; omega), hm]
  omega
set_option maxHeartbeats 4000000 in
set_option maxRecDepth 100000 in
theorem zc_X10_in (l : Launch) (E : za_E) (v : Int64) (lo : Int64) (hi : Int64) (σ : za_S)  : zMi l E yX10_in cX10_in 6 (Option.some Jvm.ClassFile.FieldType.boolean) 1 21 [za_L v, za_L lo, za_L hi] σ (fun r σ' => ((r = 0 ∨ r = 1) ∧ (¬ r = 0 ↔ lo.toInt ≤ v.toInt ∧ v.toInt ≤ hi.toInt)) ∧ σ' = σ) := by
  refine zMi_of [(0, za_L v), (2, za_L lo), (4, za_L hi)] (by decide) rfl rfl (Nat.le_of_ble_eq_true rfl) ?_
  intro ho p e s m args below meth c G hr
  refine zv_lload_n (j := 0) G dX10_in_0 rfl rfl ?_
  refine zv_lload_n (j := 1) G dX10_in_1 rfl rfl ?_
  refine zv_lcmp G dX10_in_2 ?_
  refine zv_if_lt (tgt := 17) G dX10_in_3 (by decide) (fun c_3 => ?_) (fun c_3 => ?_)
  · refine zv_iconst (v := 0) G dX10_in_17 (by decide) ?_
    exact zv_zret G hr dX10_in_18 (by decide) ⟨⟨Or.inl rfl, fun h => absurd rfl h, fun h => False.elim (by first | (rw [z_lcl] at c_3; omega) | (rw [z_lcg] at c_10; omega))⟩, rfl⟩
  · refine zv_lload_n (j := 0) G dX10_in_6 rfl rfl ?_
    refine zv_lload (j := 2) G dX10_in_7 rfl ?_
    refine zv_lcmp G dX10_in_9 ?_
    refine zv_if_gt (tgt := 17) G dX10_in_10 (by decide) (fun c_10 => ?_) (fun c_10 => ?_)
    · refine zv_iconst (v := 0) G dX10_in_17 (by decide) ?_
      exact zv_zret G hr dX10_in_18 (by decide) ⟨⟨Or.inl rfl, fun h => absurd rfl h, fun h => False.elim (by first | (rw [z_lcl] at c_3; omega) | (rw [z_lcg] at c_10; omega))⟩, rfl⟩
    · refine zv_iconst (v := 1) G dX10_in_13 (by decide) ?_
      refine zv_goto (tgt := 18) G dX10_in_14 (by decide) ?_
      exact zv_zret G hr dX10_in_18 (by decide) ⟨⟨Or.inr rfl, fun _ => by rw [z_lcl] at c_3; rw [z_lcg] at c_10; omega, fun _ => by decide⟩, rfl⟩
set_option maxHeartbeats 4000000 in
set_option maxRecDepth 100000 in
theorem zc_X10_has (l : Launch) (E : za_E) (a1 : Int32) (a2 : Int32) (σ : za_S)  : zMi l E yX10_has cX10_has 2 (Option.some Jvm.ClassFile.FieldType.boolean) 1 21 [za_I a1, za_I a2] σ (fun r σ' => (r = 0 ∨ r = 1) ∧ σ' = σ) := by
  refine zMi_of [(0, za_I a1), (1, za_I a2)] (by decide) rfl rfl (Nat.le_of_ble_eq_true rfl) ?_
  intro ho p e s m args below meth c G hr
  refine zv_iload_n (j := 0) G dX10_has_0 rfl rfl ?_
  refine zv_iload_n (j := 1) G dX10_has_1 rfl rfl ?_
  refine zv_ishr G dX10_has_2 ?_
  refine zv_iconst (v := 1) G dX10_has_3 (by decide) ?_
  refine zv_iand G dX10_has_4 ?_
  refine zv_iconst (v := 1) G dX10_has_5 (by decide) ?_
  refine zv_icmp_ne (tgt := 13) G dX10_has_6 (by decide) (fun c_6 => ?_) (fun c_6 => ?_)
  · refine zv_iconst (v := 0) G dX10_has_13 (by decide) ?_
    exact zv_zret G hr dX10_has_14 (by decide) ⟨(Or.inl rfl), rfl⟩
  · refine zv_iconst (v := 1) G dX10_has_9 (by decide) ?_
    refine zv_goto (tgt := 14) G dX10_has_10 (by decide) ?_
    exact zv_zret G hr dX10_has_14 (by decide) ⟨(Or.inr rfl), rfl⟩
set_option maxHeartbeats 4000000 in
set_option maxRecDepth 100000 in
theorem zc_X10_flag (l : Launch) (E : za_E) (a1 : Int32) (σ : za_S)  : zMi l E yX10_flag cX10_flag 1 (Option.some Jvm.ClassFile.FieldType.int) 1 21 [za_I a1] σ (fun r σ' => ((r = 0 ∨ r = 1) ∧ r = if a1 = 0 then 0 else 1) ∧ σ' = σ) := by
  refine zMi_of [(0, za_I a1)] (by decide) rfl rfl (Nat.le_of_ble_eq_true rfl) ?_
  intro ho p e s m args below meth c G hr
  refine zv_iload_n (j := 0) G dX10_flag_0 rfl rfl ?_
  refine zv_if_eq (tgt := 8) G dX10_flag_1 (by decide) (fun c_1 => ?_) (fun c_1 => ?_)
  · refine zv_iconst (v := 0) G dX10_flag_8 (by decide) ?_
    exact zv_iret G hr dX10_flag_9 ⟨⟨Or.inl rfl, by rw [if_pos c_1]⟩, rfl⟩
  · refine zv_iconst (v := 1) G dX10_flag_4 (by decide) ?_
    refine zv_goto (tgt := 9) G dX10_flag_5 (by decide) ?_
    exact zv_iret G hr dX10_flag_9 ⟨⟨Or.inr rfl, by rw [if_neg c_1]⟩, rfl⟩
set_option maxHeartbeats 4000000 in
set_option maxRecDepth 100000 in
theorem zc_X10_isTable (l : Launch) (E : za_E) (a1 : Int32) (σ : za_S)  : zMi l E yX10_isTable cX10_isTable 1 (Option.some Jvm.ClassFile.FieldType.boolean) 2 46 [za_I a1] σ (fun r σ' => ((r = 0 ∨ r = 1) ∧ (¬ r = 0 ↔ 0 ≤ a1.toInt ∧ a1.toInt ≤ 1)) ∧ σ' = σ) := by
  refine zMi_of [(0, za_I a1)] (by decide) rfl rfl (Nat.le_of_ble_eq_true rfl) ?_
  intro ho p e s m args below meth c G hr
  refine zv_iload_n (j := 0) G dX10_isTable_0 rfl rfl ?_
  refine zv_i2l G dX10_isTable_1 ?_
  refine zv_lconst (v := 0) G dX10_isTable_2 (by decide) ?_
  refine zv_lconst (v := 1) G dX10_isTable_3 (by decide) ?_
  refine zv_callSi (as := [za_L a1.toInt64, za_L 0, za_L 1]) G (zc_X10_in l E a1.toInt64 0 1 σ ) zk_X10_in zm_1180 rfl ⟨(Nat.le_of_ble_eq_true rfl), (Nat.le_of_ble_eq_true rfl)⟩ ⟨Nat.zero_le _, Nat.zero_le _⟩ (Nat.le_of_ble_eq_true rfl) dX10_isTable_4 (fun r_4 σ h_4 => ?_)
  obtain ⟨h_4, rfl⟩ := h_4
  exact zv_zret G hr dX10_isTable_7 (z_nar h_4.1) ⟨⟨h_4.1, (by have hL := z_lL; have hw := z_w a1; have h9 := h_4.2; rw [hw] at h9; rw [h9]; omega)⟩, rfl⟩
set_option maxHeartbeats 4000000 in
set_option maxRecDepth 100000 in
theorem zc_X10_isKey (l : Launch) (E : za_E) (a1 : Int32) (σ : za_S)  : zMi l E yX10_isKey cX10_isKey 1 (Option.some Jvm.ClassFile.FieldType.boolean) 2 46 [za_I a1] σ (fun r σ' => ((r = 0 ∨ r = 1) ∧ (¬ r = 0 ↔ 0 ≤ a1.toInt ∧ a1.toInt ≤ 9)) ∧ σ' = σ) := by
  refine zMi_of [(0, za_I a1)] (by decide) rfl rfl (Nat.le_of_ble_eq_true rfl) ?_
  intro ho p e s m args below meth c G hr
  refine zv_iload_n (j := 0) G dX10_isKey_0 rfl rfl ?_
  refine zv_i2l G dX10_isKey_1 ?_
  refine zv_lconst (v := 0) G dX10_isKey_2 (by decide) ?_
  refine zv_ldc2 (v := 9) G dX10_isKey_3 zm_1374 ?_
  refine zv_callSi (as := [za_L a1.toInt64, za_L 0, za_L 9]) G (zc_X10_in l E a1.toInt64 0 9 σ ) zk_X10_in zm_1180 rfl ⟨(Nat.le_of_ble_eq_true rfl), (Nat.le_of_ble_eq_true rfl)⟩ ⟨Nat.zero_le _, Nat.zero_le _⟩ (Nat.le_of_ble_eq_true rfl) dX10_isKey_6 (fun r_6 σ h_6 => ?_)
  obtain ⟨h_6, rfl⟩ := h_6
  exact zv_zret G hr dX10_isKey_9 (z_nar h_6.1) ⟨⟨h_6.1, (by have hL := z_lL; have hw := z_w a1; have h9 := h_6.2; rw [hw] at h9; rw [h9]; omega)⟩, rfl⟩
set_option maxHeartbeats 4000000 in
set_option maxRecDepth 100000 in
theorem zc_X10_isDay (l : Launch) (E : za_E) (a1 : Int32) (σ : za_S)  : zMi l E yX10_isDay cX10_isDay 1 (Option.some Jvm.ClassFile.FieldType.boolean) 2 46 [za_I a1] σ (fun r σ' => ((r = 0 ∨ r = 1) ∧ (¬ r = 0 ↔ 0 ≤ a1.toInt ∧ a1.toInt ≤ 99)) ∧ σ' = σ) := by
  refine zMi_of [(0, za_I a1)] (by decide) rfl rfl (Nat.le_of_ble_eq_true rfl) ?_
  intro ho p e s m args below meth c G hr
  refine zv_iload_n (j := 0) G dX10_isDay_0 rfl rfl ?_
  refine zv_i2l G dX10_isDay_1 ?_
  refine zv_lconst (v := 0) G dX10_isDay_2 (by decide) ?_
  refine zv_ldc2 (v := 99) G dX10_isDay_3 zm_1326 ?_
  refine zv_callSi (as := [za_L a1.toInt64, za_L 0, za_L 99]) G (zc_X10_in l E a1.toInt64 0 99 σ ) zk_X10_in zm_1180 rfl ⟨(Nat.le_of_ble_eq_true rfl), (Nat.le_of_ble_eq_true rfl)⟩ ⟨Nat.zero_le _, Nat.zero_le _⟩ (Nat.le_of_ble_eq_true rfl) dX10_isDay_6 (fun r_6 σ h_6 => ?_)
  obtain ⟨h_6, rfl⟩ := h_6
  exact zv_zret G hr dX10_isDay_9 (z_nar h_6.1) ⟨⟨h_6.1, (by have hL := z_lL; have hw := z_w a1; have h9 := h_6.2; rw [hw] at h9; rw [h9]; omega)⟩, rfl⟩
set_option maxHeartbeats 4000000 in
set_option maxRecDepth 100000 in
theorem zc_X10_isPeriod (l : Launch) (E : za_E) (a1 : Int32) (a2 : Int32) (σ : za_S)  : zMi l E yX10_isPeriod cX10_isPeriod 2 (Option.some Jvm.ClassFile.FieldType.boolean) 3 66 [za_I a1, za_I a2] σ (fun r σ' => ((r = 0 ∨ r = 1) ∧ (¬ r = 0 ↔ (0 ≤ a1.toInt ∧ a1.toInt ≤ 99) ∧ a1.toInt < a2.toInt ∧ a2.toInt ≤ 100)) ∧ σ' = σ) := by
  refine zMi_of [(0, za_I a1), (1, za_I a2)] (by decide) rfl rfl (Nat.le_of_ble_eq_true rfl) ?_
  intro ho p e s m args below meth c G hr
  refine zv_iload_n (j := 0) G dX10_isPeriod_0 rfl rfl ?_
  refine zv_callSi (as := [za_I a1]) G (zc_X10_isDay l E a1 σ ) zk_X10_isDay zm_1323 rfl ⟨(Nat.le_of_ble_eq_true rfl), (Nat.le_of_ble_eq_true rfl)⟩ ⟨Nat.zero_le _, Nat.zero_le _⟩ (Nat.le_of_ble_eq_true rfl) dX10_isPeriod_1 (fun r_1 σ h_1 => ?_)
  obtain ⟨h_1, rfl⟩ := h_1
  refine zv_if_eq (tgt := 22) G dX10_isPeriod_4 (by decide) (fun c_4 => ?_) (fun c_4 => ?_)
  · have f_1 := fun q9 => (h_1.2.mpr q9) c_4
    refine zv_iconst (v := 0) G dX10_isPeriod_22 (by decide) ?_
    exact zv_zret G hr dX10_isPeriod_23 (by decide) ⟨⟨Or.inl rfl, fun h => absurd rfl h, fun h => False.elim (by first | exact f_1 h.1 | (rw [z_le] at c_9; omega) | (rw [z_lt] at c_15; have := (z_lits).2.2.2.2.2.2.2.2.2.2.2.2.1; omega))⟩, rfl⟩
  · have t_1 := h_1.2.mp c_4
    refine zv_iload_n (j := 1) G dX10_isPeriod_7 rfl rfl ?_
    refine zv_iload_n (j := 0) G dX10_isPeriod_8 rfl rfl ?_
    refine zv_icmp_le (tgt := 22) G dX10_isPeriod_9 (by decide) (fun c_9 => ?_) (fun c_9 => ?_)
    · refine zv_iconst (v := 0) G dX10_isPeriod_22 (by decide) ?_
      exact zv_zret G hr dX10_isPeriod_23 (by decide) ⟨⟨Or.inl rfl, fun h => absurd rfl h, fun h => False.elim (by first | exact f_1 h.1 | (rw [z_le] at c_9; omega) | (rw [z_lt] at c_15; have := (z_lits).2.2.2.2.2.2.2.2.2.2.2.2.1; omega))⟩, rfl⟩
    · refine zv_iload_n (j := 1) G dX10_isPeriod_12 rfl rfl ?_
      refine zv_bipush (v := 100) G dX10_isPeriod_13 (by decide) ?_
      refine zv_icmp_gt (tgt := 22) G dX10_isPeriod_15 (by decide) (fun c_15 => ?_) (fun c_15 => ?_)
      · refine zv_iconst (v := 0) G dX10_isPeriod_22 (by decide) ?_
        exact zv_zret G hr dX10_isPeriod_23 (by decide) ⟨⟨Or.inl rfl, fun h => absurd rfl h, fun h => False.elim (by first | exact f_1 h.1 | (rw [z_le] at c_9; omega) | (rw [z_lt] at c_15; have := (z_lits).2.2.2.2.2.2.2.2.2.2.2.2.1; omega))⟩, rfl⟩
      · refine zv_iconst (v := 1) G dX10_isPeriod_18 (by decide) ?_
        refine zv_goto (tgt := 23) G dX10_isPeriod_19 (by decide) ?_
        exact zv_zret G hr dX10_isPeriod_23 (by decide) ⟨⟨Or.inr rfl, fun _ => ⟨t_1, by rw [z_le] at c_9; omega, by rw [z_lt] at c_15; have := (z_lits).2.2.2.2.2.2.2.2.2.2.2.2.1; omega⟩, fun _ => by decide⟩, rfl⟩
set_option maxHeartbeats 4000000 in
set_option maxRecDepth 100000 in
theorem zc_X10_on (l : Launch) (E : za_E) (t : Int32) (k : Int32) (d : Int32) (σ : za_S)  : zMi l E yX10_on cX10_on 3 (Option.some Jvm.ClassFile.FieldType.int) 1 21 [za_I t, za_I k, za_I d] σ (fun r σ' => (r = 1000 * t + 100 * k + d) ∧ σ' = σ) := by
  refine zMi_of [(0, za_I t), (1, za_I k), (2, za_I d)] (by decide) rfl rfl (Nat.le_of_ble_eq_true rfl) ?_
  intro ho p e s m args below meth c G hr
  refine zv_sipush (v := 1000) G dX10_on_0 (by decide) ?_
  refine zv_iload_n (j := 0) G dX10_on_3 rfl rfl ?_
  refine zv_imul G dX10_on_4 ?_
  refine zv_bipush (v := 100) G dX10_on_5 (by decide) ?_
  refine zv_iload_n (j := 1) G dX10_on_7 rfl rfl ?_
  refine zv_imul G dX10_on_8 ?_
  refine zv_iadd G dX10_on_9 ?_
  refine zv_iload_n (j := 2) G dX10_on_10 rfl rfl ?_
  refine zv_iadd G dX10_on_11 ?_
  exact zv_iret G hr dX10_on_12 ⟨rfl, rfl⟩
set_option maxHeartbeats 4000000 in
set_option maxRecDepth 100000 in
theorem zc_X10_isThere (l : Launch) (E : za_E) (q : Nat) (t : Int32) (k : Int32) (d : Int32) (σ : za_S) (ht : 0 ≤ t.toInt ∧ t.toInt ≤ 1) (hk : 0 ≤ k.toInt ∧ k.toInt ≤ 9) : zMi l E yX10_isThere cX10_isThere 4 (Option.some Jvm.ClassFile.FieldType.boolean) 3 66 [za_O 22 q, za_I t, za_I k, za_I d] σ (fun r σ' => ((r = 0 ∨ r = 1) ∧ (¬ r = 0 ↔ zth (σ.1 q) t k d)) ∧ σ' = σ) := by
  refine zMi_of [(0, za_O 22 q), (1, za_I t), (2, za_I k), (3, za_I d)] (by decide) rfl rfl (Nat.le_of_ble_eq_true rfl) ?_
  intro ho p e s m args below meth c G hr
  have h_q : za_kd q = 22 := za_okO (by decide) (List.forall_mem_cons.mp ho).1
  refine zv_iload_n (j := 3) G dX10_isThere_0 rfl rfl ?_
  refine zv_callSi (as := [za_I d]) G (zc_X10_isDay l E d σ ) zk_X10_isDay zm_1323 rfl ⟨(Nat.le_of_ble_eq_true rfl), (Nat.le_of_ble_eq_true rfl)⟩ ⟨Nat.zero_le _, Nat.zero_le _⟩ (Nat.le_of_ble_eq_true rfl) dX10_isThere_1 (fun r_1 σ h_1 => ?_)
  obtain ⟨h_1, rfl⟩ := h_1
  refine zv_if_eq (tgt := 22) G dX10_isThere_4 (by decide) (fun c_4 => ?_) (fun c_4 => ?_)
  · have f_1 := fun q9 => (h_1.2.mpr q9) c_4
    refine zv_iconst (v := 0) G dX10_isThere_22 (by decide) ?_
    exact zv_zret G hr dX10_isThere_23 (by decide) ⟨⟨Or.inl rfl, fun h => absurd rfl h, fun h => False.elim (by first | exact f_1 h.1 | exact z_le0 c_15 (by rw [(z_onI ht hk t_1 h_11).2]; exact h.2))⟩, rfl⟩
  · have t_1 := h_1.2.mp c_4
    refine zv_aload_n (j := 0) G dX10_isThere_7 rfl rfl ?_
    refine zv_iload_n (j := 1) G dX10_isThere_8 rfl rfl ?_
    refine zv_iload_n (j := 2) G dX10_isThere_9 rfl rfl ?_
    refine zv_iload_n (j := 3) G dX10_isThere_10 rfl rfl ?_
    refine zv_callSi (as := [za_I t, za_I k, za_I d]) G (zc_X10_on l E t k d σ ) zk_X10_on zm_1327 rfl ⟨(Nat.le_of_ble_eq_true rfl), (Nat.le_of_ble_eq_true rfl)⟩ ⟨Nat.zero_le _, Nat.zero_le _⟩ (Nat.le_of_ble_eq_true rfl) dX10_isThere_11 (fun r_11 σ h_11 => ?_)
    obtain ⟨h_11, rfl⟩ := h_11
    refine zv_iald G (by decide) rfl (z_onI ht hk t_1 h_11).1 dX10_isThere_14 ?_
    refine zv_if_le (tgt := 22) G dX10_isThere_15 (by decide) (fun c_15 => ?_) (fun c_15 => ?_)
    · refine zv_iconst (v := 0) G dX10_isThere_22 (by decide) ?_
      exact zv_zret G hr dX10_isThere_23 (by decide) ⟨⟨Or.inl rfl, fun h => absurd rfl h, fun h => False.elim (by first | exact f_1 h.1 | exact z_le0 c_15 (by rw [(z_onI ht hk t_1 h_11).2]; exact h.2))⟩, rfl⟩
    · refine zv_iconst (v := 1) G dX10_isThere_18 (by decide) ?_
      refine zv_goto (tgt := 23) G dX10_isThere_19 (by decide) ?_
      exact zv_zret G hr dX10_isThere_23 (by decide) ⟨⟨Or.inr rfl, fun _ => ⟨t_1, by show 0 < (σ.1 q (zix t k d)).toInt; rw [← (z_onI ht hk t_1 h_11).2]; exact z_gt0 c_15⟩, fun _ => by decide⟩, rfl⟩
set_option maxHeartbeats 4000000 in
set_option maxRecDepth 100000 in
theorem zc_X10_valueOn (l : Launch) (E : za_E) (q : Nat) (t : Int32) (k : Int32) (d : Int32) (σ : za_S) (ht : 0 ≤ t.toInt ∧ t.toInt ≤ 1) (hk : 0 ≤ k.toInt ∧ k.toInt ≤ 9) (hd : 0 ≤ d.toInt ∧ d.toInt ≤ 99) : zMi l E yX10_valueOn cX10_valueOn 4 (Option.some Jvm.ClassFile.FieldType.int) 2 43 [za_O 22 q, za_I t, za_I k, za_I d] σ (fun r σ' => (r = zvl (σ.1 q (zix t k d))) ∧ σ' = σ) := by
  refine zMi_of [(0, za_O 22 q), (1, za_I t), (2, za_I k), (3, za_I d)] (by decide) rfl rfl (Nat.le_of_ble_eq_true rfl) ?_
  intro ho p e s m args below meth c G hr
  have h_q : za_kd q = 22 := za_okO (by decide) (List.forall_mem_cons.mp ho).1
  refine zv_aload_n (j := 0) G dX10_valueOn_0 rfl rfl ?_
  refine zv_iload_n (j := 1) G dX10_valueOn_1 rfl rfl ?_
  refine zv_iload_n (j := 2) G dX10_valueOn_2 rfl rfl ?_
  refine zv_iload_n (j := 3) G dX10_valueOn_3 rfl rfl ?_
  refine zv_callSi (as := [za_I t, za_I k, za_I d]) G (zc_X10_on l E t k d σ ) zk_X10_on zm_1327 rfl ⟨(Nat.le_of_ble_eq_true rfl), (Nat.le_of_ble_eq_true rfl)⟩ ⟨Nat.zero_le _, Nat.zero_le _⟩ (Nat.le_of_ble_eq_true rfl) dX10_valueOn_4 (fun r_4 σ h_4 => ?_)
  obtain ⟨h_4, rfl⟩ := h_4
  refine zv_iald G (by decide) rfl (z_onI ht hk hd h_4).1 dX10_valueOn_7 ?_
  refine zv_iconst (v := 1) G dX10_valueOn_8 (by decide) ?_
  refine zv_isub G dX10_valueOn_9 ?_
  refine zv_iconst (v := 2) G dX10_valueOn_10 (by decide) ?_
  refine zv_idiv G dX10_valueOn_11 (by decide) ?_
  refine zv_bipush (v := 11) G dX10_valueOn_12 (by decide) ?_
  refine zv_idiv G dX10_valueOn_14 (by decide) ?_
  exact zv_iret G hr dX10_valueOn_15 ⟨(by rw [(z_onI ht hk hd h_4).2]; rfl), rfl⟩
set_option maxHeartbeats 4000000 in
set_option maxRecDepth 100000 in
theorem zc_X10_refOn (l : Launch) (E : za_E) (q : Nat) (t : Int32) (k : Int32) (d : Int32) (σ : za_S) (ht : 0 ≤ t.toInt ∧ t.toInt ≤ 1) (hk : 0 ≤ k.toInt ∧ k.toInt ≤ 9) (hd : 0 ≤ d.toInt ∧ d.toInt ≤ 99) : zMi l E yX10_refOn cX10_refOn 4 (Option.some Jvm.ClassFile.FieldType.int) 2 43 [za_O 22 q, za_I t, za_I k, za_I d] σ (fun r σ' => (r = zrf (σ.1 q (zix t k d))) ∧ σ' = σ) := by
  refine zMi_of [(0, za_O 22 q), (1, za_I t), (2, za_I k), (3, za_I d)] (by decide) rfl rfl (Nat.le_of_ble_eq_true rfl) ?_
  intro ho p e s m args below meth c G hr
  have h_q : za_kd q = 22 := za_okO (by decide) (List.forall_mem_cons.mp ho).1
  refine zv_aload_n (j := 0) G dX10_refOn_0 rfl rfl ?_
  refine zv_iload_n (j := 1) G dX10_refOn_1 rfl rfl ?_
  refine zv_iload_n (j := 2) G dX10_refOn_2 rfl rfl ?_
  refine zv_iload_n (j := 3) G dX10_refOn_3 rfl rfl ?_
  refine zv_callSi (as := [za_I t, za_I k, za_I d]) G (zc_X10_on l E t k d σ ) zk_X10_on zm_1327 rfl ⟨(Nat.le_of_ble_eq_true rfl), (Nat.le_of_ble_eq_true rfl)⟩ ⟨Nat.zero_le _, Nat.zero_le _⟩ (Nat.le_of_ble_eq_true rfl) dX10_refOn_4 (fun r_4 σ h_4 => ?_)
  obtain ⟨h_4, rfl⟩ := h_4
  refine zv_iald G (by decide) rfl (z_onI ht hk hd h_4).1 dX10_refOn_7 ?_
  refine zv_iconst (v := 1) G dX10_refOn_8 (by decide) ?_
  refine zv_isub G dX10_refOn_9 ?_
  refine zv_iconst (v := 2) G dX10_refOn_10 (by decide) ?_
  refine zv_idiv G dX10_refOn_11 (by decide) ?_
  refine zv_bipush (v := 11) G dX10_refOn_12 (by decide) ?_
  refine zv_irem G dX10_refOn_14 (by decide) ?_
  exact zv_iret G hr dX10_refOn_15 ⟨(by rw [(z_onI ht hk hd h_4).2]; rfl), rfl⟩
set_option maxHeartbeats 4000000 in
set_option maxRecDepth 100000 in
theorem zc_X10_begins (l : Launch) (E : za_E) (q : Nat) (t : Int32) (k : Int32) (d : Int32) (σ : za_S) (ht : 0 ≤ t.toInt ∧ t.toInt ≤ 1) (hk : 0 ≤ k.toInt ∧ k.toInt ≤ 9) : zMi l E yX10_begins cX10_begins 4 (Option.some Jvm.ClassFile.FieldType.boolean) 4 89 [za_O 22 q, za_I t, za_I k, za_I d] σ (fun r σ' => ((r = 0 ∨ r = 1) ∧ (¬ r = 0 ↔ zbg (σ.1 q) t k d)) ∧ σ' = σ) := by
  refine zMi_of [(0, za_O 22 q), (1, za_I t), (2, za_I k), (3, za_I d)] (by decide) rfl rfl (Nat.le_of_ble_eq_true rfl) ?_
  intro ho p e s m args below meth c G hr
  have h_q : za_kd q = 22 := za_okO (by decide) (List.forall_mem_cons.mp ho).1
  refine zv_aload_n (j := 0) G dX10_begins_0 rfl rfl ?_
  refine zv_iload_n (j := 1) G dX10_begins_1 rfl rfl ?_
  refine zv_iload_n (j := 2) G dX10_begins_2 rfl rfl ?_
  refine zv_iload_n (j := 3) G dX10_begins_3 rfl rfl ?_
  refine zv_callSi (as := [za_O 22 q, za_I t, za_I k, za_I d]) G (zc_X10_isThere l E q t k d σ (by first | assumption | decide | omega) (by first | assumption | decide | omega)) zk_X10_isThere zm_1320 rfl ⟨(Nat.le_of_ble_eq_true rfl), (Nat.le_of_ble_eq_true rfl)⟩ ⟨Nat.zero_le _, Nat.zero_le _⟩ (Nat.le_of_ble_eq_true rfl) dX10_begins_4 (fun r_4 σ h_4 => ?_)
  obtain ⟨h_4, rfl⟩ := h_4
  refine zv_if_eq (tgt := 30) G dX10_begins_7 (by decide) (fun c_7 => ?_) (fun c_7 => ?_)
  · have f_4 := fun q9 => (h_4.2.mpr q9) c_7
    refine zv_iconst (v := 0) G dX10_begins_30 (by decide) ?_
    exact zv_zret G hr dX10_begins_31 (by decide) ⟨⟨Or.inl rfl, fun h => absurd rfl h, fun h => False.elim (by first | exact f_4 ⟨h.1, h.2.1⟩ | exact c_23 (by rw [(z_onI ht hk t_4.1 h_14).2]; exact (z_par h.2.1).mpr h.2.2))⟩, rfl⟩
  · have t_4 := h_4.2.mp c_7
    refine zv_aload_n (j := 0) G dX10_begins_10 rfl rfl ?_
    refine zv_iload_n (j := 1) G dX10_begins_11 rfl rfl ?_
    refine zv_iload_n (j := 2) G dX10_begins_12 rfl rfl ?_
    refine zv_iload_n (j := 3) G dX10_begins_13 rfl rfl ?_
    refine zv_callSi (as := [za_I t, za_I k, za_I d]) G (zc_X10_on l E t k d σ ) zk_X10_on zm_1327 rfl ⟨(Nat.le_of_ble_eq_true rfl), (Nat.le_of_ble_eq_true rfl)⟩ ⟨Nat.zero_le _, Nat.zero_le _⟩ (Nat.le_of_ble_eq_true rfl) dX10_begins_14 (fun r_14 σ h_14 => ?_)
    obtain ⟨h_14, rfl⟩ := h_14
    refine zv_iald G (by decide) rfl (z_onI ht hk t_4.1 h_14).1 dX10_begins_17 ?_
    refine zv_iconst (v := 1) G dX10_begins_18 (by decide) ?_
    refine zv_isub G dX10_begins_19 ?_
    refine zv_iconst (v := 2) G dX10_begins_20 (by decide) ?_
    refine zv_irem G dX10_begins_21 (by decide) ?_
    refine zv_iconst (v := 1) G dX10_begins_22 (by decide) ?_
    refine zv_icmp_ne (tgt := 30) G dX10_begins_23 (by decide) (fun c_23 => ?_) (fun c_23 => ?_)
    · refine zv_iconst (v := 0) G dX10_begins_30 (by decide) ?_
      exact zv_zret G hr dX10_begins_31 (by decide) ⟨⟨Or.inl rfl, fun h => absurd rfl h, fun h => False.elim (by first | exact f_4 ⟨h.1, h.2.1⟩ | exact c_23 (by rw [(z_onI ht hk t_4.1 h_14).2]; exact (z_par h.2.1).mpr h.2.2))⟩, rfl⟩
    · refine zv_iconst (v := 1) G dX10_begins_26 (by decide) ?_
      refine zv_goto (tgt := 31) G dX10_begins_27 (by decide) ?_
      exact zv_zret G hr dX10_begins_31 (by decide) ⟨⟨Or.inr rfl, fun _ => ⟨t_4.1, t_4.2, (z_par t_4.2).mp (by rw [← (z_onI ht hk t_4.1 h_14).2]; exact c_23)⟩, fun _ => by decide⟩, rfl⟩
set_option maxHeartbeats 4000000 in
set_option maxRecDepth 100000 in
theorem zc_X10_lays (l : Launch) (E : za_E) (q : Nat) (t : Int32) (k : Int32) (d : Int32) (v : Int32) (f : Int32) (b : Int32) (σ0 : za_S) (ht : 0 ≤ t.toInt ∧ t.toInt ≤ 1) (hk : 0 ≤ k.toInt ∧ k.toInt ≤ 9) (hd : 0 ≤ d.toInt ∧ d.toInt ≤ 99) : zMv l E yX10_lays cX10_lays 7 (Option.none : Option Jvm.ClassFile.FieldType) 2 43 [za_O 22 q, za_I t, za_I k, za_I d, za_I v, za_I f, za_I b] σ0 (fun σ' => σ' = za_si σ0 q (zix t k d) (zly v f (if b = 0 then 0 else 1))) := by
  refine zMv_of [(0, za_O 22 q), (1, za_I t), (2, za_I k), (3, za_I d), (4, za_I v), (5, za_I f), (6, za_I b)] (by decide) rfl rfl (Nat.le_of_ble_eq_true rfl) ?_
  intro ho p e s m args below meth c G hr
  have h_q : za_kd q = 22 := za_okO (by decide) (List.forall_mem_cons.mp ho).1
  refine zv_aload_n (j := 0) G dX10_lays_0 rfl rfl ?_
  refine zv_iload_n (j := 1) G dX10_lays_1 rfl rfl ?_
  refine zv_iload_n (j := 2) G dX10_lays_2 rfl rfl ?_
  refine zv_iload_n (j := 3) G dX10_lays_3 rfl rfl ?_
  refine zv_callSi (as := [za_I t, za_I k, za_I d]) G (zc_X10_on l E t k d σ0 ) zk_X10_on zm_1327 rfl ⟨(Nat.le_of_ble_eq_true rfl), (Nat.le_of_ble_eq_true rfl)⟩ ⟨Nat.zero_le _, Nat.zero_le _⟩ (Nat.le_of_ble_eq_true rfl) dX10_lays_4 (fun r_4 σ h_4 => ?_)
  obtain ⟨h_4, e9⟩ := h_4
  rw [e9]
  clear e9 σ
  refine zv_iconst (v := 1) G dX10_lays_7 (by decide) ?_
  refine zv_iconst (v := 2) G dX10_lays_8 (by decide) ?_
  refine zv_bipush (v := 11) G dX10_lays_9 (by decide) ?_
  refine zv_iload (j := 4) G dX10_lays_11 rfl ?_
  refine zv_imul G dX10_lays_13 ?_
  refine zv_iload (j := 5) G dX10_lays_14 rfl ?_
  refine zv_iadd G dX10_lays_16 ?_
  refine zv_imul G dX10_lays_17 ?_
  refine zv_iadd G dX10_lays_18 ?_
  refine zv_iload (j := 6) G dX10_lays_19 rfl ?_
  refine zv_callSi (as := [za_I b]) G (zc_X10_flag l E b σ0 ) zk_X10_flag zm_1351 rfl ⟨(Nat.le_of_ble_eq_true rfl), (Nat.le_of_ble_eq_true rfl)⟩ ⟨Nat.zero_le _, Nat.zero_le _⟩ (Nat.le_of_ble_eq_true rfl) dX10_lays_21 (fun r_21 σ h_21 => ?_)
  obtain ⟨h_21, e9⟩ := h_21
  rw [e9]
  clear e9 σ
  refine zv_iadd G dX10_lays_24 ?_
  refine zv_iast G (by decide) rfl (fun _ => rfl) (z_onI ht hk hd h_4).1 dX10_lays_25 ?_
  exact zv_vret G hr dX10_lays_26 (by rw [(z_onI ht hk hd h_4).2, h_21.2]; rfl)
set_option maxHeartbeats 4000000 in
set_option maxRecDepth 100000 in
theorem zc_X10_splits (l : Launch) (E : za_E) (q : Nat) (t : Int32) (k : Int32) (d : Int32) (σ0 : za_S) (ht : 0 ≤ t.toInt ∧ t.toInt ≤ 1) (hk : 0 ≤ k.toInt ∧ k.toInt ≤ 9) : zMv l E yX10_splits cX10_splits 4 (Option.none : Option Jvm.ClassFile.FieldType) 4 89 [za_O 22 q, za_I t, za_I k, za_I d] σ0 (fun σ' => (zth (σ0.1 q) t k d ∧ σ' = za_si σ0 q (zix t k d) (zly (zvl (σ0.1 q (zix t k d))) (zrf (σ0.1 q (zix t k d))) 1)) ∨ (¬ zth (σ0.1 q) t k d ∧ σ' = σ0)) := by
  refine zMv_of [(0, za_O 22 q), (1, za_I t), (2, za_I k), (3, za_I d)] (by decide) rfl rfl (Nat.le_of_ble_eq_true rfl) ?_
  intro ho p e s m args below meth c G hr
  have h_q : za_kd q = 22 := za_okO (by decide) (List.forall_mem_cons.mp ho).1
  refine zv_aload_n (j := 0) G dX10_splits_0 rfl rfl ?_
  refine zv_iload_n (j := 1) G dX10_splits_1 rfl rfl ?_
  refine zv_iload_n (j := 2) G dX10_splits_2 rfl rfl ?_
  refine zv_iload_n (j := 3) G dX10_splits_3 rfl rfl ?_
  refine zv_callSi (as := [za_O 22 q, za_I t, za_I k, za_I d]) G (zc_X10_isThere l E q t k d σ0 (by first | assumption | decide | omega) (by first | assumption | decide | omega)) zk_X10_isThere zm_1320 rfl ⟨(Nat.le_of_ble_eq_true rfl), (Nat.le_of_ble_eq_true rfl)⟩ ⟨Nat.zero_le _, Nat.zero_le _⟩ (Nat.le_of_ble_eq_true rfl) dX10_splits_4 (fun r_4 σ h_4 => ?_)
  obtain ⟨h_4, e9⟩ := h_4
  rw [e9]
  clear e9 σ
  refine zv_if_eq (tgt := 32) G dX10_splits_7 (by decide) (fun c_7 => ?_) (fun c_7 => ?_)
  · have f_4 := fun q9 => (h_4.2.mpr q9) c_7
    exact zv_vret G hr dX10_splits_32 (by first | exact Or.inr ⟨f_4, rfl⟩ | exact Or.inl ⟨t_4, by rw [h_29, h_18, h_25]; rfl⟩)
  · have t_4 := h_4.2.mp c_7
    refine zv_aload_n (j := 0) G dX10_splits_10 rfl rfl ?_
    refine zv_iload_n (j := 1) G dX10_splits_11 rfl rfl ?_
    refine zv_iload_n (j := 2) G dX10_splits_12 rfl rfl ?_
    refine zv_iload_n (j := 3) G dX10_splits_13 rfl rfl ?_
    refine zv_aload_n (j := 0) G dX10_splits_14 rfl rfl ?_
    refine zv_iload_n (j := 1) G dX10_splits_15 rfl rfl ?_
    refine zv_iload_n (j := 2) G dX10_splits_16 rfl rfl ?_
    refine zv_iload_n (j := 3) G dX10_splits_17 rfl rfl ?_
    refine zv_callSi (as := [za_O 22 q, za_I t, za_I k, za_I d]) G (zc_X10_valueOn l E q t k d σ0 ht hk t_4.1) zk_X10_valueOn zm_1334 rfl ⟨(Nat.le_of_ble_eq_true rfl), (Nat.le_of_ble_eq_true rfl)⟩ ⟨Nat.zero_le _, Nat.zero_le _⟩ (Nat.le_of_ble_eq_true rfl) dX10_splits_18 (fun r_18 σ h_18 => ?_)
    obtain ⟨h_18, e9⟩ := h_18
    rw [e9]
    clear e9 σ
    refine zv_aload_n (j := 0) G dX10_splits_21 rfl rfl ?_
    refine zv_iload_n (j := 1) G dX10_splits_22 rfl rfl ?_
    refine zv_iload_n (j := 2) G dX10_splits_23 rfl rfl ?_
    refine zv_iload_n (j := 3) G dX10_splits_24 rfl rfl ?_
    refine zv_callSi (as := [za_O 22 q, za_I t, za_I k, za_I d]) G (zc_X10_refOn l E q t k d σ0 ht hk t_4.1) zk_X10_refOn zm_1340 rfl ⟨(Nat.le_of_ble_eq_true rfl), (Nat.le_of_ble_eq_true rfl)⟩ ⟨Nat.zero_le _, Nat.zero_le _⟩ (Nat.le_of_ble_eq_true rfl) dX10_splits_25 (fun r_25 σ h_25 => ?_)
    obtain ⟨h_25, e9⟩ := h_25
    rw [e9]
    clear e9 σ
    refine zv_iconst (v := 1) G dX10_splits_28 (by decide) ?_
    refine zv_callSv (as := [za_O 22 q, za_I t, za_I k, za_I d, za_I r_18, za_I r_25, za_I 1]) G (zc_X10_lays l E q t k d r_18 r_25 (1 : Int32) σ0 ht hk t_4.1) zk_X10_lays zm_1356 rfl ⟨(Nat.le_of_ble_eq_true rfl), (Nat.le_of_ble_eq_true rfl)⟩ ⟨Nat.zero_le _, Nat.zero_le _⟩ (Nat.le_of_ble_eq_true rfl) dX10_splits_29 (fun σ h_29 => ?_)
    exact zv_vret G hr dX10_splits_32 (by first | exact Or.inr ⟨f_4, rfl⟩ | exact Or.inl ⟨t_4, by rw [h_29, h_18, h_25]; rfl⟩)
set_option maxHeartbeats 4000000 in
set_option maxRecDepth 100000 in
theorem zc_X10_fromOf (l : Launch) (E : za_E) (q : Nat) (t : Int32) (k : Int32) (d : Int32) (σ : za_S) (ht : 0 ≤ t.toInt ∧ t.toInt ≤ 1) (hk : 0 ≤ k.toInt ∧ k.toInt ≤ 9) (hT : zth (σ.1 q) t k d) (hG : zGI (σ.1 q)) : zMi l E yX10_fromOf cX10_fromOf 5 (Option.some Jvm.ClassFile.FieldType.int) 5 112 [za_O 22 q, za_I t, za_I k, za_I d] σ (fun r σ' => σ' = σ) := by
  refine zMi_of [(0, za_O 22 q), (1, za_I t), (2, za_I k), (3, za_I d)] (by decide) rfl rfl (Nat.le_of_ble_eq_true rfl) ?_
  intro ho p e s m args below meth c G hr
  have h_q : za_kd q = 22 := za_okO (by decide) (List.forall_mem_cons.mp ho).1
  refine zv_iload_n (j := 3) G dX10_fromOf_0 rfl rfl ?_
  have J_3 : ∀ (n : Nat) (y4_3 : Int32) (z_3 : zth (σ.1 q) t k y4_3) (hn_3 : y4_3.toInt.toNat < n), zV p l e (zRm 5 112) s m args below meth c E (za_A E) 5 0 0 (MQ below (va_Qi (fun r σ' => σ' = σ) (zB E) (za_A E)) args s 0 0 (za_A E)) 3 [(0, za_O 22 q), (1, za_I t), (2, za_I k), (4, za_I y4_3)] [] σ := by
    intro n
    induction n with
    | zero => intro y4_3 z_3 hn; exact absurd hn (Nat.not_lt_zero _)
    | succ n ih_3 =>
      intro y4_3 z_3 hn_3
      refine zv_aload_n (j := 0) G dX10_fromOf_3 rfl rfl ?_
      refine zv_iload_n (j := 1) G dX10_fromOf_4 rfl rfl ?_
      refine zv_iload_n (j := 2) G dX10_fromOf_5 rfl rfl ?_
      refine zv_iload (j := 3) G dX10_fromOf_6 rfl ?_
      refine zv_callSi (as := [za_O 22 q, za_I t, za_I k, za_I y4_3]) G (zc_X10_begins l E q t k y4_3 σ (by first | assumption | decide | omega) (by first | assumption | decide | omega)) zk_X10_begins zm_1317 rfl ⟨(Nat.le_of_ble_eq_true rfl), (Nat.le_of_ble_eq_true rfl)⟩ ⟨Nat.zero_le _, Nat.zero_le _⟩ (Nat.le_of_ble_eq_true rfl) dX10_fromOf_8 (fun r_8 σ h_8 => ?_)
      obtain ⟨h_8, rfl⟩ := h_8
      refine zv_if_ne (tgt := 20) G dX10_fromOf_11 (by decide) (fun c_11 => ?_) (fun c_11 => ?_)
      · have t_8 := h_8.2.mp c_11
        refine zv_iload (j := 3) G dX10_fromOf_20 rfl ?_
        exact zv_iret G hr dX10_fromOf_22 rfl
      · have f_8 := fun q9 => (h_8.2.mpr q9) c_11
        obtain ⟨x_14, e_14⟩ : ∃ y : Int32, y = y4_3 + (-1) := ⟨_, rfl⟩
        refine zv_iinc (j := 3) (v := x_14) (lv' := [(4, za_I x_14), (0, za_O 22 q), (1, za_I t), (2, za_I k)]) G dX10_fromOf_14 rfl (by rw [e_14]; rfl) (by decide) rfl ?_
        refine zv_goto (tgt := 3) G dX10_fromOf_17 (by decide) ?_
        refine zv_sub [1, 2, 3, 0] (lv' := [(0, za_O 22 q), (1, za_I t), (2, za_I k), (4, za_I x_14)]) rfl ?_
        exact ih_3 x_14 (z_from ht hk z_3 f_8 hG e_14).1 (by have h9 := z_from ht hk z_3 f_8 hG e_14; omega)
  refine zv_istore (lv' := [(4, za_I d), (0, za_O 22 q), (1, za_I t), (2, za_I k), (3, za_I d)]) G dX10_fromOf_1 (by decide) rfl ?_
  refine zv_sub [1, 2, 3, 0] (lv' := [(0, za_O 22 q), (1, za_I t), (2, za_I k), (4, za_I d)]) rfl ?_
  exact J_3 _ d hT (Nat.lt_succ_self _)
set_option maxHeartbeats 4000000 in
set_option maxRecDepth 100000 in
theorem zc_X10_toOf (l : Launch) (E : za_E) (q : Nat) (t : Int32) (k : Int32) (d : Int32) (σ : za_S) (ht : 0 ≤ t.toInt ∧ t.toInt ≤ 1) (hk : 0 ≤ k.toInt ∧ k.toInt ≤ 9) (hd : 0 ≤ d.toInt ∧ d.toInt ≤ 99) : zMi l E yX10_toOf cX10_toOf 5 (Option.some Jvm.ClassFile.FieldType.int) 5 112 [za_O 22 q, za_I t, za_I k, za_I d] σ (fun r σ' => (d.toInt < r.toInt ∧ r.toInt ≤ 100 ∧ ∀ x : Int32, d.toInt < x.toInt → x.toInt < r.toInt → zth (σ.1 q) t k x ∧ ¬ zbg (σ.1 q) t k x) ∧ σ' = σ) := by
  refine zMi_of [(0, za_O 22 q), (1, za_I t), (2, za_I k), (3, za_I d)] (by decide) rfl rfl (Nat.le_of_ble_eq_true rfl) ?_
  intro ho p e s m args below meth c G hr
  have h_q : za_kd q = 22 := za_okO (by decide) (List.forall_mem_cons.mp ho).1
  refine zv_iload_n (j := 3) G dX10_toOf_0 rfl rfl ?_
  refine zv_iconst (v := 1) G dX10_toOf_1 (by decide) ?_
  refine zv_iadd G dX10_toOf_2 ?_
  have J_5 : ∀ (n : Nat) (y4_5 : Int32) (a_5 : d.toInt < y4_5.toInt ∧ y4_5.toInt ≤ 100) (u_5 : ∀ x : Int32, d.toInt < x.toInt → x.toInt < y4_5.toInt → zth (σ.1 q) t k x ∧ ¬ zbg (σ.1 q) t k x) (hn_5 : (100 - y4_5.toInt).toNat < n), zV p l e (zRm 5 112) s m args below meth c E (za_A E) 5 0 0 (MQ below (va_Qi (fun r σ' => (d.toInt < r.toInt ∧ r.toInt ≤ 100 ∧ ∀ x : Int32, d.toInt < x.toInt → x.toInt < r.toInt → zth (σ.1 q) t k x ∧ ¬ zbg (σ.1 q) t k x) ∧ σ' = σ) (zB E) (za_A E)) args s 0 0 (za_A E)) 5 [(0, za_O 22 q), (1, za_I t), (2, za_I k), (4, za_I y4_5)] [] σ := by
    intro n
    induction n with
    | zero => intro y4_5 a_5 u_5 hn; exact absurd hn (Nat.not_lt_zero _)
    | succ n ih_5 =>
      intro y4_5 a_5 u_5 hn_5
      refine zv_aload_n (j := 0) G dX10_toOf_5 rfl rfl ?_
      refine zv_iload_n (j := 1) G dX10_toOf_6 rfl rfl ?_
      refine zv_iload_n (j := 2) G dX10_toOf_7 rfl rfl ?_
      refine zv_iload (j := 3) G dX10_toOf_8 rfl ?_
      refine zv_callSi (as := [za_O 22 q, za_I t, za_I k, za_I y4_5]) G (zc_X10_isThere l E q t k y4_5 σ (by first | assumption | decide | omega) (by first | assumption | decide | omega)) zk_X10_isThere zm_1320 rfl ⟨(Nat.le_of_ble_eq_true rfl), (Nat.le_of_ble_eq_true rfl)⟩ ⟨Nat.zero_le _, Nat.zero_le _⟩ (Nat.le_of_ble_eq_true rfl) dX10_toOf_10 (fun r_10 σ h_10 => ?_)
      obtain ⟨h_10, rfl⟩ := h_10
      refine zv_if_eq (tgt := 33) G dX10_toOf_13 (by decide) (fun c_13 => ?_) (fun c_13 => ?_)
      · have f_10 := fun q9 => (h_10.2.mpr q9) c_13
        refine zv_iload (j := 3) G dX10_toOf_33 rfl ?_
        exact zv_iret G hr dX10_toOf_35 ⟨⟨a_5.1, a_5.2, u_5⟩, rfl⟩
      · have t_10 := h_10.2.mp c_13
        refine zv_aload_n (j := 0) G dX10_toOf_16 rfl rfl ?_
        refine zv_iload_n (j := 1) G dX10_toOf_17 rfl rfl ?_
        refine zv_iload_n (j := 2) G dX10_toOf_18 rfl rfl ?_
        refine zv_iload (j := 3) G dX10_toOf_19 rfl ?_
        refine zv_callSi (as := [za_O 22 q, za_I t, za_I k, za_I y4_5]) G (zc_X10_begins l E q t k y4_5 σ (by first | assumption | decide | omega) (by first | assumption | decide | omega)) zk_X10_begins zm_1317 rfl ⟨(Nat.le_of_ble_eq_true rfl), (Nat.le_of_ble_eq_true rfl)⟩ ⟨Nat.zero_le _, Nat.zero_le _⟩ (Nat.le_of_ble_eq_true rfl) dX10_toOf_21 (fun r_21 σ h_21 => ?_)
        obtain ⟨h_21, rfl⟩ := h_21
        refine zv_if_ne (tgt := 33) G dX10_toOf_24 (by decide) (fun c_24 => ?_) (fun c_24 => ?_)
        · have t_21 := h_21.2.mp c_24
          refine zv_iload (j := 3) G dX10_toOf_33 rfl ?_
          exact zv_iret G hr dX10_toOf_35 ⟨⟨a_5.1, a_5.2, u_5⟩, rfl⟩
        · have f_21 := fun q9 => (h_21.2.mpr q9) c_24
          obtain ⟨x_27, e_27⟩ : ∃ y : Int32, y = y4_5 + 1 := ⟨_, rfl⟩
          refine zv_iinc (j := 3) (v := x_27) (lv' := [(4, za_I x_27), (0, za_O 22 q), (1, za_I t), (2, za_I k)]) G dX10_toOf_27 rfl (by rw [e_27]; rfl) (by decide) rfl ?_
          refine zv_goto (tgt := 5) G dX10_toOf_30 (by decide) ?_
          refine zv_sub [1, 2, 3, 0] (lv' := [(0, za_O 22 q), (1, za_I t), (2, za_I k), (4, za_I x_27)]) rfl ?_
          exact ih_5 x_27 (by have h9 := z_inc9 (by omega) e_27; have h8 := t_10.1; omega) (fun x h1 h2 => by have h9 := z_inc9 (by omega) e_27; rcases (show x.toInt < y4_5.toInt ∨ x.toInt = y4_5.toInt by omega) with h8 | h8; exact u_5 x h1 h8; rw [(z_eq x y4_5).mpr h8]; exact ⟨t_10, f_21⟩) (by have h9 := z_inc9 (by omega) e_27; have h8 := t_10.1; omega)
  refine zv_top (fun x_3 e_3 => ?_)
  refine zv_istore (lv' := [(4, za_I x_3), (0, za_O 22 q), (1, za_I t), (2, za_I k), (3, za_I d)]) G dX10_toOf_3 (by decide) rfl ?_
  refine zv_sub [1, 2, 3, 0] (lv' := [(0, za_O 22 q), (1, za_I t), (2, za_I k), (4, za_I x_3)]) rfl ?_
  exact J_5 _ x_3 (by have h9 := z_inc9 (by omega) e_3; omega) (fun x h1 h2 => by have h9 := z_inc9 (by omega) e_3; omega) (Nat.lt_succ_self _)
set_option maxHeartbeats 4000000 in
set_option maxRecDepth 100000 in
theorem zc_X10_rowsOf (l : Launch) (E : za_E) (q : Nat) (t : Int32) (σ : za_S) (ht : 0 ≤ t.toInt ∧ t.toInt ≤ 1) : zMi l E yX10_rowsOf cX10_rowsOf 5 (Option.some Jvm.ClassFile.FieldType.int) 5 112 [za_O 22 q, za_I t] σ (fun r σ' => (r.toInt = (zcn (σ.1 q) t.toInt.toNat : Nat)) ∧ σ' = σ) := by
  refine zMi_of [(0, za_O 22 q), (1, za_I t)] (by decide) rfl rfl (Nat.le_of_ble_eq_true rfl) ?_
  intro ho p e s m args below meth c G hr
  have h_q : za_kd q = 22 := za_okO (by decide) (List.forall_mem_cons.mp ho).1
  refine zv_iconst (v := 0) G dX10_rowsOf_0 (by decide) ?_
  refine zv_istore_n (lv' := [(2, za_I 0), (0, za_O 22 q), (1, za_I t)]) G dX10_rowsOf_1 rfl (by decide) rfl ?_
  refine zv_iconst (v := 0) G dX10_rowsOf_2 (by decide) ?_
  have J_4 : ∀ (n : Nat) (y2_4 : Int32) (y3_4 : Int32) (m_4 : y2_4.toInt = (fb_ct (zp (σ.1 q) t.toInt.toNat) (100 * y3_4.toInt.toNat) : Nat)) (l_4 : y3_4.toInt ≤ 10) (i3_4 : 0 ≤ y3_4.toInt) (hn_4 : (2147483648 - y3_4.toInt).toNat < n), zV p l e (zRm 5 112) s m args below meth c E (za_A E) 5 0 0 (MQ below (va_Qi (fun r σ' => (r.toInt = (zcn (σ.1 q) t.toInt.toNat : Nat)) ∧ σ' = σ) (zB E) (za_A E)) args s 0 0 (za_A E)) 4 [(0, za_O 22 q), (1, za_I t), (2, za_I y2_4), (3, za_I y3_4)] [] σ := by
    intro n
    induction n with
    | zero => intro y2_4 y3_4 m_4 l_4 i3_4 hn; exact absurd hn (Nat.not_lt_zero _)
    | succ n ih_4 =>
      intro y2_4 y3_4 m_4 l_4 i3_4 hn_4
      refine zv_iload_n (j := 3) G dX10_rowsOf_4 rfl rfl ?_
      refine zv_bipush (v := 10) G dX10_rowsOf_5 (by decide) ?_
      refine zv_icmp_ge (tgt := 46) G dX10_rowsOf_7 (by decide) (fun c_7 => ?_) (fun c_7 => ?_)
      · refine zv_iload_n (j := 2) G dX10_rowsOf_46 rfl rfl ?_
        exact zv_iret G hr dX10_rowsOf_47 ⟨(z_end m_4 l_4 c_7), rfl⟩
      · have b_7 : 0 ≤ y3_4.toInt ∧ y3_4.toInt < 10 := ⟨i3_4, z_ltk c_7 rfl⟩
        refine zv_iconst (v := 0) G dX10_rowsOf_10 (by decide) ?_
        have J_13 : ∀ (n : Nat) (y2_13 : Int32) (y4_13 : Int32) (m_13 : y2_13.toInt = (fb_ct (zp (σ.1 q) t.toInt.toNat) (100 * y3_4.toInt.toNat + y4_13.toInt.toNat) : Nat)) (l_13 : y4_13.toInt ≤ 100) (i4_13 : 0 ≤ y4_13.toInt) (hn_13 : (2147483648 - y4_13.toInt).toNat < n), zV p l e (zRm 5 112) s m args below meth c E (za_A E) 5 0 0 (MQ below (va_Qi (fun r σ' => (r.toInt = (zcn (σ.1 q) t.toInt.toNat : Nat)) ∧ σ' = σ) (zB E) (za_A E)) args s 0 0 (za_A E)) 13 [(0, za_O 22 q), (1, za_I t), (2, za_I y2_13), (3, za_I y3_4), (4, za_I y4_13)] [] σ := by
          intro n
          induction n with
          | zero => intro y2_13 y4_13 m_13 l_13 i4_13 hn; exact absurd hn (Nat.not_lt_zero _)
          | succ n ih_13 =>
            intro y2_13 y4_13 m_13 l_13 i4_13 hn_13
            refine zv_iload (j := 4) G dX10_rowsOf_13 rfl ?_
            refine zv_bipush (v := 100) G dX10_rowsOf_15 (by decide) ?_
            refine zv_icmp_ge (tgt := 40) G dX10_rowsOf_17 (by decide) (fun c_17 => ?_) (fun c_17 => ?_)
            · obtain ⟨x_40, e_40⟩ : ∃ y : Int32, y = y3_4 + 1 := ⟨_, rfl⟩
              refine zv_iinc (j := 3) (v := x_40) (lv' := [(3, za_I x_40), (0, za_O 22 q), (1, za_I t), (2, za_I y2_13), (4, za_I y4_13)]) G dX10_rowsOf_40 rfl (by rw [e_40]; rfl) (by decide) rfl ?_
              refine zv_goto (tgt := 4) G dX10_rowsOf_43 (by decide) ?_
              refine zv_sub [1, 2, 3, 0] (lv' := [(0, za_O 22 q), (1, za_I t), (2, za_I y2_13), (3, za_I x_40)]) rfl ?_
              exact ih_4 y2_13 x_40 (z_row m_13 l_13 c_17 (z_inc c_7 e_40) i3_4) (by have := z_inc c_7 e_40; omega) (by have := z_inc c_7 e_40; omega) (z_meas c_7 e_40 hn_4)
            · have b_17 : 0 ≤ y4_13.toInt ∧ y4_13.toInt < 100 := ⟨i4_13, z_ltk c_17 rfl⟩
              refine zv_iload_n (j := 2) G dX10_rowsOf_20 rfl rfl ?_
              refine zv_aload_n (j := 0) G dX10_rowsOf_21 rfl rfl ?_
              refine zv_iload_n (j := 1) G dX10_rowsOf_22 rfl rfl ?_
              refine zv_iload_n (j := 3) G dX10_rowsOf_23 rfl rfl ?_
              refine zv_iload (j := 4) G dX10_rowsOf_24 rfl ?_
              refine zv_callSi (as := [za_O 22 q, za_I t, za_I y3_4, za_I y4_13]) G (zc_X10_begins l E q t y3_4 y4_13 σ (by first | assumption | decide | omega) (by first | assumption | decide | omega)) zk_X10_begins zm_1317 rfl ⟨(Nat.le_of_ble_eq_true rfl), (Nat.le_of_ble_eq_true rfl)⟩ ⟨Nat.zero_le _, Nat.zero_le _⟩ (Nat.le_of_ble_eq_true rfl) dX10_rowsOf_26 (fun r_26 σ h_26 => ?_)
              obtain ⟨h_26, rfl⟩ := h_26
              refine zv_callSi (as := [za_I r_26]) G (zc_X10_flag l E r_26 σ ) zk_X10_flag zm_1351 rfl ⟨(Nat.le_of_ble_eq_true rfl), (Nat.le_of_ble_eq_true rfl)⟩ ⟨Nat.zero_le _, Nat.zero_le _⟩ (Nat.le_of_ble_eq_true rfl) dX10_rowsOf_29 (fun r_29 σ h_29 => ?_)
              obtain ⟨h_29, rfl⟩ := h_29
              refine zv_iadd G dX10_rowsOf_32 ?_
              refine zv_top (fun x_33 e_33 => ?_)
              refine zv_istore_n (lv' := [(2, za_I x_33), (0, za_O 22 q), (1, za_I t), (3, za_I y3_4), (4, za_I y4_13)]) G dX10_rowsOf_33 rfl (by decide) rfl ?_
              obtain ⟨x_34, e_34⟩ : ∃ y : Int32, y = y4_13 + 1 := ⟨_, rfl⟩
              refine zv_iinc (j := 4) (v := x_34) (lv' := [(4, za_I x_34), (2, za_I x_33), (0, za_O 22 q), (1, za_I t), (3, za_I y3_4)]) G dX10_rowsOf_34 rfl (by rw [e_34]; rfl) (by decide) rfl ?_
              refine zv_goto (tgt := 13) G dX10_rowsOf_37 (by decide) ?_
              refine zv_sub [2, 3, 1, 4, 0] (lv' := [(0, za_O 22 q), (1, za_I t), (2, za_I x_33), (3, za_I y3_4), (4, za_I x_34)]) rfl ?_
              exact ih_13 x_33 x_34 (by rw [z_inc c_17 e_34]; exact (show _ = _ from z_dstep (z_cstep ht (by omega) (by omega) h_26 h_29 e_33 m_13 (by omega)) i4_13)) (by have := z_inc c_17 e_34; omega) (by have := z_inc c_17 e_34; omega) (z_meas c_17 e_34 hn_13)
        refine zv_istore (lv' := [(4, za_I 0), (0, za_O 22 q), (1, za_I t), (2, za_I y2_4), (3, za_I y3_4)]) G dX10_rowsOf_11 (by decide) rfl ?_
        refine zv_sub [1, 2, 3, 4, 0] (lv' := [(0, za_O 22 q), (1, za_I t), (2, za_I y2_4), (3, za_I y3_4), (4, za_I 0)]) rfl ?_
        exact J_13 _ y2_4 (0 : Int32) m_4 (by decide) (by decide) (Nat.lt_succ_self _)
  refine zv_istore_n (lv' := [(3, za_I 0), (2, za_I 0), (0, za_O 22 q), (1, za_I t)]) G dX10_rowsOf_3 rfl (by decide) rfl ?_
  refine zv_sub [2, 3, 1, 0] (lv' := [(0, za_O 22 q), (1, za_I t), (2, za_I 0), (3, za_I 0)]) rfl ?_
  exact J_4 _ (0 : Int32) (0 : Int32) rfl (by decide) (by decide) (Nat.lt_succ_self _)
set_option maxHeartbeats 4000000 in
set_option maxRecDepth 100000 in
theorem zc_X10_daysOf (l : Launch) (E : za_E) (q : Nat) (t : Int32) (σ : za_S) (ht : 0 ≤ t.toInt ∧ t.toInt ≤ 1) : zMi l E yX10_daysOf cX10_daysOf 5 (Option.some Jvm.ClassFile.FieldType.int) 4 89 [za_O 22 q, za_I t] σ (fun r σ' => σ' = σ) := by
  refine zMi_of [(0, za_O 22 q), (1, za_I t)] (by decide) rfl rfl (Nat.le_of_ble_eq_true rfl) ?_
  intro ho p e s m args below meth c G hr
  have h_q : za_kd q = 22 := za_okO (by decide) (List.forall_mem_cons.mp ho).1
  refine zv_iconst (v := 0) G dX10_daysOf_0 (by decide) ?_
  refine zv_istore_n (lv' := [(2, za_I 0), (0, za_O 22 q), (1, za_I t)]) G dX10_daysOf_1 rfl (by decide) rfl ?_
  refine zv_iconst (v := 0) G dX10_daysOf_2 (by decide) ?_
  have J_4 : ∀ (n : Nat) (y2_4 : Int32) (y3_4 : Int32) (i3_4 : 0 ≤ y3_4.toInt) (hn_4 : (2147483648 - y3_4.toInt).toNat < n), zV p l e (zRm 4 89) s m args below meth c E (za_A E) 5 0 0 (MQ below (va_Qi (fun r σ' => σ' = σ) (zB E) (za_A E)) args s 0 0 (za_A E)) 4 [(0, za_O 22 q), (1, za_I t), (2, za_I y2_4), (3, za_I y3_4)] [] σ := by
    intro n
    induction n with
    | zero => intro y2_4 y3_4 i3_4 hn; exact absurd hn (Nat.not_lt_zero _)
    | succ n ih_4 =>
      intro y2_4 y3_4 i3_4 hn_4
      refine zv_iload_n (j := 3) G dX10_daysOf_4 rfl rfl ?_
      refine zv_bipush (v := 10) G dX10_daysOf_5 (by decide) ?_
      refine zv_icmp_ge (tgt := 46) G dX10_daysOf_7 (by decide) (fun c_7 => ?_) (fun c_7 => ?_)
      · refine zv_iload_n (j := 2) G dX10_daysOf_46 rfl rfl ?_
        exact zv_iret G hr dX10_daysOf_47 rfl
      · have b_7 : 0 ≤ y3_4.toInt ∧ y3_4.toInt < 10 := ⟨i3_4, z_ltk c_7 rfl⟩
        refine zv_iconst (v := 0) G dX10_daysOf_10 (by decide) ?_
        have J_13 : ∀ (n : Nat) (y2_13 : Int32) (y4_13 : Int32) (i4_13 : 0 ≤ y4_13.toInt) (hn_13 : (2147483648 - y4_13.toInt).toNat < n), zV p l e (zRm 4 89) s m args below meth c E (za_A E) 5 0 0 (MQ below (va_Qi (fun r σ' => σ' = σ) (zB E) (za_A E)) args s 0 0 (za_A E)) 13 [(0, za_O 22 q), (1, za_I t), (2, za_I y2_13), (3, za_I y3_4), (4, za_I y4_13)] [] σ := by
          intro n
          induction n with
          | zero => intro y2_13 y4_13 i4_13 hn; exact absurd hn (Nat.not_lt_zero _)
          | succ n ih_13 =>
            intro y2_13 y4_13 i4_13 hn_13
            refine zv_iload (j := 4) G dX10_daysOf_13 rfl ?_
            refine zv_bipush (v := 100) G dX10_daysOf_15 (by decide) ?_
            refine zv_icmp_ge (tgt := 40) G dX10_daysOf_17 (by decide) (fun c_17 => ?_) (fun c_17 => ?_)
            · obtain ⟨x_40, e_40⟩ : ∃ y : Int32, y = y3_4 + 1 := ⟨_, rfl⟩
              refine zv_iinc (j := 3) (v := x_40) (lv' := [(3, za_I x_40), (0, za_O 22 q), (1, za_I t), (2, za_I y2_13), (4, za_I y4_13)]) G dX10_daysOf_40 rfl (by rw [e_40]; rfl) (by decide) rfl ?_
              refine zv_goto (tgt := 4) G dX10_daysOf_43 (by decide) ?_
              refine zv_sub [1, 2, 3, 0] (lv' := [(0, za_O 22 q), (1, za_I t), (2, za_I y2_13), (3, za_I x_40)]) rfl ?_
              exact ih_4 y2_13 x_40 (by have := z_inc c_7 e_40; omega) (z_meas c_7 e_40 hn_4)
            · have b_17 : 0 ≤ y4_13.toInt ∧ y4_13.toInt < 100 := ⟨i4_13, z_ltk c_17 rfl⟩
              refine zv_iload_n (j := 2) G dX10_daysOf_20 rfl rfl ?_
              refine zv_aload_n (j := 0) G dX10_daysOf_21 rfl rfl ?_
              refine zv_iload_n (j := 1) G dX10_daysOf_22 rfl rfl ?_
              refine zv_iload_n (j := 3) G dX10_daysOf_23 rfl rfl ?_
              refine zv_iload (j := 4) G dX10_daysOf_24 rfl ?_
              refine zv_callSi (as := [za_O 22 q, za_I t, za_I y3_4, za_I y4_13]) G (zc_X10_isThere l E q t y3_4 y4_13 σ (by first | assumption | decide | omega) (by first | assumption | decide | omega)) zk_X10_isThere zm_1320 rfl ⟨(Nat.le_of_ble_eq_true rfl), (Nat.le_of_ble_eq_true rfl)⟩ ⟨Nat.zero_le _, Nat.zero_le _⟩ (Nat.le_of_ble_eq_true rfl) dX10_daysOf_26 (fun r_26 σ h_26 => ?_)
              obtain ⟨h_26, rfl⟩ := h_26
              refine zv_callSi (as := [za_I r_26]) G (zc_X10_flag l E r_26 σ ) zk_X10_flag zm_1351 rfl ⟨(Nat.le_of_ble_eq_true rfl), (Nat.le_of_ble_eq_true rfl)⟩ ⟨Nat.zero_le _, Nat.zero_le _⟩ (Nat.le_of_ble_eq_true rfl) dX10_daysOf_29 (fun r_29 σ h_29 => ?_)
              obtain ⟨h_29, rfl⟩ := h_29
              refine zv_iadd G dX10_daysOf_32 ?_
              refine zv_top (fun x_33 e_33 => ?_)
              refine zv_istore_n (lv' := [(2, za_I x_33), (0, za_O 22 q), (1, za_I t), (3, za_I y3_4), (4, za_I y4_13)]) G dX10_daysOf_33 rfl (by decide) rfl ?_
              obtain ⟨x_34, e_34⟩ : ∃ y : Int32, y = y4_13 + 1 := ⟨_, rfl⟩
              refine zv_iinc (j := 4) (v := x_34) (lv' := [(4, za_I x_34), (2, za_I x_33), (0, za_O 22 q), (1, za_I t), (3, za_I y3_4)]) G dX10_daysOf_34 rfl (by rw [e_34]; rfl) (by decide) rfl ?_
              refine zv_goto (tgt := 13) G dX10_daysOf_37 (by decide) ?_
              refine zv_sub [2, 3, 1, 4, 0] (lv' := [(0, za_O 22 q), (1, za_I t), (2, za_I x_33), (3, za_I y3_4), (4, za_I x_34)]) rfl ?_
              exact ih_13 x_33 x_34 (by have := z_inc c_17 e_34; omega) (z_meas c_17 e_34 hn_13)
        refine zv_istore (lv' := [(4, za_I 0), (0, za_O 22 q), (1, za_I t), (2, za_I y2_4), (3, za_I y3_4)]) G dX10_daysOf_11 (by decide) rfl ?_
        refine zv_sub [1, 2, 3, 4, 0] (lv' := [(0, za_O 22 q), (1, za_I t), (2, za_I y2_4), (3, za_I y3_4), (4, za_I 0)]) rfl ?_
        exact J_13 _ y2_4 (0 : Int32) (by decide) (Nat.lt_succ_self _)
  refine zv_istore_n (lv' := [(3, za_I 0), (2, za_I 0), (0, za_O 22 q), (1, za_I t)]) G dX10_daysOf_3 rfl (by decide) rfl ?_
  refine zv_sub [2, 3, 1, 0] (lv' := [(0, za_O 22 q), (1, za_I t), (2, za_I 0), (3, za_I 0)]) rfl ?_
  exact J_4 _ (0 : Int32) (0 : Int32) (by decide) (Nat.lt_succ_self _)
set_option maxHeartbeats 4000000 in
set_option maxRecDepth 100000 in
theorem zc_X10_rowsIn (l : Launch) (E : za_E) (q : Nat) (t : Int32) (k : Int32) (fd : Int32) (td : Int32) (σ : za_S) (ht : 0 ≤ t.toInt ∧ t.toInt ≤ 1) (hk : 0 ≤ k.toInt ∧ k.toInt ≤ 9) : zMi l E yX10_rowsIn cX10_rowsIn 7 (Option.some Jvm.ClassFile.FieldType.int) 5 112 [za_O 22 q, za_I t, za_I k, za_I fd, za_I td] σ (fun r σ' => σ' = σ) := by
  refine zMi_of [(0, za_O 22 q), (1, za_I t), (2, za_I k), (3, za_I fd), (4, za_I td)] (by decide) rfl rfl (Nat.le_of_ble_eq_true rfl) ?_
  intro ho p e s m args below meth c G hr
  have h_q : za_kd q = 22 := za_okO (by decide) (List.forall_mem_cons.mp ho).1
  refine zv_iconst (v := 0) G dX10_rowsIn_0 (by decide) ?_
  refine zv_istore (lv' := [(5, za_I 0), (0, za_O 22 q), (1, za_I t), (2, za_I k), (3, za_I fd), (4, za_I td)]) G dX10_rowsIn_1 (by decide) rfl ?_
  refine zv_iload_n (j := 4) G dX10_rowsIn_3 rfl rfl ?_
  have J_6 : ∀ (n : Nat) (y5_6 : Int32) (y6_6 : Int32) (hn_6 : (2147483648 - y6_6.toInt).toNat < n), zV p l e (zRm 5 112) s m args below meth c E (za_A E) 7 0 0 (MQ below (va_Qi (fun r σ' => σ' = σ) (zB E) (za_A E)) args s 0 0 (za_A E)) 6 [(0, za_O 22 q), (1, za_I t), (2, za_I k), (3, za_I fd), (4, za_I td), (5, za_I y5_6), (6, za_I y6_6)] [] σ := by
    intro n
    induction n with
    | zero => intro y5_6 y6_6 hn; exact absurd hn (Nat.not_lt_zero _)
    | succ n ih_6 =>
      intro y5_6 y6_6 hn_6
      refine zv_iload (j := 6) G dX10_rowsIn_6 rfl ?_
      refine zv_iload (j := 4) G dX10_rowsIn_8 rfl ?_
      refine zv_icmp_ge (tgt := 60) G dX10_rowsIn_10 (by decide) (fun c_10 => ?_) (fun c_10 => ?_)
      · refine zv_iload (j := 5) G dX10_rowsIn_60 rfl ?_
        exact zv_iret G hr dX10_rowsIn_62 rfl
      · refine zv_iload (j := 5) G dX10_rowsIn_13 rfl ?_
        refine zv_aload_n (j := 0) G dX10_rowsIn_15 rfl rfl ?_
        refine zv_iload_n (j := 1) G dX10_rowsIn_16 rfl rfl ?_
        refine zv_iload_n (j := 2) G dX10_rowsIn_17 rfl rfl ?_
        refine zv_iload (j := 6) G dX10_rowsIn_18 rfl ?_
        refine zv_callSi (as := [za_O 22 q, za_I t, za_I k, za_I y6_6]) G (zc_X10_isThere l E q t k y6_6 σ (by first | assumption | decide | omega) (by first | assumption | decide | omega)) zk_X10_isThere zm_1320 rfl ⟨(Nat.le_of_ble_eq_true rfl), (Nat.le_of_ble_eq_true rfl)⟩ ⟨Nat.zero_le _, Nat.zero_le _⟩ (Nat.le_of_ble_eq_true rfl) dX10_rowsIn_20 (fun r_20 σ h_20 => ?_)
        obtain ⟨h_20, rfl⟩ := h_20
        refine zv_if_eq (tgt := 47) G dX10_rowsIn_23 (by decide) (fun c_23 => ?_) (fun c_23 => ?_)
        · have f_20 := fun q9 => (h_20.2.mpr q9) c_23
          refine zv_iconst (v := 0) G dX10_rowsIn_47 (by decide) ?_
          refine zv_callSi (as := [za_I 0]) G (zc_X10_flag l E (0 : Int32) σ ) zk_X10_flag zm_1351 rfl ⟨(Nat.le_of_ble_eq_true rfl), (Nat.le_of_ble_eq_true rfl)⟩ ⟨Nat.zero_le _, Nat.zero_le _⟩ (Nat.le_of_ble_eq_true rfl) dX10_rowsIn_48 (fun r_48 σ h_48 => ?_)
          obtain ⟨h_48, rfl⟩ := h_48
          refine zv_iadd G dX10_rowsIn_51 ?_
          refine zv_top (fun x_52 e_52 => ?_)
          refine zv_istore (lv' := [(5, za_I x_52), (0, za_O 22 q), (1, za_I t), (2, za_I k), (3, za_I fd), (4, za_I td), (6, za_I y6_6)]) G dX10_rowsIn_52 (by decide) rfl ?_
          obtain ⟨x_54, e_54⟩ : ∃ y : Int32, y = y6_6 + 1 := ⟨_, rfl⟩
          refine zv_iinc (j := 6) (v := x_54) (lv' := [(6, za_I x_54), (5, za_I x_52), (0, za_O 22 q), (1, za_I t), (2, za_I k), (3, za_I fd), (4, za_I td)]) G dX10_rowsIn_54 rfl (by rw [e_54]; rfl) (by decide) rfl ?_
          refine zv_goto (tgt := 6) G dX10_rowsIn_57 (by decide) ?_
          refine zv_sub [2, 3, 4, 5, 6, 1, 0] (lv' := [(0, za_O 22 q), (1, za_I t), (2, za_I k), (3, za_I fd), (4, za_I td), (5, za_I x_52), (6, za_I x_54)]) rfl ?_
          exact ih_6 x_52 x_54 (z_meas c_10 e_54 hn_6)
        · have t_20 := h_20.2.mp c_23
          refine zv_iload (j := 6) G dX10_rowsIn_26 rfl ?_
          refine zv_iload_n (j := 3) G dX10_rowsIn_28 rfl rfl ?_
          have J_43 : zV p l e (zRm 5 112) s m args below meth c E (za_A E) 7 0 0 (MQ below (va_Qi (fun r σ' => σ' = σ) (zB E) (za_A E)) args s 0 0 (za_A E)) 43 [(0, za_O 22 q), (1, za_I t), (2, za_I k), (3, za_I fd), (4, za_I td), (6, za_I y6_6)] [za_I y5_6] σ := by
            refine zv_iconst (v := 1) G dX10_rowsIn_43 (by decide) ?_
            refine zv_goto (tgt := 48) G dX10_rowsIn_44 (by decide) ?_
            refine zv_callSi (as := [za_I 1]) G (zc_X10_flag l E (1 : Int32) σ ) zk_X10_flag zm_1351 rfl ⟨(Nat.le_of_ble_eq_true rfl), (Nat.le_of_ble_eq_true rfl)⟩ ⟨Nat.zero_le _, Nat.zero_le _⟩ (Nat.le_of_ble_eq_true rfl) dX10_rowsIn_48 (fun r_48 σ h_48 => ?_)
            obtain ⟨h_48, rfl⟩ := h_48
            refine zv_iadd G dX10_rowsIn_51 ?_
            refine zv_top (fun x_52 e_52 => ?_)
            refine zv_istore (lv' := [(5, za_I x_52), (0, za_O 22 q), (1, za_I t), (2, za_I k), (3, za_I fd), (4, za_I td), (6, za_I y6_6)]) G dX10_rowsIn_52 (by decide) rfl ?_
            obtain ⟨x_54, e_54⟩ : ∃ y : Int32, y = y6_6 + 1 := ⟨_, rfl⟩
            refine zv_iinc (j := 6) (v := x_54) (lv' := [(6, za_I x_54), (5, za_I x_52), (0, za_O 22 q), (1, za_I t), (2, za_I k), (3, za_I fd), (4, za_I td)]) G dX10_rowsIn_54 rfl (by rw [e_54]; rfl) (by decide) rfl ?_
            refine zv_goto (tgt := 6) G dX10_rowsIn_57 (by decide) ?_
            refine zv_sub [2, 3, 4, 5, 6, 1, 0] (lv' := [(0, za_O 22 q), (1, za_I t), (2, za_I k), (3, za_I fd), (4, za_I td), (5, za_I x_52), (6, za_I x_54)]) rfl ?_
            exact ih_6 x_52 x_54 (z_meas c_10 e_54 hn_6)
          refine zv_icmp_eq (tgt := 43) G dX10_rowsIn_29 (by decide) (fun c_29 => ?_) (fun c_29 => ?_)
          · refine zv_sub [0, 1, 2, 3, 4, 6] (lv' := [(0, za_O 22 q), (1, za_I t), (2, za_I k), (3, za_I fd), (4, za_I td), (6, za_I y6_6)]) rfl ?_
            exact J_43
          · refine zv_aload_n (j := 0) G dX10_rowsIn_32 rfl rfl ?_
            refine zv_iload_n (j := 1) G dX10_rowsIn_33 rfl rfl ?_
            refine zv_iload_n (j := 2) G dX10_rowsIn_34 rfl rfl ?_
            refine zv_iload (j := 6) G dX10_rowsIn_35 rfl ?_
            refine zv_callSi (as := [za_O 22 q, za_I t, za_I k, za_I y6_6]) G (zc_X10_begins l E q t k y6_6 σ (by first | assumption | decide | omega) (by first | assumption | decide | omega)) zk_X10_begins zm_1317 rfl ⟨(Nat.le_of_ble_eq_true rfl), (Nat.le_of_ble_eq_true rfl)⟩ ⟨Nat.zero_le _, Nat.zero_le _⟩ (Nat.le_of_ble_eq_true rfl) dX10_rowsIn_37 (fun r_37 σ h_37 => ?_)
            obtain ⟨h_37, rfl⟩ := h_37
            refine zv_if_eq (tgt := 47) G dX10_rowsIn_40 (by decide) (fun c_40 => ?_) (fun c_40 => ?_)
            · have f_37 := fun q9 => (h_37.2.mpr q9) c_40
              refine zv_iconst (v := 0) G dX10_rowsIn_47 (by decide) ?_
              refine zv_callSi (as := [za_I 0]) G (zc_X10_flag l E (0 : Int32) σ ) zk_X10_flag zm_1351 rfl ⟨(Nat.le_of_ble_eq_true rfl), (Nat.le_of_ble_eq_true rfl)⟩ ⟨Nat.zero_le _, Nat.zero_le _⟩ (Nat.le_of_ble_eq_true rfl) dX10_rowsIn_48 (fun r_48 σ h_48 => ?_)
              obtain ⟨h_48, rfl⟩ := h_48
              refine zv_iadd G dX10_rowsIn_51 ?_
              refine zv_top (fun x_52 e_52 => ?_)
              refine zv_istore (lv' := [(5, za_I x_52), (0, za_O 22 q), (1, za_I t), (2, za_I k), (3, za_I fd), (4, za_I td), (6, za_I y6_6)]) G dX10_rowsIn_52 (by decide) rfl ?_
              obtain ⟨x_54, e_54⟩ : ∃ y : Int32, y = y6_6 + 1 := ⟨_, rfl⟩
              refine zv_iinc (j := 6) (v := x_54) (lv' := [(6, za_I x_54), (5, za_I x_52), (0, za_O 22 q), (1, za_I t), (2, za_I k), (3, za_I fd), (4, za_I td)]) G dX10_rowsIn_54 rfl (by rw [e_54]; rfl) (by decide) rfl ?_
              refine zv_goto (tgt := 6) G dX10_rowsIn_57 (by decide) ?_
              refine zv_sub [2, 3, 4, 5, 6, 1, 0] (lv' := [(0, za_O 22 q), (1, za_I t), (2, za_I k), (3, za_I fd), (4, za_I td), (5, za_I x_52), (6, za_I x_54)]) rfl ?_
              exact ih_6 x_52 x_54 (z_meas c_10 e_54 hn_6)
            · have t_37 := h_37.2.mp c_40
              refine zv_sub [0, 1, 2, 3, 4, 6] (lv' := [(0, za_O 22 q), (1, za_I t), (2, za_I k), (3, za_I fd), (4, za_I td), (6, za_I y6_6)]) rfl ?_
              exact J_43
  refine zv_istore (lv' := [(6, za_I fd), (5, za_I 0), (0, za_O 22 q), (1, za_I t), (2, za_I k), (3, za_I fd), (4, za_I td)]) G dX10_rowsIn_4 (by decide) rfl ?_
  refine zv_sub [2, 3, 4, 5, 6, 1, 0] (lv' := [(0, za_O 22 q), (1, za_I t), (2, za_I k), (3, za_I fd), (4, za_I td), (5, za_I 0), (6, za_I fd)]) rfl ?_
  exact J_6 _ (0 : Int32) fd (Nat.lt_succ_self _)
set_option maxHeartbeats 4000000 in
set_option maxRecDepth 100000 in
theorem zc_X10_numberOf (l : Launch) (E : za_E) (q : Nat) (t : Int32) (k : Int32) (d : Int32) (σ : za_S) (ht : 0 ≤ t.toInt ∧ t.toInt ≤ 1) (hk : 0 ≤ k.toInt ∧ k.toInt ≤ 9) : zMi l E yX10_numberOf cX10_numberOf 7 (Option.some Jvm.ClassFile.FieldType.int) 5 112 [za_O 22 q, za_I t, za_I k, za_I d] σ (fun r σ' => σ' = σ) := by
  refine zMi_of [(0, za_O 22 q), (1, za_I t), (2, za_I k), (3, za_I d)] (by decide) rfl rfl (Nat.le_of_ble_eq_true rfl) ?_
  intro ho p e s m args below meth c G hr
  have h_q : za_kd q = 22 := za_okO (by decide) (List.forall_mem_cons.mp ho).1
  refine zv_iconst (v := 0) G dX10_numberOf_0 (by decide) ?_
  refine zv_istore (lv' := [(4, za_I 0), (0, za_O 22 q), (1, za_I t), (2, za_I k), (3, za_I d)]) G dX10_numberOf_1 (by decide) rfl ?_
  refine zv_iconst (v := 0) G dX10_numberOf_3 (by decide) ?_
  have J_6 : ∀ (n : Nat) (y4_6 : Int32) (y5_6 : Int32) (l_6 : y5_6.toInt ≤ 10) (i5_6 : 0 ≤ y5_6.toInt) (hn_6 : (10 - y5_6.toInt).toNat < n), zV p l e (zRm 5 112) s m args below meth c E (za_A E) 7 0 0 (MQ below (va_Qi (fun r σ' => σ' = σ) (zB E) (za_A E)) args s 0 0 (za_A E)) 6 [(0, za_O 22 q), (1, za_I t), (2, za_I k), (3, za_I d), (4, za_I y4_6), (5, za_I y5_6)] [] σ := by
    intro n
    induction n with
    | zero => intro y4_6 y5_6 l_6 i5_6 hn; exact absurd hn (Nat.not_lt_zero _)
    | succ n ih_6 =>
      intro y4_6 y5_6 l_6 i5_6 hn_6
      refine zv_iload (j := 5) G dX10_numberOf_6 rfl ?_
      refine zv_iload_n (j := 2) G dX10_numberOf_8 rfl rfl ?_
      refine zv_icmp_gt (tgt := 71) G dX10_numberOf_9 (by decide) (fun c_9 => ?_) (fun c_9 => ?_)
      · refine zv_iload (j := 4) G dX10_numberOf_71 rfl ?_
        exact zv_iret G hr dX10_numberOf_73 rfl
      · have kb_9 : 0 ≤ y5_6.toInt ∧ y5_6.toInt ≤ 9 := by rw [z_lt] at c_9; omega
        refine zv_iconst (v := 0) G dX10_numberOf_12 (by decide) ?_
        have J_15 : ∀ (n : Nat) (y4_15 : Int32) (y6_15 : Int32) (i6_15 : 0 ≤ y6_15.toInt) (hn_15 : (2147483648 - y6_15.toInt).toNat < n), zV p l e (zRm 5 112) s m args below meth c E (za_A E) 7 0 0 (MQ below (va_Qi (fun r σ' => σ' = σ) (zB E) (za_A E)) args s 0 0 (za_A E)) 15 [(0, za_O 22 q), (1, za_I t), (2, za_I k), (3, za_I d), (4, za_I y4_15), (5, za_I y5_6), (6, za_I y6_15)] [] σ := by
          intro n
          induction n with
          | zero => intro y4_15 y6_15 i6_15 hn; exact absurd hn (Nat.not_lt_zero _)
          | succ n ih_15 =>
            intro y4_15 y6_15 i6_15 hn_15
            refine zv_iload (j := 6) G dX10_numberOf_15 rfl ?_
            refine zv_bipush (v := 100) G dX10_numberOf_17 (by decide) ?_
            refine zv_icmp_ge (tgt := 65) G dX10_numberOf_19 (by decide) (fun c_19 => ?_) (fun c_19 => ?_)
            · obtain ⟨x_65, e_65⟩ : ∃ y : Int32, y = y5_6 + 1 := ⟨_, rfl⟩
              refine zv_iinc (j := 5) (v := x_65) (lv' := [(5, za_I x_65), (0, za_O 22 q), (1, za_I t), (2, za_I k), (3, za_I d), (4, za_I y4_15), (6, za_I y6_15)]) G dX10_numberOf_65 rfl (by rw [e_65]; rfl) (by decide) rfl ?_
              refine zv_goto (tgt := 6) G dX10_numberOf_68 (by decide) ?_
              refine zv_sub [1, 2, 3, 4, 5, 0] (lv' := [(0, za_O 22 q), (1, za_I t), (2, za_I k), (3, za_I d), (4, za_I y4_15), (5, za_I x_65)]) rfl ?_
              exact ih_6 y4_15 x_65 (by have h9 := z_inc9 (by omega) e_65; rw [z_lt] at c_9; omega) (by have h9 := z_inc9 (by omega) e_65; omega) (by have h9 := z_inc9 (by omega) e_65; rw [z_lt] at c_9; omega)
            · have b_19 : 0 ≤ y6_15.toInt ∧ y6_15.toInt < 100 := ⟨i6_15, z_ltk c_19 rfl⟩
              refine zv_iload (j := 4) G dX10_numberOf_22 rfl ?_
              refine zv_iload (j := 5) G dX10_numberOf_24 rfl ?_
              refine zv_iload_n (j := 2) G dX10_numberOf_26 rfl rfl ?_
              have J_36 : zV p l e (zRm 5 112) s m args below meth c E (za_A E) 7 0 0 (MQ below (va_Qi (fun r σ' => σ' = σ) (zB E) (za_A E)) args s 0 0 (za_A E)) 36 [(0, za_O 22 q), (1, za_I t), (2, za_I k), (3, za_I d), (5, za_I y5_6), (6, za_I y6_15)] [za_I y4_15] σ := by
                refine zv_aload_n (j := 0) G dX10_numberOf_36 rfl rfl ?_
                refine zv_iload_n (j := 1) G dX10_numberOf_37 rfl rfl ?_
                refine zv_iload (j := 4) G dX10_numberOf_38 rfl ?_
                refine zv_iload (j := 5) G dX10_numberOf_40 rfl ?_
                refine zv_callSi (as := [za_O 22 q, za_I t, za_I y5_6, za_I y6_15]) G (zc_X10_begins l E q t y5_6 y6_15 σ (by first | assumption | decide | omega) (by first | assumption | decide | omega)) zk_X10_begins zm_1317 rfl ⟨(Nat.le_of_ble_eq_true rfl), (Nat.le_of_ble_eq_true rfl)⟩ ⟨Nat.zero_le _, Nat.zero_le _⟩ (Nat.le_of_ble_eq_true rfl) dX10_numberOf_42 (fun r_42 σ h_42 => ?_)
                obtain ⟨h_42, rfl⟩ := h_42
                refine zv_if_eq (tgt := 52) G dX10_numberOf_45 (by decide) (fun c_45 => ?_) (fun c_45 => ?_)
                · have f_42 := fun q9 => (h_42.2.mpr q9) c_45
                  refine zv_iconst (v := 0) G dX10_numberOf_52 (by decide) ?_
                  refine zv_callSi (as := [za_I 0]) G (zc_X10_flag l E (0 : Int32) σ ) zk_X10_flag zm_1351 rfl ⟨(Nat.le_of_ble_eq_true rfl), (Nat.le_of_ble_eq_true rfl)⟩ ⟨Nat.zero_le _, Nat.zero_le _⟩ (Nat.le_of_ble_eq_true rfl) dX10_numberOf_53 (fun r_53 σ h_53 => ?_)
                  obtain ⟨h_53, rfl⟩ := h_53
                  refine zv_iadd G dX10_numberOf_56 ?_
                  refine zv_top (fun x_57 e_57 => ?_)
                  refine zv_istore (lv' := [(4, za_I x_57), (0, za_O 22 q), (1, za_I t), (2, za_I k), (3, za_I d), (5, za_I y5_6), (6, za_I y6_15)]) G dX10_numberOf_57 (by decide) rfl ?_
                  obtain ⟨x_59, e_59⟩ : ∃ y : Int32, y = y6_15 + 1 := ⟨_, rfl⟩
                  refine zv_iinc (j := 6) (v := x_59) (lv' := [(6, za_I x_59), (4, za_I x_57), (0, za_O 22 q), (1, za_I t), (2, za_I k), (3, za_I d), (5, za_I y5_6)]) G dX10_numberOf_59 rfl (by rw [e_59]; rfl) (by decide) rfl ?_
                  refine zv_goto (tgt := 15) G dX10_numberOf_62 (by decide) ?_
                  refine zv_sub [2, 3, 4, 5, 1, 6, 0] (lv' := [(0, za_O 22 q), (1, za_I t), (2, za_I k), (3, za_I d), (4, za_I x_57), (5, za_I y5_6), (6, za_I x_59)]) rfl ?_
                  exact ih_15 x_57 x_59 (by have := z_inc c_19 e_59; omega) (z_meas c_19 e_59 hn_15)
                · have t_42 := h_42.2.mp c_45
                  refine zv_iconst (v := 1) G dX10_numberOf_48 (by decide) ?_
                  refine zv_goto (tgt := 53) G dX10_numberOf_49 (by decide) ?_
                  refine zv_callSi (as := [za_I 1]) G (zc_X10_flag l E (1 : Int32) σ ) zk_X10_flag zm_1351 rfl ⟨(Nat.le_of_ble_eq_true rfl), (Nat.le_of_ble_eq_true rfl)⟩ ⟨Nat.zero_le _, Nat.zero_le _⟩ (Nat.le_of_ble_eq_true rfl) dX10_numberOf_53 (fun r_53 σ h_53 => ?_)
                  obtain ⟨h_53, rfl⟩ := h_53
                  refine zv_iadd G dX10_numberOf_56 ?_
                  refine zv_top (fun x_57 e_57 => ?_)
                  refine zv_istore (lv' := [(4, za_I x_57), (0, za_O 22 q), (1, za_I t), (2, za_I k), (3, za_I d), (5, za_I y5_6), (6, za_I y6_15)]) G dX10_numberOf_57 (by decide) rfl ?_
                  obtain ⟨x_59, e_59⟩ : ∃ y : Int32, y = y6_15 + 1 := ⟨_, rfl⟩
                  refine zv_iinc (j := 6) (v := x_59) (lv' := [(6, za_I x_59), (4, za_I x_57), (0, za_O 22 q), (1, za_I t), (2, za_I k), (3, za_I d), (5, za_I y5_6)]) G dX10_numberOf_59 rfl (by rw [e_59]; rfl) (by decide) rfl ?_
                  refine zv_goto (tgt := 15) G dX10_numberOf_62 (by decide) ?_
                  refine zv_sub [2, 3, 4, 5, 1, 6, 0] (lv' := [(0, za_O 22 q), (1, za_I t), (2, za_I k), (3, za_I d), (4, za_I x_57), (5, za_I y5_6), (6, za_I x_59)]) rfl ?_
                  exact ih_15 x_57 x_59 (by have := z_inc c_19 e_59; omega) (z_meas c_19 e_59 hn_15)
              refine zv_icmp_lt (tgt := 36) G dX10_numberOf_27 (by decide) (fun c_27 => ?_) (fun c_27 => ?_)
              · refine zv_sub [0, 1, 2, 3, 5, 6] (lv' := [(0, za_O 22 q), (1, za_I t), (2, za_I k), (3, za_I d), (5, za_I y5_6), (6, za_I y6_15)]) rfl ?_
                exact J_36
              · refine zv_iload (j := 6) G dX10_numberOf_30 rfl ?_
                refine zv_iload_n (j := 3) G dX10_numberOf_32 rfl rfl ?_
                refine zv_icmp_ge (tgt := 52) G dX10_numberOf_33 (by decide) (fun c_33 => ?_) (fun c_33 => ?_)
                · refine zv_iconst (v := 0) G dX10_numberOf_52 (by decide) ?_
                  refine zv_callSi (as := [za_I 0]) G (zc_X10_flag l E (0 : Int32) σ ) zk_X10_flag zm_1351 rfl ⟨(Nat.le_of_ble_eq_true rfl), (Nat.le_of_ble_eq_true rfl)⟩ ⟨Nat.zero_le _, Nat.zero_le _⟩ (Nat.le_of_ble_eq_true rfl) dX10_numberOf_53 (fun r_53 σ h_53 => ?_)
                  obtain ⟨h_53, rfl⟩ := h_53
                  refine zv_iadd G dX10_numberOf_56 ?_
                  refine zv_top (fun x_57 e_57 => ?_)
                  refine zv_istore (lv' := [(4, za_I x_57), (0, za_O 22 q), (1, za_I t), (2, za_I k), (3, za_I d), (5, za_I y5_6), (6, za_I y6_15)]) G dX10_numberOf_57 (by decide) rfl ?_
                  obtain ⟨x_59, e_59⟩ : ∃ y : Int32, y = y6_15 + 1 := ⟨_, rfl⟩
                  refine zv_iinc (j := 6) (v := x_59) (lv' := [(6, za_I x_59), (4, za_I x_57), (0, za_O 22 q), (1, za_I t), (2, za_I k), (3, za_I d), (5, za_I y5_6)]) G dX10_numberOf_59 rfl (by rw [e_59]; rfl) (by decide) rfl ?_
                  refine zv_goto (tgt := 15) G dX10_numberOf_62 (by decide) ?_
                  refine zv_sub [2, 3, 4, 5, 1, 6, 0] (lv' := [(0, za_O 22 q), (1, za_I t), (2, za_I k), (3, za_I d), (4, za_I x_57), (5, za_I y5_6), (6, za_I x_59)]) rfl ?_
                  exact ih_15 x_57 x_59 (by have := z_inc c_19 e_59; omega) (z_meas c_19 e_59 hn_15)
                · refine zv_sub [0, 1, 2, 3, 5, 6] (lv' := [(0, za_O 22 q), (1, za_I t), (2, za_I k), (3, za_I d), (5, za_I y5_6), (6, za_I y6_15)]) rfl ?_
                  exact J_36
        refine zv_istore (lv' := [(6, za_I 0), (0, za_O 22 q), (1, za_I t), (2, za_I k), (3, za_I d), (4, za_I y4_6), (5, za_I y5_6)]) G dX10_numberOf_13 (by decide) rfl ?_
        refine zv_sub [1, 2, 3, 4, 5, 6, 0] (lv' := [(0, za_O 22 q), (1, za_I t), (2, za_I k), (3, za_I d), (4, za_I y4_6), (5, za_I y5_6), (6, za_I 0)]) rfl ?_
        exact J_15 _ y4_6 (0 : Int32) (by decide) (Nat.lt_succ_self _)
  refine zv_istore (lv' := [(5, za_I 0), (4, za_I 0), (0, za_O 22 q), (1, za_I t), (2, za_I k), (3, za_I d)]) G dX10_numberOf_4 (by decide) rfl ?_
  refine zv_sub [2, 3, 4, 5, 1, 0] (lv' := [(0, za_O 22 q), (1, za_I t), (2, za_I k), (3, za_I d), (4, za_I 0), (5, za_I 0)]) rfl ?_
  exact J_6 _ (0 : Int32) (0 : Int32) (by decide) (by decide) (Nat.lt_succ_self _)
set_option maxHeartbeats 4000000 in
set_option maxRecDepth 100000 in
theorem zc_X10_isHeld (l : Launch) (E : za_E) (q : Nat) (σ : za_S)  : zMi l E yX10_isHeld cX10_isHeld 4 (Option.some Jvm.ClassFile.FieldType.boolean) 4 89 [za_O 22 q] σ (fun r σ' => (r = 0 ∨ r = 1) ∧ σ' = σ) := by
  refine zMi_of [(0, za_O 22 q)] (by decide) rfl rfl (Nat.le_of_ble_eq_true rfl) ?_
  intro ho p e s m args below meth c G hr
  have h_q : za_kd q = 22 := za_okO (by decide) (List.forall_mem_cons.mp ho).1
  refine zv_iconst (v := 1) G dX10_isHeld_0 (by decide) ?_
  refine zv_istore_n (lv' := [(1, za_I 1), (0, za_O 22 q)]) G dX10_isHeld_1 rfl (by decide) rfl ?_
  refine zv_iconst (v := 0) G dX10_isHeld_2 (by decide) ?_
  have J_4 : ∀ (n : Nat) (y1_4 : Int32) (y2_4 : Int32) (b1_4 : y1_4 = 0 ∨ y1_4 = 1) (i2_4 : 0 ≤ y2_4.toInt) (hn_4 : (2147483648 - y2_4.toInt).toNat < n), zV p l e (zRm 4 89) s m args below meth c E (za_A E) 4 0 0 (MQ below (va_Qi (fun r σ' => (r = 0 ∨ r = 1) ∧ σ' = σ) (zB E) (za_A E)) args s 0 0 (za_A E)) 4 [(0, za_O 22 q), (1, za_I y1_4), (2, za_I y2_4)] [] σ := by
    intro n
    induction n with
    | zero => intro y1_4 y2_4 b1_4 i2_4 hn; exact absurd hn (Nat.not_lt_zero _)
    | succ n ih_4 =>
      intro y1_4 y2_4 b1_4 i2_4 hn_4
      refine zv_iload_n (j := 2) G dX10_isHeld_4 rfl rfl ?_
      refine zv_bipush (v := 10) G dX10_isHeld_5 (by decide) ?_
      refine zv_icmp_ge (tgt := 78) G dX10_isHeld_7 (by decide) (fun c_7 => ?_) (fun c_7 => ?_)
      · refine zv_iload_n (j := 1) G dX10_isHeld_78 rfl rfl ?_
        exact zv_zret G hr dX10_isHeld_79 (z_nar b1_4) ⟨b1_4, rfl⟩
      · have b_7 : 0 ≤ y2_4.toInt ∧ y2_4.toInt < 10 := ⟨i2_4, z_ltk c_7 rfl⟩
        refine zv_iconst (v := 0) G dX10_isHeld_10 (by decide) ?_
        have J_12 : ∀ (n : Nat) (y1_12 : Int32) (y3_12 : Int32) (b1_12 : y1_12 = 0 ∨ y1_12 = 1) (i3_12 : 0 ≤ y3_12.toInt) (hn_12 : (2147483648 - y3_12.toInt).toNat < n), zV p l e (zRm 4 89) s m args below meth c E (za_A E) 4 0 0 (MQ below (va_Qi (fun r σ' => (r = 0 ∨ r = 1) ∧ σ' = σ) (zB E) (za_A E)) args s 0 0 (za_A E)) 12 [(0, za_O 22 q), (1, za_I y1_12), (2, za_I y2_4), (3, za_I y3_12)] [] σ := by
          intro n
          induction n with
          | zero => intro y1_12 y3_12 b1_12 i3_12 hn; exact absurd hn (Nat.not_lt_zero _)
          | succ n ih_12 =>
            intro y1_12 y3_12 b1_12 i3_12 hn_12
            refine zv_iload_n (j := 3) G dX10_isHeld_12 rfl rfl ?_
            refine zv_bipush (v := 100) G dX10_isHeld_13 (by decide) ?_
            refine zv_icmp_ge (tgt := 72) G dX10_isHeld_15 (by decide) (fun c_15 => ?_) (fun c_15 => ?_)
            · obtain ⟨x_72, e_72⟩ : ∃ y : Int32, y = y2_4 + 1 := ⟨_, rfl⟩
              refine zv_iinc (j := 2) (v := x_72) (lv' := [(2, za_I x_72), (0, za_O 22 q), (1, za_I y1_12), (3, za_I y3_12)]) G dX10_isHeld_72 rfl (by rw [e_72]; rfl) (by decide) rfl ?_
              refine zv_goto (tgt := 4) G dX10_isHeld_75 (by decide) ?_
              refine zv_sub [1, 2, 0] (lv' := [(0, za_O 22 q), (1, za_I y1_12), (2, za_I x_72)]) rfl ?_
              exact ih_4 y1_12 x_72 b1_12 (by have := z_inc c_7 e_72; omega) (z_meas c_7 e_72 hn_4)
            · have b_15 : 0 ≤ y3_12.toInt ∧ y3_12.toInt < 100 := ⟨i3_12, z_ltk c_15 rfl⟩
              refine zv_iload_n (j := 1) G dX10_isHeld_18 rfl rfl ?_
              refine zv_if_eq (tgt := 64) G dX10_isHeld_19 (by decide) (fun c_19 => ?_) (fun c_19 => ?_)
              · refine zv_iconst (v := 0) G dX10_isHeld_64 (by decide) ?_
                refine zv_istore_n (lv' := [(1, za_I 0), (0, za_O 22 q), (2, za_I y2_4), (3, za_I y3_12)]) G dX10_isHeld_65 rfl (by decide) rfl ?_
                obtain ⟨x_66, e_66⟩ : ∃ y : Int32, y = y3_12 + 1 := ⟨_, rfl⟩
                refine zv_iinc (j := 3) (v := x_66) (lv' := [(3, za_I x_66), (1, za_I 0), (0, za_O 22 q), (2, za_I y2_4)]) G dX10_isHeld_66 rfl (by rw [e_66]; rfl) (by decide) rfl ?_
                refine zv_goto (tgt := 12) G dX10_isHeld_69 (by decide) ?_
                refine zv_sub [2, 1, 3, 0] (lv' := [(0, za_O 22 q), (1, za_I 0), (2, za_I y2_4), (3, za_I x_66)]) rfl ?_
                exact ih_12 (0 : Int32) x_66 (Or.inl rfl) (by have := z_inc c_15 e_66; omega) (z_meas c_15 e_66 hn_12)
              · refine zv_aload_n (j := 0) G dX10_isHeld_22 rfl rfl ?_
                refine zv_iconst (v := 0) G dX10_isHeld_23 (by decide) ?_
                refine zv_iload_n (j := 2) G dX10_isHeld_24 rfl rfl ?_
                refine zv_iload_n (j := 3) G dX10_isHeld_25 rfl rfl ?_
                refine zv_callSi (as := [za_O 22 q, za_I 0, za_I y2_4, za_I y3_12]) G (zc_X10_isThere l E q (0 : Int32) y2_4 y3_12 σ (by first | assumption | decide | omega) (by first | assumption | decide | omega)) zk_X10_isThere zm_1320 rfl ⟨(Nat.le_of_ble_eq_true rfl), (Nat.le_of_ble_eq_true rfl)⟩ ⟨Nat.zero_le _, Nat.zero_le _⟩ (Nat.le_of_ble_eq_true rfl) dX10_isHeld_26 (fun r_26 σ h_26 => ?_)
                obtain ⟨h_26, rfl⟩ := h_26
                refine zv_if_eq (tgt := 60) G dX10_isHeld_29 (by decide) (fun c_29 => ?_) (fun c_29 => ?_)
                · have f_26 := fun q9 => (h_26.2.mpr q9) c_29
                  refine zv_iconst (v := 1) G dX10_isHeld_60 (by decide) ?_
                  refine zv_goto (tgt := 65) G dX10_isHeld_61 (by decide) ?_
                  refine zv_istore_n (lv' := [(1, za_I 1), (0, za_O 22 q), (2, za_I y2_4), (3, za_I y3_12)]) G dX10_isHeld_65 rfl (by decide) rfl ?_
                  obtain ⟨x_66, e_66⟩ : ∃ y : Int32, y = y3_12 + 1 := ⟨_, rfl⟩
                  refine zv_iinc (j := 3) (v := x_66) (lv' := [(3, za_I x_66), (1, za_I 1), (0, za_O 22 q), (2, za_I y2_4)]) G dX10_isHeld_66 rfl (by rw [e_66]; rfl) (by decide) rfl ?_
                  refine zv_goto (tgt := 12) G dX10_isHeld_69 (by decide) ?_
                  refine zv_sub [2, 1, 3, 0] (lv' := [(0, za_O 22 q), (1, za_I 1), (2, za_I y2_4), (3, za_I x_66)]) rfl ?_
                  exact ih_12 (1 : Int32) x_66 (Or.inr rfl) (by have := z_inc c_15 e_66; omega) (z_meas c_15 e_66 hn_12)
                · have t_26 := h_26.2.mp c_29
                  refine zv_aload_n (j := 0) G dX10_isHeld_32 rfl rfl ?_
                  refine zv_iconst (v := 0) G dX10_isHeld_33 (by decide) ?_
                  refine zv_iload_n (j := 2) G dX10_isHeld_34 rfl rfl ?_
                  refine zv_iload_n (j := 3) G dX10_isHeld_35 rfl rfl ?_
                  refine zv_callSi (as := [za_O 22 q, za_I 0, za_I y2_4, za_I y3_12]) G (zc_X10_refOn l E q (0 : Int32) y2_4 y3_12 σ (by first | assumption | decide | omega) (by first | assumption | decide | omega) (by first | assumption | decide | omega)) zk_X10_refOn zm_1340 rfl ⟨(Nat.le_of_ble_eq_true rfl), (Nat.le_of_ble_eq_true rfl)⟩ ⟨Nat.zero_le _, Nat.zero_le _⟩ (Nat.le_of_ble_eq_true rfl) dX10_isHeld_36 (fun r_36 σ h_36 => ?_)
                  obtain ⟨h_36, rfl⟩ := h_36
                  refine zv_bipush (v := 10) G dX10_isHeld_39 (by decide) ?_
                  refine zv_icmp_eq (tgt := 60) G dX10_isHeld_41 (by decide) (fun c_41 => ?_) (fun c_41 => ?_)
                  · refine zv_iconst (v := 1) G dX10_isHeld_60 (by decide) ?_
                    refine zv_goto (tgt := 65) G dX10_isHeld_61 (by decide) ?_
                    refine zv_istore_n (lv' := [(1, za_I 1), (0, za_O 22 q), (2, za_I y2_4), (3, za_I y3_12)]) G dX10_isHeld_65 rfl (by decide) rfl ?_
                    obtain ⟨x_66, e_66⟩ : ∃ y : Int32, y = y3_12 + 1 := ⟨_, rfl⟩
                    refine zv_iinc (j := 3) (v := x_66) (lv' := [(3, za_I x_66), (1, za_I 1), (0, za_O 22 q), (2, za_I y2_4)]) G dX10_isHeld_66 rfl (by rw [e_66]; rfl) (by decide) rfl ?_
                    refine zv_goto (tgt := 12) G dX10_isHeld_69 (by decide) ?_
                    refine zv_sub [2, 1, 3, 0] (lv' := [(0, za_O 22 q), (1, za_I 1), (2, za_I y2_4), (3, za_I x_66)]) rfl ?_
                    exact ih_12 (1 : Int32) x_66 (Or.inr rfl) (by have := z_inc c_15 e_66; omega) (z_meas c_15 e_66 hn_12)
                  · refine zv_aload_n (j := 0) G dX10_isHeld_44 rfl rfl ?_
                    refine zv_iconst (v := 1) G dX10_isHeld_45 (by decide) ?_
                    refine zv_aload_n (j := 0) G dX10_isHeld_46 rfl rfl ?_
                    refine zv_iconst (v := 0) G dX10_isHeld_47 (by decide) ?_
                    refine zv_iload_n (j := 2) G dX10_isHeld_48 rfl rfl ?_
                    refine zv_iload_n (j := 3) G dX10_isHeld_49 rfl rfl ?_
                    refine zv_callSi (as := [za_O 22 q, za_I 0, za_I y2_4, za_I y3_12]) G (zc_X10_refOn l E q (0 : Int32) y2_4 y3_12 σ (by first | assumption | decide | omega) (by first | assumption | decide | omega) (by first | assumption | decide | omega)) zk_X10_refOn zm_1340 rfl ⟨(Nat.le_of_ble_eq_true rfl), (Nat.le_of_ble_eq_true rfl)⟩ ⟨Nat.zero_le _, Nat.zero_le _⟩ (Nat.le_of_ble_eq_true rfl) dX10_isHeld_50 (fun r_50 σ h_50 => ?_)
                    obtain ⟨h_50, rfl⟩ := h_50
                    refine zv_iload_n (j := 3) G dX10_isHeld_53 rfl rfl ?_
                    refine zv_callSi (as := [za_O 22 q, za_I 1, za_I r_50, za_I y3_12]) G (zc_X10_isThere l E q (1 : Int32) r_50 y3_12 σ (by decide) (z_rf9 t_26.2 h_50 (fun e9 => c_41 (by rw [h_36, ← h_50]; exact e9)))) zk_X10_isThere zm_1320 rfl ⟨(Nat.le_of_ble_eq_true rfl), (Nat.le_of_ble_eq_true rfl)⟩ ⟨Nat.zero_le _, Nat.zero_le _⟩ (Nat.le_of_ble_eq_true rfl) dX10_isHeld_54 (fun r_54 σ h_54 => ?_)
                    obtain ⟨h_54, rfl⟩ := h_54
                    refine zv_if_eq (tgt := 64) G dX10_isHeld_57 (by decide) (fun c_57 => ?_) (fun c_57 => ?_)
                    · have f_54 := fun q9 => (h_54.2.mpr q9) c_57
                      refine zv_iconst (v := 0) G dX10_isHeld_64 (by decide) ?_
                      refine zv_istore_n (lv' := [(1, za_I 0), (0, za_O 22 q), (2, za_I y2_4), (3, za_I y3_12)]) G dX10_isHeld_65 rfl (by decide) rfl ?_
                      obtain ⟨x_66, e_66⟩ : ∃ y : Int32, y = y3_12 + 1 := ⟨_, rfl⟩
                      refine zv_iinc (j := 3) (v := x_66) (lv' := [(3, za_I x_66), (1, za_I 0), (0, za_O 22 q), (2, za_I y2_4)]) G dX10_isHeld_66 rfl (by rw [e_66]; rfl) (by decide) rfl ?_
                      refine zv_goto (tgt := 12) G dX10_isHeld_69 (by decide) ?_
                      refine zv_sub [2, 1, 3, 0] (lv' := [(0, za_O 22 q), (1, za_I 0), (2, za_I y2_4), (3, za_I x_66)]) rfl ?_
                      exact ih_12 (0 : Int32) x_66 (Or.inl rfl) (by have := z_inc c_15 e_66; omega) (z_meas c_15 e_66 hn_12)
                    · have t_54 := h_54.2.mp c_57
                      refine zv_iconst (v := 1) G dX10_isHeld_60 (by decide) ?_
                      refine zv_goto (tgt := 65) G dX10_isHeld_61 (by decide) ?_
                      refine zv_istore_n (lv' := [(1, za_I 1), (0, za_O 22 q), (2, za_I y2_4), (3, za_I y3_12)]) G dX10_isHeld_65 rfl (by decide) rfl ?_
                      obtain ⟨x_66, e_66⟩ : ∃ y : Int32, y = y3_12 + 1 := ⟨_, rfl⟩
                      refine zv_iinc (j := 3) (v := x_66) (lv' := [(3, za_I x_66), (1, za_I 1), (0, za_O 22 q), (2, za_I y2_4)]) G dX10_isHeld_66 rfl (by rw [e_66]; rfl) (by decide) rfl ?_
                      refine zv_goto (tgt := 12) G dX10_isHeld_69 (by decide) ?_
                      refine zv_sub [2, 1, 3, 0] (lv' := [(0, za_O 22 q), (1, za_I 1), (2, za_I y2_4), (3, za_I x_66)]) rfl ?_
                      exact ih_12 (1 : Int32) x_66 (Or.inr rfl) (by have := z_inc c_15 e_66; omega) (z_meas c_15 e_66 hn_12)
        refine zv_istore_n (lv' := [(3, za_I 0), (0, za_O 22 q), (1, za_I y1_4), (2, za_I y2_4)]) G dX10_isHeld_11 rfl (by decide) rfl ?_
        refine zv_sub [1, 2, 3, 0] (lv' := [(0, za_O 22 q), (1, za_I y1_4), (2, za_I y2_4), (3, za_I 0)]) rfl ?_
        exact J_12 _ y1_4 (0 : Int32) b1_4 (by decide) (Nat.lt_succ_self _)
  refine zv_istore_n (lv' := [(2, za_I 0), (1, za_I 1), (0, za_O 22 q)]) G dX10_isHeld_3 rfl (by decide) rfl ?_
  refine zv_sub [2, 1, 0] (lv' := [(0, za_O 22 q), (1, za_I 1), (2, za_I 0)]) rfl ?_
  exact J_4 _ (1 : Int32) (0 : Int32) (Or.inr rfl) (by decide) (Nat.lt_succ_self _)
set_option maxHeartbeats 4000000 in
set_option maxRecDepth 100000 in
theorem zc_X10_copiesTo (l : Launch) (E : za_E) (q : Nat) (w9 : Nat) (σ0 : za_S)  : zMv l E yX10_copiesTo cX10_copiesTo 3 (Option.none : Option Jvm.ClassFile.FieldType) 1 21 [za_O 22 q, za_O 22 w9] σ0 (fun σ' => σ' = zcp σ0 q w9 2001) := by
  refine zMv_of [(0, za_O 22 q), (1, za_O 22 w9)] (by decide) rfl rfl (Nat.le_of_ble_eq_true rfl) ?_
  intro ho p e s m args below meth c G hr
  have h_q : za_kd q = 22 := za_okO (by decide) (List.forall_mem_cons.mp ho).1
  have h_w9 : za_kd w9 = 22 := za_okO (by decide) (List.forall_mem_cons.mp (List.forall_mem_cons.mp ho).2).1
  refine zv_gen (R9 := (fun σ => σ = zcp σ0 q w9 0)) (zcp_0 σ0 q w9).symm (fun σ hz => ?_)
  refine zv_iconst (v := 0) G dX10_copiesTo_0 (by decide) ?_
  have J_2 : ∀ (n : Nat) (y2_2 : Int32) (σ : za_S) (hz : σ = zcp σ0 q w9 y2_2.toInt.toNat) (l_2 : y2_2.toInt ≤ 2001) (i2_2 : 0 ≤ y2_2.toInt) (hn_2 : (2147483648 - y2_2.toInt).toNat < n), zV p l e (zRm 1 21) s m args below meth c E (za_A E) 3 0 0 (MQ below (va_Qv (fun σ' => σ' = zcp σ0 q w9 2001) (zB E) (za_A E)) args s 0 0 (za_A E)) 2 [(0, za_O 22 q), (1, za_O 22 w9), (2, za_I y2_2)] [] σ := by
    intro n
    induction n with
    | zero => intro y2_2 σ hz l_2 i2_2 hn; exact absurd hn (Nat.not_lt_zero _)
    | succ n ih_2 =>
      intro y2_2 σ hz l_2 i2_2 hn_2
      refine zv_iload_n (j := 2) G dX10_copiesTo_2 rfl rfl ?_
      refine zv_sipush (v := 2001) G dX10_copiesTo_3 (by decide) ?_
      refine zv_icmp_ge (tgt := 21) G dX10_copiesTo_6 (by decide) (fun c_6 => ?_) (fun c_6 => ?_)
      · exact zv_vret G hr dX10_copiesTo_21 (by rw [hz]; congr 1; exact z_2001 c_6 l_2)
      · have b_6 : 0 ≤ y2_2.toInt ∧ y2_2.toInt < 2001 := ⟨i2_2, z_ltk c_6 rfl⟩
        refine zv_aload_n (j := 1) G dX10_copiesTo_9 rfl rfl ?_
        refine zv_iload_n (j := 2) G dX10_copiesTo_10 rfl rfl ?_
        refine zv_aload_n (j := 0) G dX10_copiesTo_11 rfl rfl ?_
        refine zv_iload_n (j := 2) G dX10_copiesTo_12 rfl rfl ?_
        refine zv_iald G (by decide) rfl (z_in i2_2 (z_ltk c_6 rfl)) dX10_copiesTo_13 ?_
        refine zv_iast G (by decide) rfl (fun _ => rfl) (z_in i2_2 (z_ltk c_6 rfl)) dX10_copiesTo_14 ?_
        refine zv_gen (R9 := (fun σ => σ = zcp σ0 q w9 (y2_2.toInt.toNat + 1))) (by rw [hz]; exact zcp_s) (fun σ hz => ?_)
        obtain ⟨x_15, e_15⟩ : ∃ y : Int32, y = y2_2 + 1 := ⟨_, rfl⟩
        refine zv_iinc (j := 2) (v := x_15) (lv' := [(2, za_I x_15), (0, za_O 22 q), (1, za_O 22 w9)]) G dX10_copiesTo_15 rfl (by rw [e_15]; rfl) (by decide) rfl ?_
        refine zv_goto (tgt := 2) G dX10_copiesTo_18 (by decide) ?_
        refine zv_sub [1, 2, 0] (lv' := [(0, za_O 22 q), (1, za_O 22 w9), (2, za_I x_15)]) rfl ?_
        exact ih_2 x_15 σ (by rw [hz]; congr 1; have := z_inc c_6 e_15; omega) (by have := z_inc c_6 e_15; omega) (by have := z_inc c_6 e_15; omega) (z_meas c_6 e_15 hn_2)
  refine zv_istore_n (lv' := [(2, za_I 0), (0, za_O 22 q), (1, za_O 22 w9)]) G dX10_copiesTo_1 rfl (by decide) rfl ?_
  refine zv_sub [1, 2, 0] (lv' := [(0, za_O 22 q), (1, za_O 22 w9), (2, za_I 0)]) rfl ?_
  exact J_2 _ (0 : Int32) σ hz (by decide) (by decide) (Nat.lt_succ_self _)
set_option maxHeartbeats 4000000 in
set_option maxRecDepth 100000 in
theorem zc_X10_seeks (l : Launch) (E : za_E) (q : Nat) (t : Int32) (i : Int32) (σ0 : za_S) (ht : 0 ≤ t.toInt ∧ t.toInt ≤ 1) (hi : 0 ≤ i.toInt) : zMi l E yX10_seeks cX10_seeks 7 (Option.some Jvm.ClassFile.FieldType.boolean) 5 112 [za_O 19 93, za_O 22 q, za_I t, za_I i] σ0 (fun r σ' => (r = 0 ∨ r = 1) ∧ ((r = 1 ∧ i.toInt < (zcn (σ0.1 q) t.toInt.toNat : Nat) ∧ ∃ k d, zsk (σ0.1 q) t i k d ∧ σ' = za_si (za_si σ0 93 15 k) 93 16 d) ∨ (r = 0 ∧ ¬ i.toInt < (zcn (σ0.1 q) t.toInt.toNat : Nat) ∧ σ' = σ0))) := by
  refine zMi_of [(0, za_O 19 93), (1, za_O 22 q), (2, za_I t), (3, za_I i)] (by decide) rfl rfl (Nat.le_of_ble_eq_true rfl) ?_
  intro ho p e s m args below meth c G hr
  have h_q : za_kd q = 22 := za_okO (by decide) (List.forall_mem_cons.mp (List.forall_mem_cons.mp ho).2).1
  refine zv_iload_n (j := 3) G dX10_seeks_0 rfl rfl ?_
  refine zv_istore (lv' := [(4, za_I i), (0, za_O 19 93), (1, za_O 22 q), (2, za_I t), (3, za_I i)]) G dX10_seeks_1 (by decide) rfl ?_
  refine zv_iconst (v := 0) G dX10_seeks_3 (by decide) ?_
  have J_6 : ∀ (n : Nat) (y4_6 : Int32) (y5_6 : Int32) (m_6 : zlf (σ0.1 q) t i y4_6 (100 * y5_6.toInt.toNat)) (l_6 : y5_6.toInt ≤ 10) (i5_6 : 0 ≤ y5_6.toInt) (hn_6 : (2147483648 - y5_6.toInt).toNat < n), zV p l e (zRm 5 112) s m args below meth c E (za_A E) 7 0 0 (MQ below (va_Qi (fun r σ' => (r = 0 ∨ r = 1) ∧ ((r = 1 ∧ i.toInt < (zcn (σ0.1 q) t.toInt.toNat : Nat) ∧ ∃ k d, zsk (σ0.1 q) t i k d ∧ σ' = za_si (za_si σ0 93 15 k) 93 16 d) ∨ (r = 0 ∧ ¬ i.toInt < (zcn (σ0.1 q) t.toInt.toNat : Nat) ∧ σ' = σ0))) (zB E) (za_A E)) args s 0 0 (za_A E)) 6 [(0, za_O 19 93), (1, za_O 22 q), (2, za_I t), (4, za_I y4_6), (5, za_I y5_6)] [] σ0 := by
    intro n
    induction n with
    | zero => intro y4_6 y5_6 m_6 l_6 i5_6 hn; exact absurd hn (Nat.not_lt_zero _)
    | succ n ih_6 =>
      intro y4_6 y5_6 m_6 l_6 i5_6 hn_6
      refine zv_iload (j := 4) G dX10_seeks_6 rfl ?_
      refine zv_bipush (v := 10) G dX10_seeks_8 (by decide) ?_
      refine zv_icmp_ge (tgt := 69) G dX10_seeks_10 (by decide) (fun c_10 => ?_) (fun c_10 => ?_)
      · refine zv_iconst (v := 0) G dX10_seeks_69 (by decide) ?_
        exact zv_zret G hr dX10_seeks_70 (by decide) ⟨Or.inl rfl, Or.inr ⟨rfl, z_lf4 m_6 l_6 c_10, rfl⟩⟩
      · have b_10 : 0 ≤ y5_6.toInt ∧ y5_6.toInt < 10 := ⟨i5_6, z_ltk c_10 rfl⟩
        refine zv_iconst (v := 0) G dX10_seeks_13 (by decide) ?_
        have J_16 : ∀ (n : Nat) (y4_16 : Int32) (y6_16 : Int32) (m_16 : zlf (σ0.1 q) t i y4_16 (100 * y5_6.toInt.toNat + y6_16.toInt.toNat)) (l_16 : y6_16.toInt ≤ 100) (i6_16 : 0 ≤ y6_16.toInt) (hn_16 : (2147483648 - y6_16.toInt).toNat < n), zV p l e (zRm 5 112) s m args below meth c E (za_A E) 7 0 0 (MQ below (va_Qi (fun r σ' => (r = 0 ∨ r = 1) ∧ ((r = 1 ∧ i.toInt < (zcn (σ0.1 q) t.toInt.toNat : Nat) ∧ ∃ k d, zsk (σ0.1 q) t i k d ∧ σ' = za_si (za_si σ0 93 15 k) 93 16 d) ∨ (r = 0 ∧ ¬ i.toInt < (zcn (σ0.1 q) t.toInt.toNat : Nat) ∧ σ' = σ0))) (zB E) (za_A E)) args s 0 0 (za_A E)) 16 [(0, za_O 19 93), (1, za_O 22 q), (2, za_I t), (4, za_I y4_16), (5, za_I y5_6), (6, za_I y6_16)] [] σ0 := by
          intro n
          induction n with
          | zero => intro y4_16 y6_16 m_16 l_16 i6_16 hn; exact absurd hn (Nat.not_lt_zero _)
          | succ n ih_16 =>
            intro y4_16 y6_16 m_16 l_16 i6_16 hn_16
            refine zv_iload (j := 5) G dX10_seeks_16 rfl ?_
            refine zv_bipush (v := 100) G dX10_seeks_18 (by decide) ?_
            refine zv_icmp_ge (tgt := 63) G dX10_seeks_20 (by decide) (fun c_20 => ?_) (fun c_20 => ?_)
            · obtain ⟨x_63, e_63⟩ : ∃ y : Int32, y = y5_6 + 1 := ⟨_, rfl⟩
              refine zv_iinc (j := 4) (v := x_63) (lv' := [(5, za_I x_63), (0, za_O 19 93), (1, za_O 22 q), (2, za_I t), (4, za_I y4_16), (6, za_I y6_16)]) G dX10_seeks_63 rfl (by rw [e_63]; rfl) (by decide) rfl ?_
              refine zv_goto (tgt := 6) G dX10_seeks_66 (by decide) ?_
              refine zv_sub [1, 2, 3, 4, 0] (lv' := [(0, za_O 19 93), (1, za_O 22 q), (2, za_I t), (4, za_I y4_16), (5, za_I x_63)]) rfl ?_
              exact ih_6 y4_16 x_63 (z_lf3 m_16 l_16 c_20 (z_inc c_10 e_63) i5_6) (by have := z_inc c_10 e_63; omega) (by have := z_inc c_10 e_63; omega) (z_meas c_10 e_63 hn_6)
            · have b_20 : 0 ≤ y6_16.toInt ∧ y6_16.toInt < 100 := ⟨i6_16, z_ltk c_20 rfl⟩
              refine zv_aload_n (j := 1) G dX10_seeks_23 rfl rfl ?_
              refine zv_iload_n (j := 2) G dX10_seeks_24 rfl rfl ?_
              refine zv_iload (j := 4) G dX10_seeks_25 rfl ?_
              refine zv_iload (j := 5) G dX10_seeks_27 rfl ?_
              refine zv_callSi (as := [za_O 22 q, za_I t, za_I y5_6, za_I y6_16]) G (zc_X10_begins l E q t y5_6 y6_16 σ0 (by first | assumption | decide | omega) (by first | assumption | decide | omega)) zk_X10_begins zm_1317 rfl ⟨(Nat.le_of_ble_eq_true rfl), (Nat.le_of_ble_eq_true rfl)⟩ ⟨Nat.zero_le _, Nat.zero_le _⟩ (Nat.le_of_ble_eq_true rfl) dX10_seeks_29 (fun r_29 σ h_29 => ?_)
              obtain ⟨h_29, e9⟩ := h_29
              rw [e9]
              clear e9 σ
              refine zv_if_eq (tgt := 57) G dX10_seeks_32 (by decide) (fun c_32 => ?_) (fun c_32 => ?_)
              · have f_29 := fun q9 => (h_29.2.mpr q9) c_32
                obtain ⟨x_57, e_57⟩ : ∃ y : Int32, y = y6_16 + 1 := ⟨_, rfl⟩
                refine zv_iinc (j := 5) (v := x_57) (lv' := [(6, za_I x_57), (0, za_O 19 93), (1, za_O 22 q), (2, za_I t), (4, za_I y4_16), (5, za_I y5_6)]) G dX10_seeks_57 rfl (by rw [e_57]; rfl) (by decide) rfl ?_
                refine zv_goto (tgt := 16) G dX10_seeks_60 (by decide) ?_
                refine zv_sub [1, 2, 3, 4, 5, 0] (lv' := [(0, za_O 19 93), (1, za_O 22 q), (2, za_I t), (4, za_I y4_16), (5, za_I y5_6), (6, za_I x_57)]) rfl ?_
                exact ih_16 y4_16 x_57 (by rw [z_inc c_20 e_57]; first | exact z_lf2 ht (by omega) m_16 t_29 c_37 e_54 | exact z_lf1 ht (by omega) (by omega) m_16 f_29) (by have := z_inc c_20 e_57; omega) (by have := z_inc c_20 e_57; omega) (z_meas c_20 e_57 hn_16)
              · have t_29 := h_29.2.mp c_32
                refine zv_iload (j := 3) G dX10_seeks_35 rfl ?_
                refine zv_if_ne (tgt := 54) G dX10_seeks_37 (by decide) (fun c_37 => ?_) (fun c_37 => ?_)
                · obtain ⟨x_54, e_54⟩ : ∃ y : Int32, y = y4_16 + (-1) := ⟨_, rfl⟩
                  refine zv_iinc (j := 3) (v := x_54) (lv' := [(4, za_I x_54), (0, za_O 19 93), (1, za_O 22 q), (2, za_I t), (5, za_I y5_6), (6, za_I y6_16)]) G dX10_seeks_54 rfl (by rw [e_54]; rfl) (by decide) rfl ?_
                  obtain ⟨x_57, e_57⟩ : ∃ y : Int32, y = y6_16 + 1 := ⟨_, rfl⟩
                  refine zv_iinc (j := 5) (v := x_57) (lv' := [(6, za_I x_57), (4, za_I x_54), (0, za_O 19 93), (1, za_O 22 q), (2, za_I t), (5, za_I y5_6)]) G dX10_seeks_57 rfl (by rw [e_57]; rfl) (by decide) rfl ?_
                  refine zv_goto (tgt := 16) G dX10_seeks_60 (by decide) ?_
                  refine zv_sub [2, 3, 4, 1, 5, 0] (lv' := [(0, za_O 19 93), (1, za_O 22 q), (2, za_I t), (4, za_I x_54), (5, za_I y5_6), (6, za_I x_57)]) rfl ?_
                  exact ih_16 x_54 x_57 (by rw [z_inc c_20 e_57]; first | exact z_lf2 ht (by omega) m_16 t_29 c_37 e_54 | exact z_lf1 ht (by omega) (by omega) m_16 f_29) (by have := z_inc c_20 e_57; omega) (by have := z_inc c_20 e_57; omega) (z_meas c_20 e_57 hn_16)
                · refine zv_aload_n (j := 0) G dX10_seeks_40 rfl rfl ?_
                  refine zv_iload (j := 4) G dX10_seeks_41 rfl ?_
                  refine zp_X10_191 G dX10_seeks_43 ?_
                  refine zv_aload_n (j := 0) G dX10_seeks_46 rfl rfl ?_
                  refine zv_iload (j := 5) G dX10_seeks_47 rfl ?_
                  refine zp_X10_194 G dX10_seeks_49 ?_
                  refine zv_iconst (v := 1) G dX10_seeks_52 (by decide) ?_
                  exact zv_zret G hr dX10_seeks_53 (by decide) ⟨Or.inr rfl, Or.inl ⟨rfl, zsk_lt ht (z_lf5 (by omega) m_16 t_29 c_37), _, _, z_lf5 (by omega) m_16 t_29 c_37, rfl⟩⟩
        refine zv_istore (lv' := [(6, za_I 0), (0, za_O 19 93), (1, za_O 22 q), (2, za_I t), (4, za_I y4_6), (5, za_I y5_6)]) G dX10_seeks_14 (by decide) rfl ?_
        refine zv_sub [1, 2, 3, 4, 5, 0] (lv' := [(0, za_O 19 93), (1, za_O 22 q), (2, za_I t), (4, za_I y4_6), (5, za_I y5_6), (6, za_I 0)]) rfl ?_
        exact J_16 _ y4_6 (0 : Int32) m_6 (by decide) (by decide) (Nat.lt_succ_self _)
  refine zv_istore (lv' := [(5, za_I 0), (4, za_I i), (0, za_O 19 93), (1, za_O 22 q), (2, za_I t), (3, za_I i)]) G dX10_seeks_4 (by decide) rfl ?_
  refine zv_sub [2, 3, 4, 1, 0] (lv' := [(0, za_O 19 93), (1, za_O 22 q), (2, za_I t), (4, za_I i), (5, za_I 0)]) rfl ?_
  exact J_6 _ i (0 : Int32) ⟨hi, by show i.toInt = i.toInt - ((0 : Nat) : Int); omega⟩ (by decide) (by decide) (Nat.lt_succ_self _)
set_option maxHeartbeats 4000000 in
set_option maxRecDepth 100000 in
theorem zc_X10_settles (l : Launch) (E : za_E) (q : Nat) (a : Int32) (σ0 : za_S)  : zMi l E yX10_settles cX10_settles 3 (Option.some Jvm.ClassFile.FieldType.int) 6 136 [za_O 19 93, za_O 22 q, za_I a] σ0 (fun r σ' => (r = -9 ∧ σ' = σ0) ∨ (r = a ∧ (zcn (σ0.1 101) 0 ≤ 20 ∧ zcn (σ0.1 101) 1 ≤ 20) ∧ σ' = zcp σ0 101 q 2001)) := by
  refine zMi_of [(0, za_O 19 93), (1, za_O 22 q), (2, za_I a)] (by decide) rfl rfl (Nat.le_of_ble_eq_true rfl) ?_
  intro ho p e s m args below meth c G hr
  have h_q : za_kd q = 22 := za_okO (by decide) (List.forall_mem_cons.mp (List.forall_mem_cons.mp ho).2).1
  refine zv_aload_n (j := 0) G dX10_settles_0 rfl rfl ?_
  refine zg_X10_124 G dX10_settles_1 ?_
  refine zv_iconst (v := 0) G dX10_settles_4 (by decide) ?_
  refine zv_callSi (as := [za_O 22 101, za_I 0]) G (zc_X10_rowsOf l E 101 (0 : Int32) σ0 (by first | assumption | decide | omega)) zk_X10_rowsOf zm_1348 rfl ⟨(Nat.le_of_ble_eq_true rfl), (Nat.le_of_ble_eq_true rfl)⟩ ⟨Nat.zero_le _, Nat.zero_le _⟩ (Nat.le_of_ble_eq_true rfl) dX10_settles_5 (fun r_5 σ h_5 => ?_)
  obtain ⟨h_5, e9⟩ := h_5
  rw [e9]
  clear e9 σ
  refine zv_bipush (v := 20) G dX10_settles_8 (by decide) ?_
  refine zv_icmp_gt (tgt := 26) G dX10_settles_10 (by decide) (fun c_10 => ?_) (fun c_10 => ?_)
  · refine zv_bipush (v := (-9)) G dX10_settles_26 (by decide) ?_
    exact zv_iret G hr dX10_settles_28 (Or.inl ⟨rfl, rfl⟩)
  · refine zv_aload_n (j := 0) G dX10_settles_13 rfl rfl ?_
    refine zg_X10_124 G dX10_settles_14 ?_
    refine zv_iconst (v := 1) G dX10_settles_17 (by decide) ?_
    refine zv_callSi (as := [za_O 22 101, za_I 1]) G (zc_X10_rowsOf l E 101 (1 : Int32) σ0 (by first | assumption | decide | omega)) zk_X10_rowsOf zm_1348 rfl ⟨(Nat.le_of_ble_eq_true rfl), (Nat.le_of_ble_eq_true rfl)⟩ ⟨Nat.zero_le _, Nat.zero_le _⟩ (Nat.le_of_ble_eq_true rfl) dX10_settles_18 (fun r_18 σ h_18 => ?_)
    obtain ⟨h_18, e9⟩ := h_18
    rw [e9]
    clear e9 σ
    refine zv_bipush (v := 20) G dX10_settles_21 (by decide) ?_
    refine zv_icmp_le (tgt := 29) G dX10_settles_23 (by decide) (fun c_23 => ?_) (fun c_23 => ?_)
    · refine zv_aload_n (j := 0) G dX10_settles_29 rfl rfl ?_
      refine zg_X10_124 G dX10_settles_30 ?_
      refine zv_aload_n (j := 1) G dX10_settles_33 rfl rfl ?_
      refine zv_callSv (as := [za_O 22 101, za_O 22 q]) G (zc_X10_copiesTo l E 101 q σ0 ) zk_X10_copiesTo zm_1381 rfl ⟨(Nat.le_of_ble_eq_true rfl), (Nat.le_of_ble_eq_true rfl)⟩ ⟨Nat.zero_le _, Nat.zero_le _⟩ (Nat.le_of_ble_eq_true rfl) dX10_settles_34 (fun σ h_34 => ?_)
      refine zv_iload_n (j := 2) G dX10_settles_37 rfl rfl ?_
      exact zv_iret G hr dX10_settles_38 (Or.inr ⟨rfl, z_set h_5 c_10 h_18 c_23, h_34⟩)
    · refine zv_bipush (v := (-9)) G dX10_settles_26 (by decide) ?_
      exact zv_iret G hr dX10_settles_28 (Or.inl ⟨rfl, rfl⟩)
set_option maxHeartbeats 4000000 in
set_option maxRecDepth 100000 in
theorem zc_X10_enters (l : Launch) (E : za_E) (v : Int64) (σ0 : za_S) (h0 : 0 ≤ (σ0.1 93 1).toInt ∧ (σ0.1 93 1).toInt ≤ 23) : zMv l E yX10_enters cX10_enters 3 (Option.none : Option Jvm.ClassFile.FieldType) 1 21 [za_O 19 93, za_L v] σ0 (fun σ' => σ' = za_si (za_sl σ0 94 (σ0.1 93 1).toNatClampNeg v) 93 1 (σ0.1 93 1 + 1)) := by
  refine zMv_of [(0, za_O 19 93), (1, za_L v)] (by decide) rfl rfl (Nat.le_of_ble_eq_true rfl) ?_
  intro ho p e s m args below meth c G hr
  refine zv_aload_n (j := 0) G dX10_enters_0 rfl rfl ?_
  refine zg_X10_11 G dX10_enters_1 ?_
  refine zv_aload_n (j := 0) G dX10_enters_4 rfl rfl ?_
  refine zg_X10_15 G dX10_enters_5 ?_
  refine zv_lload_n (j := 1) G dX10_enters_8 rfl rfl ?_
  refine zv_last G (by decide) rfl (fun _ => rfl) (z_in h0.1 (by omega)) dX10_enters_9 ?_
  refine zv_aload_n (j := 0) G dX10_enters_10 rfl rfl ?_
  refine zv_dupO G dX10_enters_11 ?_
  refine zg_X10_15 G dX10_enters_12 ?_
  refine zv_iconst (v := 1) G dX10_enters_15 (by decide) ?_
  refine zv_iadd G dX10_enters_16 ?_
  refine zp_X10_15 G dX10_enters_17 ?_
  exact zv_vret G hr dX10_enters_20 rfl
