/-! ===== the reference's acts, exactly ===== -/
theorem wz_rfT {x : Int32} (h : 0 < x.toInt) : (zrf x).toInt = (x.toInt - 1) / 2 % 11 := by
  have hr := z_rng x
  have h1 : (x - 1).toInt = x.toInt - 1 := by rw [z_sub (by rw [z_one]; omega) (by rw [z_one]; omega), z_one]
  have h2 : (2 : Int32).toInt = 2 := by decide
  have h11 : (11 : Int32).toInt = 11 := by decide
  have h3 : ((x - 1) / 2).toInt = (x.toInt - 1) / 2 := by rw [z_div (by omega) (by rw [h2]; omega), h1, h2]
  unfold zrf
  rw [z_rem (by omega) (by rw [h11]; omega), h11, h3]
theorem wz_vlT {x : Int32} (h : 0 < x.toInt) : (zvl x).toInt = (x.toInt - 1) / 2 / 11 := by
  have hr := z_rng x
  have h1 : (x - 1).toInt = x.toInt - 1 := by rw [z_sub (by rw [z_one]; omega) (by rw [z_one]; omega), z_one]
  have h2 : (2 : Int32).toInt = 2 := by decide
  have h11 : (11 : Int32).toInt = 11 := by decide
  have h3 : ((x - 1) / 2).toInt = (x.toInt - 1) / 2 := by rw [z_div (by omega) (by rw [h2]; omega), h1, h2]
  unfold zvl
  rw [z_div (by omega) (by rw [h11]; omega), h11, h3]
def wzal2 (p : Int → Prop) (c a n : Int) : Prop := c = 0 ↔ ∀ d, a ≤ d → d < n → ¬ p d
theorem wzal2_0 (p : Int → Prop) (a : Int) : wzal2 p 0 a a := ⟨fun _ d h1 h2 => by omega, fun _ => rfl⟩
theorem wzal2_n {p : Int → Prop} {c a n : Int} (h : wzal2 p c a n) (hp : p n → False) : wzal2 p c a (n + 1) := by
  constructor
  · intro e d h1 h2
    by_cases q : d = n
    · rw [q]; exact hp
    · exact h.mp e d h1 (by omega)
  · exact fun q => h.mpr (fun d h1 h2 => q d h1 (by omega))
theorem wzal2_y {p : Int → Prop} {c a n : Int} (hp : p n) (hc : 0 < c) (ha : a ≤ n) : wzal2 p c a (n + 1) := ⟨fun e => by omega, fun q => absurd hp (q n ha (by omega))⟩
theorem wzal2_m {p : Int → Prop} {c x a n m : Int} (h : wzal2 p c a n) (e : x = c) (e2 : m = n) : wzal2 p x a m := by
  subst e; subst e2
  exact h
/-- what is at a day may stand -/
def wzhc (g : Nat → Int32) (k d : Int) : Prop := 0 < (g (wzjx 0 k d)).toInt → ((g (wzjx 0 k d)).toInt - 1) / 2 % 11 = 10 ∨ 0 < (g (wzjx 1 (((g (wzjx 0 k d)).toInt - 1) / 2 % 11) d)).toInt
def wzhk (g : Nat → Int32) (K D : Int) : Prop := ∀ k d, 0 ≤ k → 0 ≤ d → d ≤ 99 → (k < K ∨ (k = K ∧ d < D)) → wzhc g k d
theorem wzhk_0 (g : Nat → Int32) : wzhk g 0 0 := fun k d h1 h2 _ h3 => by omega
theorem wzhk_s {g : Nat → Int32} {K D : Int} : wzhk g K (D + 1) ↔ wzhk g K D ∧ (0 ≤ K → 0 ≤ D → D ≤ 99 → wzhc g K D) := by
  constructor
  · exact fun h => ⟨fun k d h1 h2 h3 h4 => h k d h1 h2 h3 (by omega), fun h1 h2 h3 => h K D h1 h2 h3 (Or.inr ⟨rfl, by omega⟩)⟩
  · intro h k d h1 h2 h3 h4
    by_cases q : k = K ∧ d = D
    · rw [q.1, q.2]; exact h.2 (by omega) (by omega) (by omega)
    · exact h.1 k d h1 h2 h3 (by omega)
theorem wzhk_r {g : Nat → Int32} {K D : Int} (hD : 100 ≤ D) : wzhk g K D ↔ wzhk g (K + 1) 0 := ⟨fun h k d h1 h2 h3 h4 => h k d h1 h2 h3 (by omega), fun h k d h1 h2 h3 h4 => h k d h1 h2 h3 (by omega)⟩
theorem wzhk_f {g : Nat → Int32} {K : Int} (hK : K = 10) : wzhk g K 0 ↔ wzFhd g := by
  subst hK
  exact ⟨fun h k d h1 h2 h3 h4 => h k d h1 h3 h4 (by omega), fun h k d h1 h2 h3 h4 => h k d h1 (by omega) h2 h3⟩
theorem wzhs_1 {g : Nat → Int32} {y : Int32} {K D : Int} (a : ¬ y = 0 ↔ wzhk g K D) (c : ¬ y = 0) (h : wzhc g K D) : ¬ (1 : Int32) = 0 ↔ wzhk g K (D + 1) := ⟨fun _ => wzhk_s.mpr ⟨a.mp c, fun _ _ _ => h⟩, fun _ => by decide⟩
theorem wzhs_2 {g : Nat → Int32} {y : Int32} {K D : Int} (a : ¬ y = 0 ↔ wzhk g K D) (c : y = 0) : ¬ (0 : Int32) = 0 ↔ wzhk g K (D + 1) := ⟨fun h => absurd rfl h, fun h => absurd c (a.mpr (wzhk_s.mp h).1)⟩
theorem wzhs_3 {g : Nat → Int32} {K D : Int} (h1 : 0 ≤ K ∧ 0 ≤ D ∧ D ≤ 99) (h : ¬ wzhc g K D) : ¬ (0 : Int32) = 0 ↔ wzhk g K (D + 1) := ⟨fun h => absurd rfl h, fun q => absurd ((wzhk_s.mp q).2 h1.1 h1.2.1 h1.2.2) h⟩
/-! counts of the trial -/
def wzcs (f : Nat → Int32) : Prop := zcn f 0 ≤ 20 ∧ zcn f 1 ≤ 20
theorem wz_setN {f : Nat → Int32} {r : Int32} (h1 : r.toInt = (zcn f (0 : Int32).toInt.toNat : Nat)) (c1 : (20 : Int32) < r) : ¬ wzcs f := by
  have h20 : (20 : Int32).toInt = 20 := by decide
  have e0 : (0 : Int32).toInt.toNat = 0 := by decide
  rw [z_lt, h1, h20, e0] at c1
  intro q
  have := q.1
  omega
theorem wz_setM {f : Nat → Int32} {a : Int32} (h2 : a.toInt = (zcn f (1 : Int32).toInt.toNat : Nat)) (c2 : ¬ a ≤ 20) : ¬ wzcs f := by
  have h20 : (20 : Int32).toInt = 20 := by decide
  have e1 : (1 : Int32).toInt.toNat = 1 := by decide
  rw [z_le, h2, h20, e1] at c2
  intro q
  have := q.2
  omega
/-- an act ends: frame, what the table is then -/
def wzfr9 (q : Nat) (σ0 σ : za_S) : Prop := (∀ w, w ≠ q → w ≠ 101 → w ≠ 93 → σ.1 w = σ0.1 w) ∧ σ.2 = σ0.2 ∧ ∀ j, j ≠ 19 → j ≠ 20 → σ.1 93 j = σ0.1 93 j
theorem wzfr9_x {q : Nat} {σ0 σ : za_S} (h : zfx 101 σ0 σ) : wzfr9 q σ0 σ := ⟨fun w _ h2 h3 => h.1 w h2 h3, h.2.1, h.2.2⟩
theorem wzfr9_s {q : Nat} {σ0 σ σ' : za_S} {r a : Int32} {f : Nat → Int32} (hq : q ≠ 101 ∧ q ≠ 93) (hf : f = σ0.1 q) (h : zfx 101 σ0 σ) (e : (r = -9 ∧ ¬ wzcs (σ.1 101) ∧ σ' = σ) ∨ (r = a ∧ wzcs (σ.1 101) ∧ σ' = zcp σ 101 q 2001)) : wzfr9 q σ0 σ' ∧ wzFtk f (σ.1 101) (σ'.1 q) := by
  subst hf
  rcases e with ⟨-, c, e⟩ | ⟨-, c, e⟩
  · subst e
    exact ⟨wzfr9_x h, fun z => absurd z c, fun _ i _ => by rw [h.1 q hq.1 hq.2]⟩
  · subst e
    refine ⟨⟨fun w h1 h2 h3 => ?_, h.2.1, fun j h1 h2 => ?_⟩, fun _ i hi => zcp_w hi, fun z => absurd c z⟩
    · rw [zcp_o h1]; exact h.1 w h2 h3
    · rw [zcp_o (Ne.symm hq.2)]; exact h.2.2 j h1 h2
theorem wzfr9_n {q : Nat} {σ0 σ : za_S} (hq : q ≠ 101 ∧ q ≠ 93) (h : zfx 101 σ0 σ) : wzfr9 q σ0 σ ∧ ∀ i, i < 2001 → σ.1 q i = σ0.1 q i := ⟨wzfr9_x h, fun i _ => by rw [h.1 q hq.1 hq.2]⟩
/-! added -/
def wzFadd (t k v a b : Int) (f f' : Nat → Int32) : Prop := (¬ wzrn f t k a b ∧ ∀ i, i < 2001 → f' i = f i) ∨ (wzrn f t k a b ∧ ∃ g, wzFad f g t k v a b ∧ wzFtk f g f')
theorem wzix_j (t k d : Int32) : zix t k d = wzjx t.toInt k.toInt d.toInt := rfl
def wzlx (q : Nat) (t k v fd n : Int32) (σ0 σ : za_S) : Prop := zfx 101 σ0 σ ∧ wzFad (σ0.1 q) (σ.1 101) t.toInt k.toInt v.toInt fd.toInt n.toInt
theorem wzlx_0 {q : Nat} {t k v fd : Int32} {σ0 σ σ' : za_S} (hq : q ≠ 101 ∧ q ≠ 93) (h : zfx 101 σ0 σ) (e : σ' = zcp σ q 101 2001) (ht : 0 ≤ t.toInt ∧ t.toInt ≤ 1) (hk : 0 ≤ k.toInt ∧ k.toInt ≤ 9) : wzlx q t k v fd fd σ0 σ' := by
  have h1 : ∀ i, i < 2001 → σ'.1 101 i = σ0.1 q i := fun i hi => by rw [e, zcp_w hi, h.1 q hq.1 hq.2]
  exact ⟨zfx_cp h e, fun i hi _ => h1 i hi, fun d d1 d2 => ⟨fun c => by omega, fun _ => h1 _ (by unfold wzjx; omega)⟩⟩
theorem wzlx_s {q : Nat} {t k v fd n x b : Int32} {σ0 σ σ' : za_S} (ht : 0 ≤ t.toInt ∧ t.toInt ≤ 1) (hk : 0 ≤ k.toInt ∧ k.toInt ≤ 9) (hv : 0 ≤ v.toInt ∧ v.toInt ≤ 99) (hn : fd.toInt ≤ n.toInt ∧ n.toInt ≤ 99 ∧ 0 ≤ fd.toInt) (h : wzlx q t k v fd n σ0 σ) (hb : (b = 1 ∧ n.toInt = fd.toInt) ∨ (b = 0 ∧ ¬ n.toInt = fd.toInt)) (e : σ' = za_si σ 101 (zix t k n) (zly v 10 (if b = 0 then 0 else 1))) (ex : x.toInt = n.toInt + 1) : wzlx q t k v fd x σ0 σ' := by
  subst e
  have hbb : (if b = 0 then (0 : Int32) else 1) = b := by rcases hb with q | q <;> rw [q.1] <;> rfl
  rw [hbb]
  have hl := z_lyT (v := v) (f := 10) hv (by decide) (b := b) (by rcases hb with q | q; exact Or.inr q.1; exact Or.inl q.1)
  have h10 : (10 : Int32).toInt = 10 := by decide
  rw [h10] at hl
  refine ⟨zfx_si (by decide) h.1, fun i hi c => ?_, fun d d1 d2 => ?_⟩
  · rw [za_si_ne _ _ (Or.inr (show i ≠ zix t k n from c n.toInt (by omega) (by omega)))]
    exact h.2.1 i hi c
  · by_cases z : d = n.toInt
    · subst z
      rw [wzix_j, za_si_same]
      refine ⟨fun _ => ?_, fun c => by omega⟩
      rw [hl]
      rcases hb with q | q
      · rw [q.1, if_pos q.2]; rfl
      · rw [q.1, if_neg q.2]; rfl
    · rw [za_si_ne _ _ (Or.inr (by rw [wzix_j]; unfold wzjx; omega))]
      have h3 := h.2.2 d d1 d2
      exact ⟨fun c => h3.1 (by omega), fun c => h3.2 (by omega)⟩
theorem wzlx_e {q : Nat} {t k v fd n m : Int32} {σ0 σ : za_S} (h : wzlx q t k v fd n σ0 σ) (e : n.toInt = m.toInt) : wzlx q t k v fd m σ0 σ := by
  unfold wzlx at h ⊢
  rw [← e]
  exact h
/-! turned -/
def wzTi (f g : Nat → Int32) (t k : Int) (j : Nat) (v a b n : Int) : Prop := wzot f g t k ∧ ∀ d, 0 ≤ d → d ≤ 99 →
  (a ≤ d ∧ d < n ∧ 0 < (f (wzjx t k d)).toInt ∧ ¬ wzdc j (f (wzjx t k d)).toInt = v → (g (wzjx t k d)).toInt = 1 + 2 * wzdn9 j (f (wzjx t k d)).toInt v + (if d = a ∨ ((f (wzjx t k d)).toInt - 1) % 2 = 1 then 1 else 0)) ∧
  (n = b ∧ d = b ∧ 0 < (f (wzjx t k b)).toInt ∧ 0 < (f (wzjx t k (b - 1))).toInt ∧ ¬ wzdc j (f (wzjx t k (b - 1))).toInt = v → (g (wzjx t k d)).toInt = 1 + 2 * (((f (wzjx t k b)).toInt - 1) / 2) + 1) ∧
  (¬ (a ≤ d ∧ d < n ∧ 0 < (f (wzjx t k d)).toInt ∧ ¬ wzdc j (f (wzjx t k d)).toInt = v) → ¬ (n = b ∧ d = b ∧ 0 < (f (wzjx t k b)).toInt ∧ 0 < (f (wzjx t k (b - 1))).toInt ∧ ¬ wzdc j (f (wzjx t k (b - 1))).toInt = v) → g (wzjx t k d) = f (wzjx t k d))
theorem wzTi_f {f g : Nat → Int32} {t k : Int} {j : Nat} {v a b n : Int} (h : wzTi f g t k j v a b n) (e : n = b) : wzFtn f g t k j v a b := by
  subst e
  exact ⟨h.1, fun d d1 d2 => ⟨(h.2 d d1 d2).1, fun c => (h.2 d d1 d2).2.1 ⟨rfl, c⟩, fun c1 c2 => (h.2 d d1 d2).2.2 c1 (fun c3 => c2 c3.2)⟩⟩
theorem wzTi_0 {f g : Nat → Int32} {t k : Int} {j : Nat} {v a b : Int} (ht : 0 ≤ t ∧ t ≤ 1) (hk : 0 ≤ k ∧ k ≤ 9) (hab : a < b) (h : ∀ i, i < 2001 → g i = f i) : wzTi f g t k j v a b a := by
  refine ⟨fun i hi _ => h i hi, fun d d1 d2 => ⟨fun c => by omega, fun c => by omega, fun _ _ => h _ (by unfold wzjx; omega)⟩⟩
theorem wzTi_n {f g : Nat → Int32} {t k : Int} {j : Nat} {v a b n : Int} (hn : n < b) (h : wzTi f g t k j v a b n) (c : ¬ (0 < (f (wzjx t k n)).toInt ∧ ¬ wzdc j (f (wzjx t k n)).toInt = v)) : wzTi f g t k j v a b (n + 1) := by
  refine ⟨h.1, fun d d1 d2 => ?_⟩
  have h3 := h.2 d d1 d2
  by_cases z : d = n
  · subst z
    exact ⟨fun q => absurd q.2.2 c, fun q => by omega, fun _ q2 => h3.2.2 (fun q => by omega) (fun q => by omega)⟩
  · refine ⟨fun q => h3.1 ⟨q.1, by omega, q.2.2⟩, fun q => ?_, fun q1 q2 => h3.2.2 (fun q => q1 ⟨q.1, by omega, q.2.2⟩) (fun q => by omega)⟩
    exfalso
    have e : b - 1 = n := by omega
    rw [e] at q
    exact c q.2.2.2
theorem wzTi_y {f g : Nat → Int32} {t k : Int} {j : Nat} {v a b n : Int} {x : Int32} (ht : 0 ≤ t ∧ t ≤ 1) (hk : 0 ≤ k ∧ k ≤ 9) (hn : a ≤ n ∧ n < b ∧ b ≤ 100 ∧ 0 ≤ a) (h : wzTi f g t k j v a b n) (c : 0 < (f (wzjx t k n)).toInt ∧ ¬ wzdc j (f (wzjx t k n)).toInt = v) (ex : x.toInt = 1 + 2 * wzdn9 j (f (wzjx t k n)).toInt v + (if n = a ∨ ((f (wzjx t k n)).toInt - 1) % 2 = 1 then 1 else 0)) (hz : n + 1 = b → ¬ 0 < (f (wzjx t k b)).toInt ∨ b = 100) : wzTi f (upd g (wzjx t k n) x) t k j v a b (n + 1) := by
  refine ⟨fun i hi q => ?_, fun d d1 d2 => ?_⟩
  · rw [zupd_n (q n (by omega) (by omega))]
    exact h.1 i hi q
  · have h3 := h.2 d d1 d2
    by_cases z : d = n
    · subst z
      rw [zupd_s]
      exact ⟨fun _ => ex, fun q => by omega, fun q => absurd ⟨hn.1, by omega, c⟩ q⟩
    · rw [zupd_n (show wzjx t k d ≠ wzjx t k n by unfold wzjx; omega)]
      refine ⟨fun q => h3.1 ⟨q.1, by omega, q.2.2⟩, fun q => ?_, fun q1 q2 => h3.2.2 (fun q => q1 ⟨q.1, by omega, q.2.2⟩) (fun q => by omega)⟩
      exfalso
      rcases hz q.1 with z2 | z2
      · exact z2 q.2.2.1
      · omega
theorem wzTi_p {f g : Nat → Int32} {t k : Int} {j : Nat} {v a b n : Int} {x y : Int32} (ht : 0 ≤ t ∧ t ≤ 1) (hk : 0 ≤ k ∧ k ≤ 9) (hn : a ≤ n ∧ n + 1 = b ∧ b ≤ 99 ∧ 0 ≤ a) (h : wzTi f g t k j v a b n) (c : 0 < (f (wzjx t k n)).toInt ∧ ¬ wzdc j (f (wzjx t k n)).toInt = v) (ex : x.toInt = 1 + 2 * wzdn9 j (f (wzjx t k n)).toInt v + (if n = a ∨ ((f (wzjx t k n)).toInt - 1) % 2 = 1 then 1 else 0)) (hb : 0 < (f (wzjx t k b)).toInt) (ey : y.toInt = 1 + 2 * (((f (wzjx t k b)).toInt - 1) / 2) + 1) : wzTi f (upd (upd g (wzjx t k n) x) (wzjx t k b) y) t k j v a b (n + 1) := by
  refine ⟨fun i hi q => ?_, fun d d1 d2 => ?_⟩
  · rw [zupd_n (q b (by omega) (by omega)), zupd_n (q n (by omega) (by omega))]
    exact h.1 i hi q
  · have h3 := h.2 d d1 d2
    by_cases z : d = n
    · subst z
      rw [zupd_n (show wzjx t k d ≠ wzjx t k b by unfold wzjx; omega), zupd_s]
      exact ⟨fun _ => ex, fun q => by omega, fun q => absurd ⟨hn.1, by omega, c⟩ q⟩
    · by_cases z2 : d = b
      · subst z2
        rw [zupd_s]
        exact ⟨fun q => by omega, fun _ => ey, fun _ q => absurd ⟨by omega, rfl, hb, by rw [show d - 1 = n by omega]; exact c⟩ q⟩
      · rw [zupd_n (show wzjx t k d ≠ wzjx t k b by unfold wzjx; omega), zupd_n (show wzjx t k d ≠ wzjx t k n by unfold wzjx; omega)]
        exact ⟨fun q => h3.1 ⟨q.1, by omega, q.2.2⟩, fun q => absurd q.2.1 z2, fun q1 q2 => h3.2.2 (fun q => q1 ⟨q.1, by omega, q.2.2⟩) (fun q => absurd q.2.1 z2)⟩
def wzts (q : Nat) (t k : Int32) (j : Nat) (v a b n : Int32) (σ0 σ : za_S) : Prop := zfx 101 σ0 σ ∧ wzTi (σ0.1 q) (σ.1 101) t.toInt k.toInt j v.toInt a.toInt b.toInt n.toInt
theorem wzts_0 {q j : Nat} {t k v a b : Int32} {σ0 σ σ' : za_S} (hq : q ≠ 101 ∧ q ≠ 93) (ht : 0 ≤ t.toInt ∧ t.toInt ≤ 1) (hk : 0 ≤ k.toInt ∧ k.toInt ≤ 9) (hab : a.toInt < b.toInt) (h : zfx 101 σ0 σ) (e : σ' = zcp σ q 101 2001) : wzts q t k j v a b a σ0 σ' := ⟨zfx_cp h e, wzTi_0 ht hk hab (fun i hi => by rw [e, zcp_w hi, h.1 q hq.1 hq.2])⟩
theorem wzts_n {q j : Nat} {t k v a b n x : Int32} {σ0 σ : za_S} (hn : n.toInt < b.toInt) (ex : x.toInt = n.toInt + 1) (h : wzts q t k j v a b n σ0 σ) (c : ¬ (0 < (σ0.1 q (zix t k n)).toInt ∧ ¬ wzdc j (σ0.1 q (zix t k n)).toInt = v.toInt)) : wzts q t k j v a b x σ0 σ := by
  unfold wzts
  rw [ex]
  exact ⟨h.1, wzTi_n hn h.2 c⟩
/-- the cell that is laid -/
theorem wzlay_T {x v va re b w : Int32} {j : Nat} {a d : Int} (hx : 0 < x.toInt ∧ x.toInt ≤ 2200) (hv : wzvr j v.toInt) (e1 : va = if j = 1 then v else zvl x) (e2 : re = if j = 1 then zrf x else v) (hb : (b = 0 ∨ b = 1) ∧ (b = 1 ↔ (d = a ∨ (x.toInt - 1) % 2 = 1))) (ew : w = zly va re (if b = 0 then 0 else 1)) : w.toInt = 1 + 2 * wzdn9 j x.toInt v.toInt + (if d = a ∨ (x.toInt - 1) % 2 = 1 then 1 else 0) := by
  have hbb : (if b = 0 then (0 : Int32) else 1) = b := by rcases hb.1 with q | q <;> rw [q] <;> rfl
  have h1 := wz_vlT hx.1
  have h2 := wz_rfT hx.1
  have h3 := z_vl hx.1 hx.2
  have h4 := z_rf hx.1
  have hb9 : b.toInt = if d = a ∨ (x.toInt - 1) % 2 = 1 then 1 else 0 := by
    rcases hb.1 with q | q
    · rw [if_neg (fun z => absurd (hb.2.mpr z) (by rw [q]; decide)), q]; rfl
    · rw [if_pos (hb.2.mp q), q]; rfl
  rw [ew, hbb]
  unfold wzdn9
  rcases hv with q | q
  · rw [if_pos q.1] at e1 e2
    rw [if_pos q.1, e1, e2, z_lyT q.2 h4 hb.1, h2, hb9]
  · rw [if_neg (by omega)] at e1 e2
    rw [if_neg (by omega), e1, e2, z_lyT h3 q.2 hb.1, h1, hb9]
theorem wzspl_T {x : Int32} (hx : 0 < x.toInt ∧ x.toInt ≤ 2200) : (zly (zvl x) (zrf x) 1).toInt = 1 + 2 * ((x.toInt - 1) / 2) + 1 := by
  rw [z_lyT (z_vl hx.1 hx.2) (z_rf hx.1) (Or.inr rfl), wz_vlT hx.1, wz_rfT hx.1, z_one]
  omega
theorem wzunb_T {x : Int32} (hx : 0 < x.toInt ∧ x.toInt ≤ 2200) : (zly (zvl x) (zrf x) 0).toInt = 1 + 2 * ((x.toInt - 1) / 2) := by
  rw [z_lyT (z_vl hx.1 hx.2) (z_rf hx.1) (Or.inl rfl), wz_vlT hx.1, wz_rfT hx.1]
  have h0 : (0 : Int32).toInt = 0 := by decide
  rw [h0]
  omega
theorem wzsi_f {σ : za_S} {w j : Nat} {x : Int32} : (za_si σ w j x).1 w = upd (σ.1 w) j x := za_si_w σ w j x
theorem wzts_y {q j : Nat} {t k v a b n x w : Int32} {σ0 σ σ' : za_S} (ht : 0 ≤ t.toInt ∧ t.toInt ≤ 1) (hk : 0 ≤ k.toInt ∧ k.toInt ≤ 9) (hn : a.toInt ≤ n.toInt ∧ n.toInt < b.toInt ∧ b.toInt ≤ 100 ∧ 0 ≤ a.toInt) (hz : ¬ n.toInt = b.toInt - 1) (ex : x.toInt = n.toInt + 1) (h : wzts q t k j v a b n σ0 σ) (c : 0 < (σ0.1 q (zix t k n)).toInt ∧ ¬ wzdc j (σ0.1 q (zix t k n)).toInt = v.toInt) (ew : w.toInt = 1 + 2 * wzdn9 j (σ0.1 q (zix t k n)).toInt v.toInt + (if n.toInt = a.toInt ∨ ((σ0.1 q (zix t k n)).toInt - 1) % 2 = 1 then 1 else 0)) (e : σ' = za_si σ 101 (zix t k n) w) : wzts q t k j v a b x σ0 σ' := by
  subst e
  unfold wzts
  rw [ex, wzsi_f]
  exact ⟨zfx_si (by decide) h.1, wzTi_y ht hk hn h.2 c ew (fun z => by omega)⟩
theorem wzts_z {q j : Nat} {t k v a b n x w : Int32} {σ0 σ σ1 σ' : za_S} (ht : 0 ≤ t.toInt ∧ t.toInt ≤ 1) (hk : 0 ≤ k.toInt ∧ k.toInt ≤ 9) (hB : zGB (σ0.1 q)) (hn : a.toInt ≤ n.toInt ∧ n.toInt < b.toInt ∧ b.toInt ≤ 100 ∧ 0 ≤ a.toInt) (hz : n.toInt = b.toInt - 1) (ex : x.toInt = n.toInt + 1) (h : wzts q t k j v a b n σ0 σ) (c : 0 < (σ0.1 q (zix t k n)).toInt ∧ ¬ wzdc j (σ0.1 q (zix t k n)).toInt = v.toInt) (ew : w.toInt = 1 + 2 * wzdn9 j (σ0.1 q (zix t k n)).toInt v.toInt + (if n.toInt = a.toInt ∨ ((σ0.1 q (zix t k n)).toInt - 1) % 2 = 1 then 1 else 0)) (e : σ1 = za_si σ 101 (zix t k n) w) (e2 : (zth (σ1.1 101) t k b ∧ σ' = za_si σ1 101 (zix t k b) (zly (zvl (σ1.1 101 (zix t k b))) (zrf (σ1.1 101 (zix t k b))) 1)) ∨ (¬ zth (σ1.1 101) t k b ∧ σ' = σ1)) : wzts q t k j v a b x σ0 σ' := by
  subst e
  have eb : b.toInt ≤ 99 → (za_si σ 101 (zix t k n) w).1 101 (zix t k b) = σ0.1 q (zix t k b) := fun hb => by
    rw [za_si_ne _ _ (Or.inr (by rw [wzix_j, wzix_j]; unfold wzjx; omega))]
    exact (h.2.2 b.toInt (by omega) hb).2.2 (by omega) (by omega)
  unfold wzts
  rw [ex]
  rcases e2 with ⟨z, e2⟩ | ⟨z, e2⟩
  · have hb := z.1
    have hx : 0 < (σ0.1 q (zix t k b)).toInt := by rw [← eb hb.2]; exact z.2
    have h22 := (hB _ (zix_lt ht hk hb).1).2
    rw [eb hb.2] at e2
    rw [e2, wzsi_f, wzsi_f]
    exact ⟨zfx_si (by decide) (zfx_si (by decide) h.1), wzTi_p ht hk (by omega) h.2 c ew hx (wzspl_T ⟨hx, h22⟩)⟩
  · rw [e2, wzsi_f]
    refine ⟨zfx_si (by decide) h.1, wzTi_y ht hk hn h.2 c ew (fun z2 => ?_)⟩
    by_cases hb : b.toInt ≤ 99
    · refine Or.inl (fun z3 => z ⟨by omega, ?_⟩)
      show 0 < _
      rw [eb hb]
      exact z3
    · exact Or.inr (by omega)
def wzFset (t k : Int) (j : Nat) (v a b : Int) (f f' : Nat → Int32) : Prop := (wzrn f t k a b ∧ ∀ i, i < 2001 → f' i = f i) ∨ (¬ wzrn f t k a b ∧ ∃ g, wzFtn f g t k j v a b ∧ wzFtk f g f')
def wzFref (k v a b : Int) (f f' : Nat → Int32) : Prop := (wzrn f 0 k a b ∧ ∀ i, i < 2001 → f' i = f i) ∨ (¬ wzrn f 0 k a b ∧ ∃ g, wzFtn f g 0 k 4 v a b ∧ ((¬ wzFhd g ∧ ∀ i, i < 2001 → f' i = f i) ∨ (wzFhd g ∧ wzFtk f g f')))
def wzFcut (t k a b : Int) (f f' : Nat → Int32) : Prop := (wzrn f t k a b ∧ ∀ i, i < 2001 → f' i = f i) ∨ (¬ wzrn f t k a b ∧ ∃ g, wzFcu f g t k a b ∧ ((¬ wzFhd g ∧ ∀ i, i < 2001 → f' i = f i) ∨ (wzFhd g ∧ wzFtk f g f')))
theorem wzrn_q {f g : Nat → Int32} {t k a b : Int} (e : g = f) (h : wzrn g t k a b) : wzrn f t k a b := e ▸ h
/-! taken out -/
def wzCi (f g : Nat → Int32) (t k a b n : Int) : Prop := wzot f g t k ∧ ∀ d, 0 ≤ d → d ≤ 99 → (a ≤ d ∧ d < n → (g (wzjx t k d)).toInt = 0) ∧
  (d = b ∧ 0 < (f (wzjx t k b)).toInt ∧ 0 < (f (wzjx t k (b - 1))).toInt → (g (wzjx t k d)).toInt = 1 + 2 * (((f (wzjx t k b)).toInt - 1) / 2) + 1) ∧
  (¬ (a ≤ d ∧ d < n) → ¬ (d = b ∧ 0 < (f (wzjx t k b)).toInt ∧ 0 < (f (wzjx t k (b - 1))).toInt) → g (wzjx t k d) = f (wzjx t k d))
def wzcx (q : Nat) (t k a b n : Int32) (σ0 σ : za_S) : Prop := zfx q σ0 σ ∧ wzCi (σ0.1 q) (σ.1 q) t.toInt k.toInt a.toInt b.toInt n.toInt
theorem wz_bm1 {b : Int32} (h : 0 < b.toInt) : (b - 1).toInt = b.toInt - 1 := (wz_pn h).1
theorem wzcx_a {q : Nat} {t k a b : Int32} {σ0 σ : za_S} (hp : (0 ≤ a.toInt ∧ a.toInt ≤ 99) ∧ a.toInt < b.toInt ∧ b.toInt ≤ 100) (hz : zt1 q σ0 σ) (n : zth (σ.1 q) t k (b - 1) → False) : wzcx q t k a b a σ0 σ := by
  have e1 := wz_bm1 (b := b) (by omega)
  refine ⟨hz.1, fun i hi _ => by rw [hz.2], fun d d1 d2 => ⟨fun c => by omega, fun c => ?_, fun _ _ => by rw [hz.2]⟩⟩
  exact (n ⟨by omega, by show 0 < _; rw [hz.2, wzix_j, e1]; exact c.2.2⟩).elim
theorem wzcx_b {q : Nat} {t k a b : Int32} {σ0 σ σ' : za_S} (hq : q ≠ 93) (ht : 0 ≤ t.toInt ∧ t.toInt ≤ 1) (hk : 0 ≤ k.toInt ∧ k.toInt ≤ 9) (hp : (0 ≤ a.toInt ∧ a.toInt ≤ 99) ∧ a.toInt < b.toInt ∧ b.toInt ≤ 100) (hB : zGB (σ0.1 q)) (hz : zt1 q σ0 σ) (hb1 : zth (σ.1 q) t k (b - 1)) (e : (zth (σ.1 q) t k b ∧ σ' = za_si σ q (zix t k b) (zly (zvl (σ.1 q (zix t k b))) (zrf (σ.1 q (zix t k b))) 1)) ∨ (¬ zth (σ.1 q) t k b ∧ σ' = σ)) : wzcx q t k a b a σ0 σ' := by
  rcases e with ⟨h, e⟩ | ⟨h, e⟩
  · rw [hz.2] at h e
    have hb := h.1
    have h22 := (hB _ (zix_lt ht hk hb).1).2
    have hs := wzspl_T ⟨h.2, h22⟩
    subst e
    refine ⟨zfx_si hq hz.1, fun i hi c => ?_, fun d d1 d2 => ?_⟩
    · rw [za_si_ne _ _ (Or.inr (show i ≠ zix t k b from c b.toInt (by omega) (by omega))), hz.2]
    · by_cases z : d = b.toInt
      · subst z
        rw [wzix_j, za_si_same]
        refine ⟨fun c => by omega, fun _ => hs, fun _ c => absurd ⟨rfl, h.2, ?_⟩ c⟩
        have h4 := hb1.2
        rw [hz.2, wzix_j, wz_bm1 (by omega)] at h4
        exact h4
      · rw [za_si_ne _ _ (Or.inr (by rw [wzix_j]; unfold wzjx; omega)), hz.2]
        exact ⟨fun c => by omega, fun c => absurd c.1 z, fun _ _ => rfl⟩
  · subst e
    refine ⟨hz.1, fun i hi _ => by rw [hz.2], fun d d1 d2 => ⟨fun c => by omega, fun c => ?_, fun _ _ => by rw [hz.2]⟩⟩
    exact absurd ⟨by omega, by show 0 < _; rw [hz.2]; exact c.2.1⟩ h
theorem wzcx_s {q : Nat} {t k a b n r : Int32} {σ0 σ : za_S} (hq : q ≠ 93) (ht : 0 ≤ t.toInt ∧ t.toInt ≤ 1) (hk : 0 ≤ k.toInt ∧ k.toInt ≤ 9) (hn : 0 ≤ a.toInt ∧ a.toInt ≤ n.toInt ∧ n.toInt < b.toInt ∧ b.toInt ≤ 100) (h : wzcx q t k a b n σ0 σ) (er : r.toNatClampNeg = zix t k n) : zfx q σ0 (za_si σ q r.toNatClampNeg 0) ∧ wzCi (σ0.1 q) ((za_si σ q r.toNatClampNeg 0).1 q) t.toInt k.toInt a.toInt b.toInt (n.toInt + 1) := by
  rw [er]
  refine ⟨zfx_si hq h.1, fun i hi c => ?_, fun d d1 d2 => ?_⟩
  · rw [za_si_ne _ _ (Or.inr (show i ≠ zix t k n from c n.toInt (by omega) (by omega)))]
    exact h.2.1 i hi c
  · have h3 := h.2.2 d d1 d2
    by_cases z : d = n.toInt
    · subst z
      rw [wzix_j, za_si_same]
      exact ⟨fun _ => rfl, fun c => by omega, fun c => by omega⟩
    · rw [za_si_ne _ _ (Or.inr (by rw [wzix_j]; unfold wzjx; omega))]
      exact ⟨fun c => h3.1 (by omega), h3.2.1, fun c => h3.2.2 (by omega)⟩
theorem wzcx_n {q : Nat} {t k a b n x : Int32} {σ0 σ : za_S} (h : zfx q σ0 σ ∧ wzCi (σ0.1 q) (σ.1 q) t.toInt k.toInt a.toInt b.toInt (n.toInt + 1)) (e : x.toInt = n.toInt + 1) : wzcx q t k a b x σ0 σ := by
  unfold wzcx
  rw [e]
  exact h
theorem wzcx_f {q : Nat} {t k a b n : Int32} {σ0 σ : za_S} (h : wzcx q t k a b n σ0 σ) (e : n.toInt = b.toInt) : zfx q σ0 σ ∧ wzFcu (σ0.1 q) (σ.1 q) t.toInt k.toInt a.toInt b.toInt := by
  unfold wzcx at h
  rw [e] at h
  exact h
/-! joined -/
def wzjc (f : Nat → Int32) (t k d : Int) : Prop := 1 ≤ d ∧ (0 < (f (wzjx t k d)).toInt ∧ ((f (wzjx t k d)).toInt - 1) % 2 = 1) ∧ 0 < (f (wzjx t k (d - 1))).toInt ∧ ((f (wzjx t k d)).toInt - 1) / 2 = ((f (wzjx t k (d - 1))).toInt - 1) / 2
def wzJp (f g : Nat → Int32) (t K D : Int) : Prop := (∀ i, i < 2001 → (∀ k d, 0 ≤ k → k ≤ 9 → 0 ≤ d → d ≤ 99 → i ≠ wzjx t k d) → g i = f i) ∧ ∀ k d, 0 ≤ k → k ≤ 9 → 0 ≤ d → d ≤ 99 →
  ((k < K ∨ (k = K ∧ d < D)) ∧ wzjc f t k d → (g (wzjx t k d)).toInt = 1 + 2 * (((f (wzjx t k d)).toInt - 1) / 2)) ∧ (¬ ((k < K ∨ (k = K ∧ d < D)) ∧ wzjc f t k d) → g (wzjx t k d) = f (wzjx t k d))
theorem wzJp_0 (f : Nat → Int32) (t : Int) : wzJp f f t 0 1 := ⟨fun _ _ _ => rfl, fun k d h1 h2 h3 h4 => ⟨fun q => by have := q.2.1; omega, fun _ => rfl⟩⟩
theorem wzJp_r {f g : Nat → Int32} {t K D : Int} (hD : 100 ≤ D) (h : wzJp f g t K D) : wzJp f g t (K + 1) 1 := by
  refine ⟨h.1, fun k d h1 h2 h3 h4 => ?_⟩
  have h5 := h.2 k d h1 h2 h3 h4
  refine ⟨fun q => h5.1 ⟨by have := q.2.1; omega, q.2⟩, fun q => ?_⟩
  by_cases c : (k < K ∨ (k = K ∧ d < D)) ∧ wzjc f t k d
  · exact absurd ⟨by omega, c.2⟩ q
  · exact h5.2 c
theorem wzJp_f {f g : Nat → Int32} {t K D : Int} (hK : K = 10) (h : wzJp f g t K D) : wzFjo f g t := by
  subst hK
  refine ⟨h.1, fun k d h1 h2 h3 h4 => ⟨fun q => (h.2 k d h1 h2 h3 h4).1 ⟨by omega, q⟩, fun q => by rw [(h.2 k d h1 h2 h3 h4).2 (fun z => q z.2)]⟩⟩
theorem wzJp_n {f g : Nat → Int32} {t K D : Int} (h : wzJp f g t K D) (c : ¬ wzjc f t K D) : wzJp f g t K (D + 1) := by
  refine ⟨h.1, fun k d h1 h2 h3 h4 => ?_⟩
  have h5 := h.2 k d h1 h2 h3 h4
  by_cases z : k = K ∧ d = D
  · rw [z.1, z.2] at h5 ⊢
    exact ⟨fun q => absurd q.2 c, fun _ => h5.2 (fun q => c q.2)⟩
  · exact ⟨fun q => h5.1 ⟨by omega, q.2⟩, fun q => h5.2 (fun z2 => q ⟨by omega, z2.2⟩)⟩
theorem wzJp_y {f g : Nat → Int32} {t K D : Int} {x : Int32} (ht : 0 ≤ t ∧ t ≤ 1) (hK : 0 ≤ K ∧ K ≤ 9) (hD : 0 ≤ D ∧ D ≤ 99) (h : wzJp f g t K D) (c : wzjc f t K D) (ex : x.toInt = 1 + 2 * (((f (wzjx t K D)).toInt - 1) / 2)) : wzJp f (upd g (wzjx t K D) x) t K (D + 1) := by
  refine ⟨fun i hi q => ?_, fun k d h1 h2 h3 h4 => ?_⟩
  · rw [zupd_n (q K D hK.1 hK.2 hD.1 hD.2)]
    exact h.1 i hi q
  · have h5 := h.2 k d h1 h2 h3 h4
    by_cases z : k = K ∧ d = D
    · rw [z.1, z.2, zupd_s]
      exact ⟨fun _ => ex, fun q => absurd ⟨by omega, c⟩ q⟩
    · rw [zupd_n (show wzjx t k d ≠ wzjx t K D by unfold wzjx; omega)]
      exact ⟨fun q => h5.1 ⟨by omega, q.2⟩, fun q => h5.2 (fun z2 => q ⟨by omega, z2.2⟩)⟩
/-- of the cell ahead of a day, and of the day's own -/
theorem wzJp_c {f g : Nat → Int32} {t K D : Int} (hK : 0 ≤ K ∧ K ≤ 9) (hD : 1 ≤ D ∧ D ≤ 99) (h : wzJp f g t K D) : g (wzjx t K D) = f (wzjx t K D) ∧ (0 < (g (wzjx t K (D - 1))).toInt ↔ 0 < (f (wzjx t K (D - 1))).toInt) ∧ (0 < (f (wzjx t K (D - 1))).toInt → ((g (wzjx t K (D - 1))).toInt - 1) / 2 = ((f (wzjx t K (D - 1))).toInt - 1) / 2) := by
  refine ⟨(h.2 K D hK.1 hK.2 (by omega) (by omega)).2 (fun q => by omega), ?_⟩
  have h5 := h.2 K (D - 1) hK.1 hK.2 (by omega) (by omega)
  by_cases c : wzjc f t K (D - 1)
  · have h6 := h5.1 ⟨by omega, c⟩
    have h7 := c.2.1
    omega
  · rw [h5.2 (fun q => c q.2)]
    exact ⟨Iff.rfl, fun _ => rfl⟩
def wzjs (q : Nat) (t k d : Int32) (σ0 σ : za_S) : Prop := zfx q σ0 σ ∧ wzJp (σ0.1 q) (σ.1 q) t.toInt k.toInt d.toInt
/-- alike, as the reference asks -/
theorem wzjc_T {f g : Nat → Int32} {t k d a b a' b' : Int32} (hk : 0 ≤ k.toInt ∧ k.toInt ≤ 9) (hd : 1 ≤ d.toInt ∧ d.toInt ≤ 99) (h : wzJp f g t.toInt k.toInt d.toInt) (t1 : zbg g t k d) (t2 : zth g t k (d - 1)) (e1 : a = zvl (g (zix t k d))) (e2 : a' = zvl (g (zix t k (d - 1)))) (e3 : b = zrf (g (zix t k d))) (e4 : b' = zrf (g (zix t k (d - 1)))) (c1 : a = a') (c2 : b = b') : wzjc f t.toInt k.toInt d.toInt := by
  have hc := wzJp_c hk hd h
  have hm := wz_bm1 (b := d) (by omega)
  have x1 : 0 < (g (wzjx t.toInt k.toInt d.toInt)).toInt := t1.2.1
  have x2 : ((g (wzjx t.toInt k.toInt d.toInt)).toInt - 1) % 2 = 1 := t1.2.2
  have y1 : 0 < (g (wzjx t.toInt k.toInt (d.toInt - 1))).toInt := by
    have := t2.2
    rw [wzix_j, hm] at this
    exact this
  rw [wzix_j] at e1 e3
  rw [wzix_j, hm] at e2 e4
  have v1 := congrArg Int32.toInt c1
  have v2 := congrArg Int32.toInt c2
  rw [e1, e2, wz_vlT x1, wz_vlT y1] at v1
  rw [e3, e4, wz_rfT x1, wz_rfT y1] at v2
  rw [hc.1] at x1 x2 v1 v2
  have h3 := hc.2.2 (hc.2.1.mp y1)
  refine ⟨hd.1, ⟨x1, x2⟩, hc.2.1.mp y1, ?_⟩
  rw [← h3]
  omega
theorem wzjc_F1 {f g : Nat → Int32} {t k d : Int32} (hk : 0 ≤ k.toInt ∧ k.toInt ≤ 9) (hd : 1 ≤ d.toInt ∧ d.toInt ≤ 99) (h : wzJp f g t.toInt k.toInt d.toInt) (n : zbg g t k d → False) : ¬ wzjc f t.toInt k.toInt d.toInt := fun q => n ⟨by omega, by rw [wzix_j, (wzJp_c hk hd h).1]; exact q.2.1⟩
theorem wzjc_F2 {f g : Nat → Int32} {t k d : Int32} (hk : 0 ≤ k.toInt ∧ k.toInt ≤ 9) (hd : 1 ≤ d.toInt ∧ d.toInt ≤ 99) (h : wzJp f g t.toInt k.toInt d.toInt) (n : zth g t k (d - 1) → False) : ¬ wzjc f t.toInt k.toInt d.toInt := fun q => by
  have hm := wz_bm1 (b := d) (by omega)
  exact n ⟨by omega, by show 0 < _; rw [wzix_j, hm]; exact (wzJp_c hk hd h).2.1.mpr q.2.2.1⟩
theorem wzjc_F3 {f g : Nat → Int32} {t k d a b a' b' : Int32} (hk : 0 ≤ k.toInt ∧ k.toInt ≤ 9) (hd : 1 ≤ d.toInt ∧ d.toInt ≤ 99) (h : wzJp f g t.toInt k.toInt d.toInt) (t1 : zbg g t k d) (t2 : zth g t k (d - 1)) (e1 : a = zvl (g (zix t k d))) (e2 : a' = zvl (g (zix t k (d - 1)))) (c1 : ¬ a = a') : ¬ wzjc f t.toInt k.toInt d.toInt := fun q => by
  have hc := wzJp_c hk hd h
  have hm := wz_bm1 (b := d) (by omega)
  have x1 : 0 < (g (wzjx t.toInt k.toInt d.toInt)).toInt := t1.2.1
  have y1 : 0 < (g (wzjx t.toInt k.toInt (d.toInt - 1))).toInt := by
    have := t2.2
    rw [wzix_j, hm] at this
    exact this
  rw [wzix_j] at e1
  rw [wzix_j, hm] at e2
  refine c1 (Int32.toInt_inj.mp ?_)
  have h3 := hc.2.2 (hc.2.1.mp y1)
  rw [e1, e2, wz_vlT x1, wz_vlT y1, hc.1, h3, q.2.2.2]
theorem wzjc_F4 {f g : Nat → Int32} {t k d a b a' b' : Int32} (hk : 0 ≤ k.toInt ∧ k.toInt ≤ 9) (hd : 1 ≤ d.toInt ∧ d.toInt ≤ 99) (h : wzJp f g t.toInt k.toInt d.toInt) (t1 : zbg g t k d) (t2 : zth g t k (d - 1)) (e1 : a = zrf (g (zix t k d))) (e2 : a' = zrf (g (zix t k (d - 1)))) (c1 : ¬ a = a') : ¬ wzjc f t.toInt k.toInt d.toInt := fun q => by
  have hc := wzJp_c hk hd h
  have hm := wz_bm1 (b := d) (by omega)
  have x1 : 0 < (g (wzjx t.toInt k.toInt d.toInt)).toInt := t1.2.1
  have y1 : 0 < (g (wzjx t.toInt k.toInt (d.toInt - 1))).toInt := by
    have := t2.2
    rw [wzix_j, hm] at this
    exact this
  rw [wzix_j] at e1
  rw [wzix_j, hm] at e2
  refine c1 (Int32.toInt_inj.mp ?_)
  have h3 := hc.2.2 (hc.2.1.mp y1)
  rw [e1, e2, wz_rfT x1, wz_rfT y1, hc.1, h3, q.2.2.2]
theorem wzjs_n {q : Nat} {t k d x : Int32} {σ0 σ : za_S} (ex : x.toInt = d.toInt + 1) (h : wzjs q t k d σ0 σ) (c : ¬ wzjc (σ0.1 q) t.toInt k.toInt d.toInt) : wzjs q t k x σ0 σ := by
  unfold wzjs
  rw [ex]
  exact ⟨h.1, wzJp_n h.2 c⟩
theorem wzjs_y {q : Nat} {t k d a b : Int32} {σ0 σ σ' : za_S} (hq : q ≠ 93) (ht : 0 ≤ t.toInt ∧ t.toInt ≤ 1) (hk : 0 ≤ k.toInt ∧ k.toInt ≤ 9) (hd : 1 ≤ d.toInt ∧ d.toInt ≤ 99) (hB : zGB (σ0.1 q)) (h : wzjs q t k d σ0 σ) (c : wzjc (σ0.1 q) t.toInt k.toInt d.toInt) (e1 : a = zvl (σ.1 q (zix t k d))) (e2 : b = zrf (σ.1 q (zix t k d))) (e : σ' = za_si σ q (zix t k d) (zly a b (if (0 : Int32) = 0 then 0 else 1))) : zfx q σ0 σ' ∧ wzJp (σ0.1 q) (σ'.1 q) t.toInt k.toInt (d.toInt + 1) := by
  rw [if_pos rfl, e1, e2, wzix_j, (wzJp_c hk hd h.2).1] at e
  rw [e, wzsi_f]
  have h22 := (hB _ (zix_lt ht hk (show 0 ≤ d.toInt ∧ d.toInt ≤ 99 by omega)).1).2
  exact ⟨zfx_si hq h.1, wzJp_y ht hk (by omega) h.2 c (wzunb_T ⟨c.2.1.1, h22⟩)⟩
theorem wzh9 {x r : Int32} (h : r = zrf x) (k : r.toInt = 10) : (zrf x).toInt = 10 := by rw [← h]; exact k
theorem wzh8 {g : Nat → Int32} {x r d : Int32} (h : r = zrf x) (k : zth g 1 r d) : 0 < (g (wzjx 1 (zrf x).toInt d.toInt)).toInt := by rw [← h]; exact k.2
theorem wzh7 {x r : Int32} (h : r = zrf x) (hx : 0 < x.toInt) (k : (x.toInt - 1) / 2 % 11 = 10) : r.toInt = 10 := by rw [h, wz_rfT hx]; exact k
theorem wzh6 {g : Nat → Int32} {x r d : Int32} (h : r = zrf x) (hx : 0 < x.toInt) (hd : 0 ≤ d.toInt ∧ d.toInt ≤ 99) (k : 0 < (g (wzjx 1 ((x.toInt - 1) / 2 % 11) d.toInt)).toInt) : zth g 1 r d := ⟨hd, by show 0 < _; rw [wzix_j, h, wz_rfT hx]; exact k⟩
theorem wzch1 {x a v : Int32} (hx : 0 < x.toInt) (e : a = zvl x) (c : ¬ a = v) : ¬ wzdc 1 x.toInt = v.toInt := fun q => c (Int32.toInt_inj.mp (by rw [e, wz_vlT hx]; exact q))
theorem wzch4 {x a v : Int32} (hx : 0 < x.toInt) (e : a = zrf x) (c : ¬ a = v) : ¬ wzdc 4 x.toInt = v.toInt := fun q => c (Int32.toInt_inj.mp (by rw [e, wz_rfT hx]; exact q))
theorem wzcq1 {x a v : Int32} (hx : 0 < x.toInt) (e : a = zvl x) (c : a = v) : wzdc 1 x.toInt = v.toInt := by
  rw [← c, e, wz_vlT hx]
  rfl
theorem wzcq4 {x a v : Int32} (hx : 0 < x.toInt) (e : a = zrf x) (c : a = v) : wzdc 4 x.toInt = v.toInt := by
  rw [← c, e, wz_rfT hx]
  rfl
theorem wzFcu_c {f f' g : Nat → Int32} {t k a b : Int} (ht : 0 ≤ t ∧ t ≤ 1) (hk : 0 ≤ k ∧ k ≤ 9) (hp : 0 ≤ a ∧ a < b ∧ b ≤ 100) (e : ∀ i, i < 2001 → f i = f' i) (h : wzFcu f g t k a b) : wzFcu f' g t k a b := by
  refine ⟨fun i hi c => by rw [← e i hi]; exact h.1 i hi c, fun d d1 d2 => ?_⟩
  have h3 := h.2 d d1 d2
  rw [e _ (show wzjx t k b < 2001 by unfold wzjx; omega), e _ (show wzjx t k (b - 1) < 2001 by unfold wzjx; omega), e _ (show wzjx t k d < 2001 by unfold wzjx; omega)] at h3
  exact h3
theorem wzcu_q {q : Nat} {t k a b : Int} {σ0 σ σ1 σ2 : za_S} (ht : 0 ≤ t ∧ t ≤ 1) (hk : 0 ≤ k ∧ k ≤ 9) (hp : 0 ≤ a ∧ a < b ∧ b ≤ 100) (hq : q ≠ 101 ∧ q ≠ 93) (h0 : zfx 101 σ0 σ) (e : σ1 = zcp σ q 101 2001) (h : wzFcu (σ1.1 101) (σ2.1 101) t k a b) : wzFcu (σ0.1 q) (σ2.1 101) t k a b := wzFcu_c ht hk hp (fun i hi => by rw [e, zcp_w hi, h0.1 q hq.1 hq.2]) h
theorem wzcu_w {f g : Nat → Int32} {t k a b : Int} (ht : 0 ≤ t ∧ t ≤ 1) (hk : 0 ≤ k ∧ k ≤ 9) (h : wzFcu f g t k a b) : g 2000 = f 2000 := h.1 2000 (by decide) (fun d d1 d2 => by unfold wzjx; omega)
theorem wzjs_r {q : Nat} {t k d x : Int32} {σ0 σ : za_S} (hd : 100 ≤ d.toInt) (ex : x.toInt = k.toInt + 1) (h : wzjs q t k d σ0 σ) : wzjs q t x 1 σ0 σ := by
  unfold wzjs
  rw [ex]
  exact ⟨h.1, wzJp_r hd h.2⟩
theorem wzjs_m {q : Nat} {t k d x : Int32} {σ0 σ : za_S} (ex : x.toInt = d.toInt + 1) (h : zfx q σ0 σ ∧ wzJp (σ0.1 q) (σ.1 q) t.toInt k.toInt (d.toInt + 1)) : wzjs q t k x σ0 σ := by
  unfold wzjs
  rw [ex]
  exact h
set_option maxHeartbeats 4000000 in
set_option maxRecDepth 100000 in
theorem zc_X10_rowsIn_atx (l : Launch) (E : za_E) (q : Nat) (t : Int32) (k : Int32) (fd : Int32) (td : Int32) (σ : za_S) (ht : 0 ≤ t.toInt ∧ t.toInt ≤ 1) (hk : 0 ≤ k.toInt ∧ k.toInt ≤ 9) (hp : (0 ≤ fd.toInt ∧ fd.toInt ≤ 99) ∧ fd.toInt < td.toInt ∧ td.toInt ≤ 100) : zMi l E yX10_rowsIn cX10_rowsIn 7 (Option.some Jvm.ClassFile.FieldType.int) 5 112 [za_O 22 q, za_I t, za_I k, za_I fd, za_I td] σ (fun r σ' => (0 ≤ r.toInt ∧ (r.toInt = 0 ↔ wzrn (σ.1 q) t.toInt k.toInt fd.toInt td.toInt)) ∧ σ' = σ) := by
  refine zMi_of [(0, za_O 22 q), (1, za_I t), (2, za_I k), (3, za_I fd), (4, za_I td)] (by decide) rfl rfl (Nat.le_of_ble_eq_true rfl) ?_
  intro ho p e s m args below meth c G hr
  have h_q : za_kd q = 22 := za_okO (by decide) (List.forall_mem_cons.mp ho).1
  refine zv_iconst (v := 0) G dX10_rowsIn_0 (by decide) ?_
  refine zv_istore (lv' := [(5, za_I 0), (0, za_O 22 q), (1, za_I t), (2, za_I k), (3, za_I fd), (4, za_I td)]) G dX10_rowsIn_1 (by decide) rfl ?_
  refine zv_iload_n (j := 4) G dX10_rowsIn_3 rfl rfl ?_
  have J_6 : ∀ (n : Nat) (y5_6 : Int32) (y6_6 : Int32) (g_6 : fd.toInt ≤ y6_6.toInt ∧ y6_6.toInt ≤ td.toInt ∧ 0 ≤ y5_6.toInt ∧ y5_6.toInt ≤ y6_6.toInt) (a_6 : wzal2 (fun d => 0 < (σ.1 q (wzjx t.toInt k.toInt d)).toInt ∧ (d = fd.toInt ∨ ((σ.1 q (wzjx t.toInt k.toInt d)).toInt - 1) % 2 = 1)) y5_6.toInt fd.toInt y6_6.toInt) (hn_6 : (2147483648 - y6_6.toInt).toNat < n), zV p l e (zRm 5 112) s m args below meth c E (za_A E) 7 0 0 (MQ below (va_Qi (fun r σ' => (0 ≤ r.toInt ∧ (r.toInt = 0 ↔ wzrn (σ.1 q) t.toInt k.toInt fd.toInt td.toInt)) ∧ σ' = σ) (zB E) (za_A E)) args s 0 0 (za_A E)) 6 [(0, za_O 22 q), (1, za_I t), (2, za_I k), (3, za_I fd), (4, za_I td), (5, za_I y5_6), (6, za_I y6_6)] [] σ := by
    intro n
    induction n with
    | zero => intro y5_6 y6_6 g_6 a_6 hn; exact absurd hn (Nat.not_lt_zero _)
    | succ n ih_6 =>
      intro y5_6 y6_6 g_6 a_6 hn_6
      refine zv_iload (j := 6) G dX10_rowsIn_6 rfl ?_
      refine zv_iload (j := 4) G dX10_rowsIn_8 rfl ?_
      refine zv_icmp_ge (tgt := 60) G dX10_rowsIn_10 (by decide) (fun c_10 => ?_) (fun c_10 => ?_)
      · have k_10 := z_cle c_10 (a := td.toInt) (b := y6_6.toInt) rfl rfl
        refine zv_iload (j := 5) G dX10_rowsIn_60 rfl ?_
        exact zv_iret G hr dX10_rowsIn_62 ⟨⟨by omega, by have h9 := wzal2_m a_6 rfl (show td.toInt = y6_6.toInt by omega); exact h9⟩, rfl⟩
      · have k_10 := z_cnle c_10 (a := td.toInt) (b := y6_6.toInt) rfl rfl
        refine zv_iload (j := 5) G dX10_rowsIn_13 rfl ?_
        refine zv_aload_n (j := 0) G dX10_rowsIn_15 rfl rfl ?_
        refine zv_iload_n (j := 1) G dX10_rowsIn_16 rfl rfl ?_
        refine zv_iload_n (j := 2) G dX10_rowsIn_17 rfl rfl ?_
        refine zv_iload (j := 6) G dX10_rowsIn_18 rfl ?_
        refine zv_callSi (as := [za_O 22 q, za_I t, za_I k, za_I y6_6]) G (zc_X10_isThere l E q t k y6_6 σ (by first | assumption | decide | omega) (by first | assumption | decide | omega)) zk_X10_isThere zm_1324 rfl ⟨(Nat.le_of_ble_eq_true rfl), (Nat.le_of_ble_eq_true rfl)⟩ ⟨Nat.zero_le _, Nat.zero_le _⟩ (Nat.le_of_ble_eq_true rfl) dX10_rowsIn_20 (fun r_20 σ h_20 => ?_)
        obtain ⟨h_20, rfl⟩ := h_20
        refine zv_if_eq (tgt := 47) G dX10_rowsIn_23 (by decide) (fun c_23 => ?_) (fun c_23 => ?_)
        · have f_20 := fun q9 => (h_20.2.mpr q9) c_23
          refine zv_iconst (v := 0) G dX10_rowsIn_47 (by decide) ?_
          refine zv_callSi (as := [za_I 0]) G (zc_X10_flag l E (0 : Int32) σ ) zk_X10_flag zm_1355 rfl ⟨(Nat.le_of_ble_eq_true rfl), (Nat.le_of_ble_eq_true rfl)⟩ ⟨Nat.zero_le _, Nat.zero_le _⟩ (Nat.le_of_ble_eq_true rfl) dX10_rowsIn_48 (fun r_48 σ h_48 => ?_)
          obtain ⟨h_48, rfl⟩ := h_48
          have g_48 := z_flagT h_48.2 (a := 0) rfl
          refine zv_iadd G dX10_rowsIn_51 ?_
          refine zv_top (fun x_52 e_52 => ?_)
          first | have q_52 := z_addf e_52 (a := y5_6.toInt) (b := r_48.toInt) rfl rfl (by omega) (by omega) | skip
          refine zv_istore (lv' := [(5, za_I x_52), (0, za_O 22 q), (1, za_I t), (2, za_I k), (3, za_I fd), (4, za_I td), (6, za_I y6_6)]) G dX10_rowsIn_52 (by decide) rfl ?_
          obtain ⟨x_54, e_54⟩ : ∃ y : Int32, y = y6_6 + 1 := ⟨_, rfl⟩
          refine zv_iinc (j := 6) (v := x_54) (lv' := [(6, za_I x_54), (5, za_I x_52), (0, za_O 22 q), (1, za_I t), (2, za_I k), (3, za_I fd), (4, za_I td)]) G dX10_rowsIn_54 rfl (by rw [e_54]; rfl) (by decide) rfl ?_
          first | have q_54 := z_inc9 (by omega) e_54 | skip
          refine zv_goto (tgt := 6) G dX10_rowsIn_57 (by decide) ?_
          refine zv_sub [2, 3, 4, 5, 6, 1, 0] (lv' := [(0, za_O 22 q), (1, za_I t), (2, za_I k), (3, za_I fd), (4, za_I td), (5, za_I x_52), (6, za_I x_54)]) rfl ?_
          exact ih_6 x_52 x_54 (by omega) (by rw [q_54]; first | exact wzal2_y ⟨t_20.2, Or.inl k_29⟩ (by omega) (by omega) | exact wzal2_y ⟨t_20.2, Or.inr t_37.2.2⟩ (by omega) (by omega) | exact wzal2_m (wzal2_n a_6 (fun z => f_20 ⟨by omega, z.1⟩)) (by omega) rfl | exact wzal2_m (wzal2_n a_6 (fun z => z.2.elim k_29 (fun z2 => f_37 ⟨by omega, z.1, z2⟩))) (by omega) rfl) (z_meas c_10 e_54 hn_6)
        · have t_20 := h_20.2.mp c_23
          refine zv_iload (j := 6) G dX10_rowsIn_26 rfl ?_
          refine zv_iload_n (j := 3) G dX10_rowsIn_28 rfl rfl ?_
          refine zv_icmp_eq (tgt := 43) G dX10_rowsIn_29 (by decide) (fun c_29 => ?_) (fun c_29 => ?_)
          · have k_29 := z_ceq c_29 (a := y6_6.toInt) (b := fd.toInt) rfl rfl
            refine zv_iconst (v := 1) G dX10_rowsIn_43 (by decide) ?_
            refine zv_goto (tgt := 48) G dX10_rowsIn_44 (by decide) ?_
            refine zv_callSi (as := [za_I 1]) G (zc_X10_flag l E (1 : Int32) σ ) zk_X10_flag zm_1355 rfl ⟨(Nat.le_of_ble_eq_true rfl), (Nat.le_of_ble_eq_true rfl)⟩ ⟨Nat.zero_le _, Nat.zero_le _⟩ (Nat.le_of_ble_eq_true rfl) dX10_rowsIn_48 (fun r_48 σ h_48 => ?_)
            obtain ⟨h_48, rfl⟩ := h_48
            have g_48 := z_flagT h_48.2 (a := 1) rfl
            refine zv_iadd G dX10_rowsIn_51 ?_
            refine zv_top (fun x_52 e_52 => ?_)
            first | have q_52 := z_addf e_52 (a := y5_6.toInt) (b := r_48.toInt) rfl rfl (by omega) (by omega) | skip
            refine zv_istore (lv' := [(5, za_I x_52), (0, za_O 22 q), (1, za_I t), (2, za_I k), (3, za_I fd), (4, za_I td), (6, za_I y6_6)]) G dX10_rowsIn_52 (by decide) rfl ?_
            obtain ⟨x_54, e_54⟩ : ∃ y : Int32, y = y6_6 + 1 := ⟨_, rfl⟩
            refine zv_iinc (j := 6) (v := x_54) (lv' := [(6, za_I x_54), (5, za_I x_52), (0, za_O 22 q), (1, za_I t), (2, za_I k), (3, za_I fd), (4, za_I td)]) G dX10_rowsIn_54 rfl (by rw [e_54]; rfl) (by decide) rfl ?_
            first | have q_54 := z_inc9 (by omega) e_54 | skip
            refine zv_goto (tgt := 6) G dX10_rowsIn_57 (by decide) ?_
            refine zv_sub [2, 3, 4, 5, 6, 1, 0] (lv' := [(0, za_O 22 q), (1, za_I t), (2, za_I k), (3, za_I fd), (4, za_I td), (5, za_I x_52), (6, za_I x_54)]) rfl ?_
            exact ih_6 x_52 x_54 (by omega) (by rw [q_54]; first | exact wzal2_y ⟨t_20.2, Or.inl k_29⟩ (by omega) (by omega) | exact wzal2_y ⟨t_20.2, Or.inr t_37.2.2⟩ (by omega) (by omega) | exact wzal2_m (wzal2_n a_6 (fun z => f_20 ⟨by omega, z.1⟩)) (by omega) rfl | exact wzal2_m (wzal2_n a_6 (fun z => z.2.elim k_29 (fun z2 => f_37 ⟨by omega, z.1, z2⟩))) (by omega) rfl) (z_meas c_10 e_54 hn_6)
          · have k_29 := z_cne c_29 (a := y6_6.toInt) (b := fd.toInt) rfl rfl
            refine zv_aload_n (j := 0) G dX10_rowsIn_32 rfl rfl ?_
            refine zv_iload_n (j := 1) G dX10_rowsIn_33 rfl rfl ?_
            refine zv_iload_n (j := 2) G dX10_rowsIn_34 rfl rfl ?_
            refine zv_iload (j := 6) G dX10_rowsIn_35 rfl ?_
            refine zv_callSi (as := [za_O 22 q, za_I t, za_I k, za_I y6_6]) G (zc_X10_begins l E q t k y6_6 σ (by first | assumption | decide | omega) (by first | assumption | decide | omega)) zk_X10_begins zm_1321 rfl ⟨(Nat.le_of_ble_eq_true rfl), (Nat.le_of_ble_eq_true rfl)⟩ ⟨Nat.zero_le _, Nat.zero_le _⟩ (Nat.le_of_ble_eq_true rfl) dX10_rowsIn_37 (fun r_37 σ h_37 => ?_)
            obtain ⟨h_37, rfl⟩ := h_37
            refine zv_if_eq (tgt := 47) G dX10_rowsIn_40 (by decide) (fun c_40 => ?_) (fun c_40 => ?_)
            · have f_37 := fun q9 => (h_37.2.mpr q9) c_40
              refine zv_iconst (v := 0) G dX10_rowsIn_47 (by decide) ?_
              refine zv_callSi (as := [za_I 0]) G (zc_X10_flag l E (0 : Int32) σ ) zk_X10_flag zm_1355 rfl ⟨(Nat.le_of_ble_eq_true rfl), (Nat.le_of_ble_eq_true rfl)⟩ ⟨Nat.zero_le _, Nat.zero_le _⟩ (Nat.le_of_ble_eq_true rfl) dX10_rowsIn_48 (fun r_48 σ h_48 => ?_)
              obtain ⟨h_48, rfl⟩ := h_48
              have g_48 := z_flagT h_48.2 (a := 0) rfl
              refine zv_iadd G dX10_rowsIn_51 ?_
              refine zv_top (fun x_52 e_52 => ?_)
              first | have q_52 := z_addf e_52 (a := y5_6.toInt) (b := r_48.toInt) rfl rfl (by omega) (by omega) | skip
              refine zv_istore (lv' := [(5, za_I x_52), (0, za_O 22 q), (1, za_I t), (2, za_I k), (3, za_I fd), (4, za_I td), (6, za_I y6_6)]) G dX10_rowsIn_52 (by decide) rfl ?_
              obtain ⟨x_54, e_54⟩ : ∃ y : Int32, y = y6_6 + 1 := ⟨_, rfl⟩
              refine zv_iinc (j := 6) (v := x_54) (lv' := [(6, za_I x_54), (5, za_I x_52), (0, za_O 22 q), (1, za_I t), (2, za_I k), (3, za_I fd), (4, za_I td)]) G dX10_rowsIn_54 rfl (by rw [e_54]; rfl) (by decide) rfl ?_
              first | have q_54 := z_inc9 (by omega) e_54 | skip
              refine zv_goto (tgt := 6) G dX10_rowsIn_57 (by decide) ?_
              refine zv_sub [2, 3, 4, 5, 6, 1, 0] (lv' := [(0, za_O 22 q), (1, za_I t), (2, za_I k), (3, za_I fd), (4, za_I td), (5, za_I x_52), (6, za_I x_54)]) rfl ?_
              exact ih_6 x_52 x_54 (by omega) (by rw [q_54]; first | exact wzal2_y ⟨t_20.2, Or.inl k_29⟩ (by omega) (by omega) | exact wzal2_y ⟨t_20.2, Or.inr t_37.2.2⟩ (by omega) (by omega) | exact wzal2_m (wzal2_n a_6 (fun z => f_20 ⟨by omega, z.1⟩)) (by omega) rfl | exact wzal2_m (wzal2_n a_6 (fun z => z.2.elim k_29 (fun z2 => f_37 ⟨by omega, z.1, z2⟩))) (by omega) rfl) (z_meas c_10 e_54 hn_6)
            · have t_37 := h_37.2.mp c_40
              refine zv_iconst (v := 1) G dX10_rowsIn_43 (by decide) ?_
              refine zv_goto (tgt := 48) G dX10_rowsIn_44 (by decide) ?_
              refine zv_callSi (as := [za_I 1]) G (zc_X10_flag l E (1 : Int32) σ ) zk_X10_flag zm_1355 rfl ⟨(Nat.le_of_ble_eq_true rfl), (Nat.le_of_ble_eq_true rfl)⟩ ⟨Nat.zero_le _, Nat.zero_le _⟩ (Nat.le_of_ble_eq_true rfl) dX10_rowsIn_48 (fun r_48 σ h_48 => ?_)
              obtain ⟨h_48, rfl⟩ := h_48
              have g_48 := z_flagT h_48.2 (a := 1) rfl
              refine zv_iadd G dX10_rowsIn_51 ?_
              refine zv_top (fun x_52 e_52 => ?_)
              first | have q_52 := z_addf e_52 (a := y5_6.toInt) (b := r_48.toInt) rfl rfl (by omega) (by omega) | skip
              refine zv_istore (lv' := [(5, za_I x_52), (0, za_O 22 q), (1, za_I t), (2, za_I k), (3, za_I fd), (4, za_I td), (6, za_I y6_6)]) G dX10_rowsIn_52 (by decide) rfl ?_
              obtain ⟨x_54, e_54⟩ : ∃ y : Int32, y = y6_6 + 1 := ⟨_, rfl⟩
              refine zv_iinc (j := 6) (v := x_54) (lv' := [(6, za_I x_54), (5, za_I x_52), (0, za_O 22 q), (1, za_I t), (2, za_I k), (3, za_I fd), (4, za_I td)]) G dX10_rowsIn_54 rfl (by rw [e_54]; rfl) (by decide) rfl ?_
              first | have q_54 := z_inc9 (by omega) e_54 | skip
              refine zv_goto (tgt := 6) G dX10_rowsIn_57 (by decide) ?_
              refine zv_sub [2, 3, 4, 5, 6, 1, 0] (lv' := [(0, za_O 22 q), (1, za_I t), (2, za_I k), (3, za_I fd), (4, za_I td), (5, za_I x_52), (6, za_I x_54)]) rfl ?_
              exact ih_6 x_52 x_54 (by omega) (by rw [q_54]; first | exact wzal2_y ⟨t_20.2, Or.inl k_29⟩ (by omega) (by omega) | exact wzal2_y ⟨t_20.2, Or.inr t_37.2.2⟩ (by omega) (by omega) | exact wzal2_m (wzal2_n a_6 (fun z => f_20 ⟨by omega, z.1⟩)) (by omega) rfl | exact wzal2_m (wzal2_n a_6 (fun z => z.2.elim k_29 (fun z2 => f_37 ⟨by omega, z.1, z2⟩))) (by omega) rfl) (z_meas c_10 e_54 hn_6)
  refine zv_istore (lv' := [(6, za_I fd), (5, za_I 0), (0, za_O 22 q), (1, za_I t), (2, za_I k), (3, za_I fd), (4, za_I td)]) G dX10_rowsIn_4 (by decide) rfl ?_
  refine zv_sub [2, 3, 4, 5, 6, 1, 0] (lv' := [(0, za_O 22 q), (1, za_I t), (2, za_I k), (3, za_I fd), (4, za_I td), (5, za_I 0), (6, za_I fd)]) rfl ?_
  exact J_6 _ (0 : Int32) fd (by have h0 : (0 : Int32).toInt = 0 := (by decide); omega) (wzal2_0 _ _) (Nat.lt_succ_self _)
set_option maxHeartbeats 4000000 in
set_option maxRecDepth 100000 in
theorem zc_X10_isHeld_atx (l : Launch) (E : za_E) (q : Nat) (σ : za_S)  : zMi l E yX10_isHeld cX10_isHeld 4 (Option.some Jvm.ClassFile.FieldType.boolean) 4 89 [za_O 22 q] σ (fun r σ' => ((r = 0 ∨ r = 1) ∧ (¬ r = 0 ↔ wzFhd (σ.1 q))) ∧ σ' = σ) := by
  refine zMi_of [(0, za_O 22 q)] (by decide) rfl rfl (Nat.le_of_ble_eq_true rfl) ?_
  intro ho p e s m args below meth c G hr
  have h_q : za_kd q = 22 := za_okO (by decide) (List.forall_mem_cons.mp ho).1
  refine zv_iconst (v := 1) G dX10_isHeld_0 (by decide) ?_
  refine zv_istore_n (lv' := [(1, za_I 1), (0, za_O 22 q)]) G dX10_isHeld_1 rfl (by decide) rfl ?_
  refine zv_iconst (v := 0) G dX10_isHeld_2 (by decide) ?_
  have J_4 : ∀ (n : Nat) (y1_4 : Int32) (y2_4 : Int32) (a_4 : ¬ y1_4 = 0 ↔ wzhk (σ.1 q) y2_4.toInt 0) (b1_4 : y1_4 = 0 ∨ y1_4 = 1) (i2_4 : 0 ≤ y2_4.toInt) (u2_4 : y2_4.toInt ≤ 10) (hn_4 : (2147483648 - y2_4.toInt).toNat < n), zV p l e (zRm 4 89) s m args below meth c E (za_A E) 4 0 0 (MQ below (va_Qi (fun r σ' => ((r = 0 ∨ r = 1) ∧ (¬ r = 0 ↔ wzFhd (σ.1 q))) ∧ σ' = σ) (zB E) (za_A E)) args s 0 0 (za_A E)) 4 [(0, za_O 22 q), (1, za_I y1_4), (2, za_I y2_4)] [] σ := by
    intro n
    induction n with
    | zero => intro y1_4 y2_4 a_4 b1_4 i2_4 u2_4 hn; exact absurd hn (Nat.not_lt_zero _)
    | succ n ih_4 =>
      intro y1_4 y2_4 a_4 b1_4 i2_4 u2_4 hn_4
      refine zv_iload_n (j := 2) G dX10_isHeld_4 rfl rfl ?_
      refine zv_bipush (v := 10) G dX10_isHeld_5 (by decide) ?_
      refine zv_icmp_ge (tgt := 78) G dX10_isHeld_7 (by decide) (fun c_7 => ?_) (fun c_7 => ?_)
      · have k_7 := z_cle c_7 (a := 10) (b := y2_4.toInt) rfl rfl
        refine zv_iload_n (j := 1) G dX10_isHeld_78 rfl rfl ?_
        exact zv_zret G hr dX10_isHeld_79 (z_nar b1_4) ⟨⟨b1_4, a_4.trans (wzhk_f (by omega))⟩, rfl⟩
      · have b_7 : 0 ≤ y2_4.toInt ∧ y2_4.toInt < 10 := ⟨i2_4, z_ltk c_7 rfl⟩
        have k_7 := z_cnle c_7 (a := 10) (b := y2_4.toInt) rfl rfl
        refine zv_iconst (v := 0) G dX10_isHeld_10 (by decide) ?_
        have J_12 : ∀ (n : Nat) (y1_12 : Int32) (y3_12 : Int32) (a_12 : ¬ y1_12 = 0 ↔ wzhk (σ.1 q) y2_4.toInt y3_12.toInt) (b1_12 : y1_12 = 0 ∨ y1_12 = 1) (i3_12 : 0 ≤ y3_12.toInt) (u3_12 : y3_12.toInt ≤ 100) (hn_12 : (2147483648 - y3_12.toInt).toNat < n), zV p l e (zRm 4 89) s m args below meth c E (za_A E) 4 0 0 (MQ below (va_Qi (fun r σ' => ((r = 0 ∨ r = 1) ∧ (¬ r = 0 ↔ wzFhd (σ.1 q))) ∧ σ' = σ) (zB E) (za_A E)) args s 0 0 (za_A E)) 12 [(0, za_O 22 q), (1, za_I y1_12), (2, za_I y2_4), (3, za_I y3_12)] [] σ := by
          intro n
          induction n with
          | zero => intro y1_12 y3_12 a_12 b1_12 i3_12 u3_12 hn; exact absurd hn (Nat.not_lt_zero _)
          | succ n ih_12 =>
            intro y1_12 y3_12 a_12 b1_12 i3_12 u3_12 hn_12
            refine zv_iload_n (j := 3) G dX10_isHeld_12 rfl rfl ?_
            refine zv_bipush (v := 100) G dX10_isHeld_13 (by decide) ?_
            refine zv_icmp_ge (tgt := 72) G dX10_isHeld_15 (by decide) (fun c_15 => ?_) (fun c_15 => ?_)
            · have k_15 := z_cle c_15 (a := 100) (b := y3_12.toInt) rfl rfl
              obtain ⟨x_72, e_72⟩ : ∃ y : Int32, y = y2_4 + 1 := ⟨_, rfl⟩
              refine zv_iinc (j := 2) (v := x_72) (lv' := [(2, za_I x_72), (0, za_O 22 q), (1, za_I y1_12), (3, za_I y3_12)]) G dX10_isHeld_72 rfl (by rw [e_72]; rfl) (by decide) rfl ?_
              first | have q_72 := z_inc9 (by omega) e_72 | skip
              refine zv_goto (tgt := 4) G dX10_isHeld_75 (by decide) ?_
              refine zv_sub [1, 2, 0] (lv' := [(0, za_O 22 q), (1, za_I y1_12), (2, za_I x_72)]) rfl ?_
              exact ih_4 y1_12 x_72 (by rw [q_72]; exact a_12.trans (wzhk_r (by omega))) b1_12 (by have := z_inc c_7 e_72; omega) (by have := z_inc9 (by omega) e_72; omega) (z_meas c_7 e_72 hn_4)
            · have b_15 : 0 ≤ y3_12.toInt ∧ y3_12.toInt < 100 := ⟨i3_12, z_ltk c_15 rfl⟩
              have k_15 := z_cnle c_15 (a := 100) (b := y3_12.toInt) rfl rfl
              refine zv_iload_n (j := 1) G dX10_isHeld_18 rfl rfl ?_
              refine zv_if_eq (tgt := 64) G dX10_isHeld_19 (by decide) (fun c_19 => ?_) (fun c_19 => ?_)
              · have k_19 := z_ceq c_19 (a := y1_12.toInt) (b := 0) rfl rfl
                refine zv_iconst (v := 0) G dX10_isHeld_64 (by decide) ?_
                refine zv_istore_n (lv' := [(1, za_I 0), (0, za_O 22 q), (2, za_I y2_4), (3, za_I y3_12)]) G dX10_isHeld_65 rfl (by decide) rfl ?_
                obtain ⟨x_66, e_66⟩ : ∃ y : Int32, y = y3_12 + 1 := ⟨_, rfl⟩
                refine zv_iinc (j := 3) (v := x_66) (lv' := [(3, za_I x_66), (1, za_I 0), (0, za_O 22 q), (2, za_I y2_4)]) G dX10_isHeld_66 rfl (by rw [e_66]; rfl) (by decide) rfl ?_
                first | have q_66 := z_inc9 (by omega) e_66 | skip
                refine zv_goto (tgt := 12) G dX10_isHeld_69 (by decide) ?_
                refine zv_sub [2, 1, 3, 0] (lv' := [(0, za_O 22 q), (1, za_I 0), (2, za_I y2_4), (3, za_I x_66)]) rfl ?_
                exact ih_12 (0 : Int32) x_66 (by rw [q_66]; first | exact wzhs_2 a_12 c_19 | exact wzhs_1 a_12 c_19 (fun z => absurd ⟨by omega, z⟩ f_26) | exact wzhs_1 a_12 c_19 (fun z => Or.inl (by rw [← wz_rfT z]; exact wzh9 h_36 k_41)) | exact wzhs_1 a_12 c_19 (fun z => Or.inr (by rw [← wz_rfT z]; exact wzh8 h_50 t_54)) | exact wzhs_3 (by omega) (fun z => (z t_26.2).elim (fun z2 => k_41 (wzh7 h_36 t_26.2 z2)) (fun z2 => f_54 (wzh6 h_50 t_26.2 (by omega) z2)))) (Or.inl rfl) (by have := z_inc c_15 e_66; omega) (by have := z_inc9 (by omega) e_66; omega) (z_meas c_15 e_66 hn_12)
              · have k_19 := z_cne c_19 (a := y1_12.toInt) (b := 0) rfl rfl
                refine zv_aload_n (j := 0) G dX10_isHeld_22 rfl rfl ?_
                refine zv_iconst (v := 0) G dX10_isHeld_23 (by decide) ?_
                refine zv_iload_n (j := 2) G dX10_isHeld_24 rfl rfl ?_
                refine zv_iload_n (j := 3) G dX10_isHeld_25 rfl rfl ?_
                refine zv_callSi (as := [za_O 22 q, za_I 0, za_I y2_4, za_I y3_12]) G (zc_X10_isThere l E q (0 : Int32) y2_4 y3_12 σ (by first | assumption | decide | omega) (by first | assumption | decide | omega)) zk_X10_isThere zm_1324 rfl ⟨(Nat.le_of_ble_eq_true rfl), (Nat.le_of_ble_eq_true rfl)⟩ ⟨Nat.zero_le _, Nat.zero_le _⟩ (Nat.le_of_ble_eq_true rfl) dX10_isHeld_26 (fun r_26 σ h_26 => ?_)
                obtain ⟨h_26, rfl⟩ := h_26
                refine zv_if_eq (tgt := 60) G dX10_isHeld_29 (by decide) (fun c_29 => ?_) (fun c_29 => ?_)
                · have f_26 := fun q9 => (h_26.2.mpr q9) c_29
                  refine zv_iconst (v := 1) G dX10_isHeld_60 (by decide) ?_
                  refine zv_goto (tgt := 65) G dX10_isHeld_61 (by decide) ?_
                  refine zv_istore_n (lv' := [(1, za_I 1), (0, za_O 22 q), (2, za_I y2_4), (3, za_I y3_12)]) G dX10_isHeld_65 rfl (by decide) rfl ?_
                  obtain ⟨x_66, e_66⟩ : ∃ y : Int32, y = y3_12 + 1 := ⟨_, rfl⟩
                  refine zv_iinc (j := 3) (v := x_66) (lv' := [(3, za_I x_66), (1, za_I 1), (0, za_O 22 q), (2, za_I y2_4)]) G dX10_isHeld_66 rfl (by rw [e_66]; rfl) (by decide) rfl ?_
                  first | have q_66 := z_inc9 (by omega) e_66 | skip
                  refine zv_goto (tgt := 12) G dX10_isHeld_69 (by decide) ?_
                  refine zv_sub [2, 1, 3, 0] (lv' := [(0, za_O 22 q), (1, za_I 1), (2, za_I y2_4), (3, za_I x_66)]) rfl ?_
                  exact ih_12 (1 : Int32) x_66 (by rw [q_66]; first | exact wzhs_2 a_12 c_19 | exact wzhs_1 a_12 c_19 (fun z => absurd ⟨by omega, z⟩ f_26) | exact wzhs_1 a_12 c_19 (fun z => Or.inl (by rw [← wz_rfT z]; exact wzh9 h_36 k_41)) | exact wzhs_1 a_12 c_19 (fun z => Or.inr (by rw [← wz_rfT z]; exact wzh8 h_50 t_54)) | exact wzhs_3 (by omega) (fun z => (z t_26.2).elim (fun z2 => k_41 (wzh7 h_36 t_26.2 z2)) (fun z2 => f_54 (wzh6 h_50 t_26.2 (by omega) z2)))) (Or.inr rfl) (by have := z_inc c_15 e_66; omega) (by have := z_inc9 (by omega) e_66; omega) (z_meas c_15 e_66 hn_12)
                · have t_26 := h_26.2.mp c_29
                  refine zv_aload_n (j := 0) G dX10_isHeld_32 rfl rfl ?_
                  refine zv_iconst (v := 0) G dX10_isHeld_33 (by decide) ?_
                  refine zv_iload_n (j := 2) G dX10_isHeld_34 rfl rfl ?_
                  refine zv_iload_n (j := 3) G dX10_isHeld_35 rfl rfl ?_
                  refine zv_callSi (as := [za_O 22 q, za_I 0, za_I y2_4, za_I y3_12]) G (zc_X10_refOn l E q (0 : Int32) y2_4 y3_12 σ (by first | assumption | decide | omega) (by first | assumption | decide | omega) (by first | assumption | decide | omega)) zk_X10_refOn zm_1344 rfl ⟨(Nat.le_of_ble_eq_true rfl), (Nat.le_of_ble_eq_true rfl)⟩ ⟨Nat.zero_le _, Nat.zero_le _⟩ (Nat.le_of_ble_eq_true rfl) dX10_isHeld_36 (fun r_36 σ h_36 => ?_)
                  obtain ⟨h_36, rfl⟩ := h_36
                  refine zv_bipush (v := 10) G dX10_isHeld_39 (by decide) ?_
                  refine zv_icmp_eq (tgt := 60) G dX10_isHeld_41 (by decide) (fun c_41 => ?_) (fun c_41 => ?_)
                  · have k_41 := z_ceq c_41 (a := r_36.toInt) (b := 10) rfl rfl
                    refine zv_iconst (v := 1) G dX10_isHeld_60 (by decide) ?_
                    refine zv_goto (tgt := 65) G dX10_isHeld_61 (by decide) ?_
                    refine zv_istore_n (lv' := [(1, za_I 1), (0, za_O 22 q), (2, za_I y2_4), (3, za_I y3_12)]) G dX10_isHeld_65 rfl (by decide) rfl ?_
                    obtain ⟨x_66, e_66⟩ : ∃ y : Int32, y = y3_12 + 1 := ⟨_, rfl⟩
                    refine zv_iinc (j := 3) (v := x_66) (lv' := [(3, za_I x_66), (1, za_I 1), (0, za_O 22 q), (2, za_I y2_4)]) G dX10_isHeld_66 rfl (by rw [e_66]; rfl) (by decide) rfl ?_
                    first | have q_66 := z_inc9 (by omega) e_66 | skip
                    refine zv_goto (tgt := 12) G dX10_isHeld_69 (by decide) ?_
                    refine zv_sub [2, 1, 3, 0] (lv' := [(0, za_O 22 q), (1, za_I 1), (2, za_I y2_4), (3, za_I x_66)]) rfl ?_
                    exact ih_12 (1 : Int32) x_66 (by rw [q_66]; first | exact wzhs_2 a_12 c_19 | exact wzhs_1 a_12 c_19 (fun z => absurd ⟨by omega, z⟩ f_26) | exact wzhs_1 a_12 c_19 (fun z => Or.inl (by rw [← wz_rfT z]; exact wzh9 h_36 k_41)) | exact wzhs_1 a_12 c_19 (fun z => Or.inr (by rw [← wz_rfT z]; exact wzh8 h_50 t_54)) | exact wzhs_3 (by omega) (fun z => (z t_26.2).elim (fun z2 => k_41 (wzh7 h_36 t_26.2 z2)) (fun z2 => f_54 (wzh6 h_50 t_26.2 (by omega) z2)))) (Or.inr rfl) (by have := z_inc c_15 e_66; omega) (by have := z_inc9 (by omega) e_66; omega) (z_meas c_15 e_66 hn_12)
                  · have k_41 := z_cne c_41 (a := r_36.toInt) (b := 10) rfl rfl
                    refine zv_aload_n (j := 0) G dX10_isHeld_44 rfl rfl ?_
                    refine zv_iconst (v := 1) G dX10_isHeld_45 (by decide) ?_
                    refine zv_aload_n (j := 0) G dX10_isHeld_46 rfl rfl ?_
                    refine zv_iconst (v := 0) G dX10_isHeld_47 (by decide) ?_
                    refine zv_iload_n (j := 2) G dX10_isHeld_48 rfl rfl ?_
                    refine zv_iload_n (j := 3) G dX10_isHeld_49 rfl rfl ?_
                    refine zv_callSi (as := [za_O 22 q, za_I 0, za_I y2_4, za_I y3_12]) G (zc_X10_refOn l E q (0 : Int32) y2_4 y3_12 σ (by first | assumption | decide | omega) (by first | assumption | decide | omega) (by first | assumption | decide | omega)) zk_X10_refOn zm_1344 rfl ⟨(Nat.le_of_ble_eq_true rfl), (Nat.le_of_ble_eq_true rfl)⟩ ⟨Nat.zero_le _, Nat.zero_le _⟩ (Nat.le_of_ble_eq_true rfl) dX10_isHeld_50 (fun r_50 σ h_50 => ?_)
                    obtain ⟨h_50, rfl⟩ := h_50
                    refine zv_iload_n (j := 3) G dX10_isHeld_53 rfl rfl ?_
                    refine zv_callSi (as := [za_O 22 q, za_I 1, za_I r_50, za_I y3_12]) G (zc_X10_isThere l E q (1 : Int32) r_50 y3_12 σ (by decide) (z_rf9 t_26.2 h_50 (fun e9 => c_41 (by rw [h_36, ← h_50]; exact e9)))) zk_X10_isThere zm_1324 rfl ⟨(Nat.le_of_ble_eq_true rfl), (Nat.le_of_ble_eq_true rfl)⟩ ⟨Nat.zero_le _, Nat.zero_le _⟩ (Nat.le_of_ble_eq_true rfl) dX10_isHeld_54 (fun r_54 σ h_54 => ?_)
                    obtain ⟨h_54, rfl⟩ := h_54
                    refine zv_if_eq (tgt := 64) G dX10_isHeld_57 (by decide) (fun c_57 => ?_) (fun c_57 => ?_)
                    · have f_54 := fun q9 => (h_54.2.mpr q9) c_57
                      refine zv_iconst (v := 0) G dX10_isHeld_64 (by decide) ?_
                      refine zv_istore_n (lv' := [(1, za_I 0), (0, za_O 22 q), (2, za_I y2_4), (3, za_I y3_12)]) G dX10_isHeld_65 rfl (by decide) rfl ?_
                      obtain ⟨x_66, e_66⟩ : ∃ y : Int32, y = y3_12 + 1 := ⟨_, rfl⟩
                      refine zv_iinc (j := 3) (v := x_66) (lv' := [(3, za_I x_66), (1, za_I 0), (0, za_O 22 q), (2, za_I y2_4)]) G dX10_isHeld_66 rfl (by rw [e_66]; rfl) (by decide) rfl ?_
                      first | have q_66 := z_inc9 (by omega) e_66 | skip
                      refine zv_goto (tgt := 12) G dX10_isHeld_69 (by decide) ?_
                      refine zv_sub [2, 1, 3, 0] (lv' := [(0, za_O 22 q), (1, za_I 0), (2, za_I y2_4), (3, za_I x_66)]) rfl ?_
                      exact ih_12 (0 : Int32) x_66 (by rw [q_66]; first | exact wzhs_2 a_12 c_19 | exact wzhs_1 a_12 c_19 (fun z => absurd ⟨by omega, z⟩ f_26) | exact wzhs_1 a_12 c_19 (fun z => Or.inl (by rw [← wz_rfT z]; exact wzh9 h_36 k_41)) | exact wzhs_1 a_12 c_19 (fun z => Or.inr (by rw [← wz_rfT z]; exact wzh8 h_50 t_54)) | exact wzhs_3 (by omega) (fun z => (z t_26.2).elim (fun z2 => k_41 (wzh7 h_36 t_26.2 z2)) (fun z2 => f_54 (wzh6 h_50 t_26.2 (by omega) z2)))) (Or.inl rfl) (by have := z_inc c_15 e_66; omega) (by have := z_inc9 (by omega) e_66; omega) (z_meas c_15 e_66 hn_12)
                    · have t_54 := h_54.2.mp c_57
                      refine zv_iconst (v := 1) G dX10_isHeld_60 (by decide) ?_
                      refine zv_goto (tgt := 65) G dX10_isHeld_61 (by decide) ?_
                      refine zv_istore_n (lv' := [(1, za_I 1), (0, za_O 22 q), (2, za_I y2_4), (3, za_I y3_12)]) G dX10_isHeld_65 rfl (by decide) rfl ?_
                      obtain ⟨x_66, e_66⟩ : ∃ y : Int32, y = y3_12 + 1 := ⟨_, rfl⟩
                      refine zv_iinc (j := 3) (v := x_66) (lv' := [(3, za_I x_66), (1, za_I 1), (0, za_O 22 q), (2, za_I y2_4)]) G dX10_isHeld_66 rfl (by rw [e_66]; rfl) (by decide) rfl ?_
                      first | have q_66 := z_inc9 (by omega) e_66 | skip
                      refine zv_goto (tgt := 12) G dX10_isHeld_69 (by decide) ?_
                      refine zv_sub [2, 1, 3, 0] (lv' := [(0, za_O 22 q), (1, za_I 1), (2, za_I y2_4), (3, za_I x_66)]) rfl ?_
                      exact ih_12 (1 : Int32) x_66 (by rw [q_66]; first | exact wzhs_2 a_12 c_19 | exact wzhs_1 a_12 c_19 (fun z => absurd ⟨by omega, z⟩ f_26) | exact wzhs_1 a_12 c_19 (fun z => Or.inl (by rw [← wz_rfT z]; exact wzh9 h_36 k_41)) | exact wzhs_1 a_12 c_19 (fun z => Or.inr (by rw [← wz_rfT z]; exact wzh8 h_50 t_54)) | exact wzhs_3 (by omega) (fun z => (z t_26.2).elim (fun z2 => k_41 (wzh7 h_36 t_26.2 z2)) (fun z2 => f_54 (wzh6 h_50 t_26.2 (by omega) z2)))) (Or.inr rfl) (by have := z_inc c_15 e_66; omega) (by have := z_inc9 (by omega) e_66; omega) (z_meas c_15 e_66 hn_12)
        refine zv_istore_n (lv' := [(3, za_I 0), (0, za_O 22 q), (1, za_I y1_4), (2, za_I y2_4)]) G dX10_isHeld_11 rfl (by decide) rfl ?_
        refine zv_sub [1, 2, 3, 0] (lv' := [(0, za_O 22 q), (1, za_I y1_4), (2, za_I y2_4), (3, za_I 0)]) rfl ?_
        exact J_12 _ y1_4 (0 : Int32) a_4 b1_4 (by decide) (by decide) (Nat.lt_succ_self _)
  refine zv_istore_n (lv' := [(2, za_I 0), (1, za_I 1), (0, za_O 22 q)]) G dX10_isHeld_3 rfl (by decide) rfl ?_
  refine zv_sub [2, 1, 0] (lv' := [(0, za_O 22 q), (1, za_I 1), (2, za_I 0)]) rfl ?_
  exact J_4 _ (1 : Int32) (0 : Int32) ⟨fun _ => wzhk_0 _, fun _ => by decide⟩ (Or.inr rfl) (by decide) (by decide) (Nat.lt_succ_self _)
set_option maxHeartbeats 4000000 in
set_option maxRecDepth 100000 in
theorem zc_X10_settles_atx (l : Launch) (E : za_E) (q : Nat) (a : Int32) (σ0 : za_S)  : zMi l E yX10_settles cX10_settles 3 (Option.some Jvm.ClassFile.FieldType.int) 6 136 [za_O 19 93, za_O 22 q, za_I a] σ0 (fun r σ' => (r = -9 ∧ ¬ wzcs (σ0.1 101) ∧ σ' = σ0) ∨ (r = a ∧ wzcs (σ0.1 101) ∧ σ' = zcp σ0 101 q 2001)) := by
  refine zMi_of [(0, za_O 19 93), (1, za_O 22 q), (2, za_I a)] (by decide) rfl rfl (Nat.le_of_ble_eq_true rfl) ?_
  intro ho p e s m args below meth c G hr
  have h_q : za_kd q = 22 := za_okO (by decide) (List.forall_mem_cons.mp (List.forall_mem_cons.mp ho).2).1
  refine zv_aload_n (j := 0) G dX10_settles_0 rfl rfl ?_
  refine zg_X10_124 G dX10_settles_1 ?_
  refine zv_iconst (v := 0) G dX10_settles_4 (by decide) ?_
  refine zv_callSi (as := [za_O 22 101, za_I 0]) G (zc_X10_rowsOf l E 101 (0 : Int32) σ0 (by first | assumption | decide | omega)) zk_X10_rowsOf zm_1352 rfl ⟨(Nat.le_of_ble_eq_true rfl), (Nat.le_of_ble_eq_true rfl)⟩ ⟨Nat.zero_le _, Nat.zero_le _⟩ (Nat.le_of_ble_eq_true rfl) dX10_settles_5 (fun r_5 σ h_5 => ?_)
  obtain ⟨h_5, e9⟩ := h_5
  rw [e9]
  clear e9 σ
  refine zv_bipush (v := 20) G dX10_settles_8 (by decide) ?_
  refine zv_icmp_gt (tgt := 26) G dX10_settles_10 (by decide) (fun c_10 => ?_) (fun c_10 => ?_)
  · have k_10 := z_clt c_10 (a := 20) (b := r_5.toInt) rfl rfl
    refine zv_bipush (v := (-9)) G dX10_settles_26 (by decide) ?_
    exact zv_iret G hr dX10_settles_28 (Or.inl ⟨rfl, by first | exact wz_setN h_5 c_10 | exact wz_setM h_18 c_23, rfl⟩)
  · have k_10 := z_cnlt c_10 (a := 20) (b := r_5.toInt) rfl rfl
    refine zv_aload_n (j := 0) G dX10_settles_13 rfl rfl ?_
    refine zg_X10_124 G dX10_settles_14 ?_
    refine zv_iconst (v := 1) G dX10_settles_17 (by decide) ?_
    refine zv_callSi (as := [za_O 22 101, za_I 1]) G (zc_X10_rowsOf l E 101 (1 : Int32) σ0 (by first | assumption | decide | omega)) zk_X10_rowsOf zm_1352 rfl ⟨(Nat.le_of_ble_eq_true rfl), (Nat.le_of_ble_eq_true rfl)⟩ ⟨Nat.zero_le _, Nat.zero_le _⟩ (Nat.le_of_ble_eq_true rfl) dX10_settles_18 (fun r_18 σ h_18 => ?_)
    obtain ⟨h_18, e9⟩ := h_18
    rw [e9]
    clear e9 σ
    refine zv_bipush (v := 20) G dX10_settles_21 (by decide) ?_
    refine zv_icmp_le (tgt := 29) G dX10_settles_23 (by decide) (fun c_23 => ?_) (fun c_23 => ?_)
    · have k_23 := z_cle c_23 (a := r_18.toInt) (b := 20) rfl rfl
      refine zv_aload_n (j := 0) G dX10_settles_29 rfl rfl ?_
      refine zg_X10_124 G dX10_settles_30 ?_
      refine zv_aload_n (j := 1) G dX10_settles_33 rfl rfl ?_
      refine zv_callSv (as := [za_O 22 101, za_O 22 q]) G (zc_X10_copiesTo l E 101 q σ0 ) zk_X10_copiesTo zm_1385 rfl ⟨(Nat.le_of_ble_eq_true rfl), (Nat.le_of_ble_eq_true rfl)⟩ ⟨Nat.zero_le _, Nat.zero_le _⟩ (Nat.le_of_ble_eq_true rfl) dX10_settles_34 (fun σ h_34 => ?_)
      refine zv_iload_n (j := 2) G dX10_settles_37 rfl rfl ?_
      exact zv_iret G hr dX10_settles_38 (Or.inr ⟨rfl, z_set h_5 c_10 h_18 c_23, h_34⟩)
    · have k_23 := z_cnle c_23 (a := r_18.toInt) (b := 20) rfl rfl
      refine zv_bipush (v := (-9)) G dX10_settles_26 (by decide) ?_
      exact zv_iret G hr dX10_settles_28 (Or.inl ⟨rfl, by first | exact wz_setN h_5 c_10 | exact wz_setM h_18 c_23, rfl⟩)
set_option maxHeartbeats 4000000 in
set_option maxRecDepth 100000 in
theorem zc_X10_addsOne_atx (l : Launch) (E : za_E) (q : Nat) (t : Int32) (k : Int32) (v : Int32) (fd : Int32) (td : Int32) (σ0 : za_S) (hq : q ≠ 101 ∧ q ≠ 93) (ht : 0 ≤ t.toInt ∧ t.toInt ≤ 1) (hk : 0 ≤ k.toInt ∧ k.toInt ≤ 9) (hv : 0 ≤ v.toInt ∧ v.toInt ≤ 99) (hp : (0 ≤ fd.toInt ∧ fd.toInt ≤ 99) ∧ fd.toInt < td.toInt ∧ td.toInt ≤ 100) : zMi l E yX10_addsOne cX10_addsOne 8 (Option.some Jvm.ClassFile.FieldType.int) 7 158 [za_O 19 93, za_O 22 q, za_I t, za_I k, za_I v, za_I fd, za_I td] σ0 (fun r σ' => wzfr9 q σ0 σ' ∧ wzFadd t.toInt k.toInt v.toInt fd.toInt td.toInt (σ0.1 q) (σ'.1 q)) := by
  refine zMi_of [(0, za_O 19 93), (1, za_O 22 q), (2, za_I t), (3, za_I k), (4, za_I v), (5, za_I fd), (6, za_I td)] (by decide) rfl rfl (Nat.le_of_ble_eq_true rfl) ?_
  intro ho p e s m args below meth c G hr
  have h_q : za_kd q = 22 := za_okO (by decide) (List.forall_mem_cons.mp (List.forall_mem_cons.mp ho).2).1
  refine zv_gen (R9 := (zfx 101 σ0)) (zfx_r 101 σ0) (fun σ hz => ?_)
  refine zv_iload_n (j := 2) G dX10_addsOne_0 rfl rfl ?_
  refine zv_callSi (as := [za_I t]) G (zc_X10_isTable l E t σ ) zk_X10_isTable zm_1313 rfl ⟨(Nat.le_of_ble_eq_true rfl), (Nat.le_of_ble_eq_true rfl)⟩ ⟨Nat.zero_le _, Nat.zero_le _⟩ (Nat.le_of_ble_eq_true rfl) dX10_addsOne_1 (fun r_1 σ h_1 => ?_)
  obtain ⟨h_1, rfl⟩ := h_1
  refine zv_if_eq (tgt := 37) G dX10_addsOne_4 (by decide) (fun c_4 => ?_) (fun c_4 => ?_)
  · exact ((h_1.2.mpr ht) c_4).elim
  · have t_1 := h_1.2.mp c_4
    refine zv_iload_n (j := 3) G dX10_addsOne_7 rfl rfl ?_
    refine zv_callSi (as := [za_I k]) G (zc_X10_isKey l E k σ ) zk_X10_isKey zm_1375 rfl ⟨(Nat.le_of_ble_eq_true rfl), (Nat.le_of_ble_eq_true rfl)⟩ ⟨Nat.zero_le _, Nat.zero_le _⟩ (Nat.le_of_ble_eq_true rfl) dX10_addsOne_8 (fun r_8 σ h_8 => ?_)
    obtain ⟨h_8, rfl⟩ := h_8
    refine zv_if_eq (tgt := 37) G dX10_addsOne_11 (by decide) (fun c_11 => ?_) (fun c_11 => ?_)
    · exact ((h_8.2.mpr hk) c_11).elim
    · have t_8 := h_8.2.mp c_11
      refine zv_iload (j := 4) G dX10_addsOne_14 rfl ?_
      refine zv_i2l G dX10_addsOne_16 ?_
      refine zv_lconst (v := 0) G dX10_addsOne_17 (by decide) ?_
      refine zv_ldc2 (v := 99) G dX10_addsOne_18 zm_1330 ?_
      refine zv_callSi (as := [za_L v.toInt64, za_L 0, za_L 99]) G (zc_X10_in l E v.toInt64 0 99 σ ) zk_X10_in zm_1184 rfl ⟨(Nat.le_of_ble_eq_true rfl), (Nat.le_of_ble_eq_true rfl)⟩ ⟨Nat.zero_le _, Nat.zero_le _⟩ (Nat.le_of_ble_eq_true rfl) dX10_addsOne_21 (fun r_21 σ h_21 => ?_)
      obtain ⟨h_21, rfl⟩ := h_21
      refine zv_if_eq (tgt := 37) G dX10_addsOne_24 (by decide) (fun c_24 => ?_) (fun c_24 => ?_)
      · exact ((h_21.2.mpr (by rw [z_w]; have hL := z_lL; omega)) c_24).elim
      · have t_21 := h_21.2.mp c_24
        refine zv_iload (j := 5) G dX10_addsOne_27 rfl ?_
        refine zv_iload (j := 6) G dX10_addsOne_29 rfl ?_
        refine zv_callSi (as := [za_I fd, za_I td]) G (zc_X10_isPeriod l E fd td σ ) zk_X10_isPeriod zm_1379 rfl ⟨(Nat.le_of_ble_eq_true rfl), (Nat.le_of_ble_eq_true rfl)⟩ ⟨Nat.zero_le _, Nat.zero_le _⟩ (Nat.le_of_ble_eq_true rfl) dX10_addsOne_31 (fun r_31 σ h_31 => ?_)
        obtain ⟨h_31, rfl⟩ := h_31
        refine zv_if_ne (tgt := 39) G dX10_addsOne_34 (by decide) (fun c_34 => ?_) (fun c_34 => ?_)
        · have t_31 := h_31.2.mp c_34
          refine zv_aload_n (j := 1) G dX10_addsOne_39 rfl rfl ?_
          refine zv_iload_n (j := 2) G dX10_addsOne_40 rfl rfl ?_
          refine zv_iload_n (j := 3) G dX10_addsOne_41 rfl rfl ?_
          refine zv_iload (j := 5) G dX10_addsOne_42 rfl ?_
          refine zv_iload (j := 6) G dX10_addsOne_44 rfl ?_
          refine zv_callSi (as := [za_O 22 q, za_I t, za_I k, za_I fd, za_I td]) G (zc_X10_rowsIn_atx l E q t k fd td σ ht hk hp) zk_X10_rowsIn zm_1382 rfl ⟨(Nat.le_of_ble_eq_true rfl), (Nat.le_of_ble_eq_true rfl)⟩ ⟨Nat.zero_le _, Nat.zero_le _⟩ (Nat.le_of_ble_eq_true rfl) dX10_addsOne_46 (fun r_46 σ h_46 => ?_)
          obtain ⟨h_46, rfl⟩ := h_46
          rw [zfx_q hq hz] at h_46
          refine zv_if_le (tgt := 55) G dX10_addsOne_49 (by decide) (fun c_49 => ?_) (fun c_49 => ?_)
          · have k_49 := z_cle c_49 (a := r_46.toInt) (b := 0) rfl rfl
            refine zv_aload_n (j := 1) G dX10_addsOne_55 rfl rfl ?_
            refine zv_aload_n (j := 0) G dX10_addsOne_56 rfl rfl ?_
            refine zg_X10_124 G dX10_addsOne_57 ?_
            refine zv_callSv (as := [za_O 22 q, za_O 22 101]) G (zc_X10_copiesTo l E q 101 σ ) zk_X10_copiesTo zm_1385 rfl ⟨(Nat.le_of_ble_eq_true rfl), (Nat.le_of_ble_eq_true rfl)⟩ ⟨Nat.zero_le _, Nat.zero_le _⟩ (Nat.le_of_ble_eq_true rfl) dX10_addsOne_60 (fun σ h_60 => ?_)
            have hz : wzlx q t k v fd fd σ0 σ := wzlx_0 hq hz h_60 ht hk
            refine zv_iload (j := 5) G dX10_addsOne_63 rfl ?_
            have J_67 : ∀ (n : Nat) (y7_67 : Int32) (σ : za_S) (hz : wzlx q t k v fd y7_67 σ0 σ) (g_67 : fd.toInt ≤ y7_67.toInt ∧ y7_67.toInt ≤ td.toInt) (i7_67 : 0 ≤ y7_67.toInt) (hn_67 : (2147483648 - y7_67.toInt).toNat < n), zV p l e (zRm 7 158) s m args below meth c E (za_A E) 8 0 0 (MQ below (va_Qi (fun r σ' => wzfr9 q σ0 σ' ∧ wzFadd t.toInt k.toInt v.toInt fd.toInt td.toInt (σ0.1 q) (σ'.1 q)) (zB E) (za_A E)) args s 0 0 (za_A E)) 67 [(0, za_O 19 93), (1, za_O 22 q), (2, za_I t), (3, za_I k), (4, za_I v), (5, za_I fd), (6, za_I td), (7, za_I y7_67)] [] σ := by
              intro n
              induction n with
              | zero => intro y7_67 σ hz g_67 i7_67 hn; exact absurd hn (Nat.not_lt_zero _)
              | succ n ih_67 =>
                intro y7_67 σ hz g_67 i7_67 hn_67
                refine zv_iload (j := 7) G dX10_addsOne_67 rfl ?_
                refine zv_iload (j := 6) G dX10_addsOne_69 rfl ?_
                refine zv_icmp_ge (tgt := 107) G dX10_addsOne_71 (by decide) (fun c_71 => ?_) (fun c_71 => ?_)
                · have k_71 := z_cle c_71 (a := td.toInt) (b := y7_67.toInt) rfl rfl
                  have hG9 := (wzlx_e (m := td) hz (by omega)).2
                  refine zv_aload_n (j := 0) G dX10_addsOne_107 rfl rfl ?_
                  refine zv_aload_n (j := 1) G dX10_addsOne_108 rfl rfl ?_
                  refine zv_aload_n (j := 0) G dX10_addsOne_109 rfl rfl ?_
                  refine zg_X10_124 G dX10_addsOne_110 ?_
                  refine zv_iload_n (j := 2) G dX10_addsOne_113 rfl rfl ?_
                  refine zv_iload_n (j := 3) G dX10_addsOne_114 rfl rfl ?_
                  refine zv_iload (j := 5) G dX10_addsOne_115 rfl ?_
                  refine zv_callSi (as := [za_O 22 101, za_I t, za_I k, za_I fd]) G (zc_X10_numberOf l E 101 t k fd σ ht hk) zk_X10_numberOf zm_1388 rfl ⟨(Nat.le_of_ble_eq_true rfl), (Nat.le_of_ble_eq_true rfl)⟩ ⟨Nat.zero_le _, Nat.zero_le _⟩ (Nat.le_of_ble_eq_true rfl) dX10_addsOne_117 (fun r_117 σ h_117 => ?_)
                  subst h_117
                  refine zv_callVi (as := [za_O 22 q, za_I r_117]) G (by decide) rfl rfl (zc_X10_settles_atx l E q r_117 σ ) zk_X10_settles zm_1391 rfl ⟨(Nat.le_of_ble_eq_true rfl), (Nat.le_of_ble_eq_true rfl)⟩ ⟨Nat.zero_le _, Nat.zero_le _⟩ (Nat.le_of_ble_eq_true rfl) dX10_addsOne_120 (fun r_120 σ h_120 => ?_)
                  have hz := wzfr9_s hq rfl hz.1 h_120
                  exact zv_iret G hr dX10_addsOne_123 ⟨hz.1, Or.inr ⟨h_46.2.mp (by have h9 := h_46.1; omega), _, hG9, hz.2⟩⟩
                · have k_71 := z_cnle c_71 (a := td.toInt) (b := y7_67.toInt) rfl rfl
                  refine zv_aload_n (j := 0) G dX10_addsOne_74 rfl rfl ?_
                  refine zg_X10_124 G dX10_addsOne_75 ?_
                  refine zv_iload_n (j := 2) G dX10_addsOne_78 rfl rfl ?_
                  refine zv_iload_n (j := 3) G dX10_addsOne_79 rfl rfl ?_
                  refine zv_iload (j := 7) G dX10_addsOne_80 rfl ?_
                  refine zv_iload (j := 4) G dX10_addsOne_82 rfl ?_
                  refine zv_bipush (v := 10) G dX10_addsOne_84 (by decide) ?_
                  refine zv_iload (j := 7) G dX10_addsOne_86 rfl ?_
                  refine zv_iload (j := 5) G dX10_addsOne_88 rfl ?_
                  refine zv_icmp_ne (tgt := 97) G dX10_addsOne_90 (by decide) (fun c_90 => ?_) (fun c_90 => ?_)
                  · have k_90 := z_cne c_90 (a := y7_67.toInt) (b := fd.toInt) rfl rfl
                    refine zv_iconst (v := 0) G dX10_addsOne_97 (by decide) ?_
                    refine zv_callSv (as := [za_O 22 101, za_I t, za_I k, za_I y7_67, za_I v, za_I 10, za_I 0]) G (zc_X10_lays l E 101 t k y7_67 v (10 : Int32) (0 : Int32) σ (by first | assumption | decide | omega) (by first | assumption | decide | omega) (by first | assumption | decide | omega)) zk_X10_lays zm_1360 rfl ⟨(Nat.le_of_ble_eq_true rfl), (Nat.le_of_ble_eq_true rfl)⟩ ⟨Nat.zero_le _, Nat.zero_le _⟩ (Nat.le_of_ble_eq_true rfl) dX10_addsOne_98 (fun σ h_98 => ?_)
                    have hz : wzlx q t k v fd (y7_67 + 1) σ0 σ := wzlx_s ht hk hv (by omega) hz (by first | exact Or.inl ⟨rfl, k_90⟩ | exact Or.inr ⟨rfl, k_90⟩) h_98 (z_inc9 (by omega) rfl)
                    obtain ⟨x_101, e_101⟩ : ∃ y : Int32, y = y7_67 + 1 := ⟨_, rfl⟩
                    refine zv_iinc (j := 7) (v := x_101) (lv' := [(7, za_I x_101), (0, za_O 19 93), (1, za_O 22 q), (2, za_I t), (3, za_I k), (4, za_I v), (5, za_I fd), (6, za_I td)]) G dX10_addsOne_101 rfl (by rw [e_101]; rfl) (by decide) rfl ?_
                    first | have q_101 := z_inc9 (by omega) e_101 | skip
                    refine zv_goto (tgt := 67) G dX10_addsOne_104 (by decide) ?_
                    refine zv_sub [1, 2, 3, 4, 5, 6, 7, 0] (lv' := [(0, za_O 19 93), (1, za_O 22 q), (2, za_I t), (3, za_I k), (4, za_I v), (5, za_I fd), (6, za_I td), (7, za_I x_101)]) rfl ?_
                    exact ih_67 x_101 σ (wzlx_e hz (by rw [z_inc9 (by omega) rfl]; omega)) (by omega) (by have := z_inc c_71 e_101; omega) (z_meas c_71 e_101 hn_67)
                  · have k_90 := z_ceq c_90 (a := y7_67.toInt) (b := fd.toInt) rfl rfl
                    refine zv_iconst (v := 1) G dX10_addsOne_93 (by decide) ?_
                    refine zv_goto (tgt := 98) G dX10_addsOne_94 (by decide) ?_
                    refine zv_callSv (as := [za_O 22 101, za_I t, za_I k, za_I y7_67, za_I v, za_I 10, za_I 1]) G (zc_X10_lays l E 101 t k y7_67 v (10 : Int32) (1 : Int32) σ (by first | assumption | decide | omega) (by first | assumption | decide | omega) (by first | assumption | decide | omega)) zk_X10_lays zm_1360 rfl ⟨(Nat.le_of_ble_eq_true rfl), (Nat.le_of_ble_eq_true rfl)⟩ ⟨Nat.zero_le _, Nat.zero_le _⟩ (Nat.le_of_ble_eq_true rfl) dX10_addsOne_98 (fun σ h_98 => ?_)
                    have hz : wzlx q t k v fd (y7_67 + 1) σ0 σ := wzlx_s ht hk hv (by omega) hz (by first | exact Or.inl ⟨rfl, k_90⟩ | exact Or.inr ⟨rfl, k_90⟩) h_98 (z_inc9 (by omega) rfl)
                    obtain ⟨x_101, e_101⟩ : ∃ y : Int32, y = y7_67 + 1 := ⟨_, rfl⟩
                    refine zv_iinc (j := 7) (v := x_101) (lv' := [(7, za_I x_101), (0, za_O 19 93), (1, za_O 22 q), (2, za_I t), (3, za_I k), (4, za_I v), (5, za_I fd), (6, za_I td)]) G dX10_addsOne_101 rfl (by rw [e_101]; rfl) (by decide) rfl ?_
                    first | have q_101 := z_inc9 (by omega) e_101 | skip
                    refine zv_goto (tgt := 67) G dX10_addsOne_104 (by decide) ?_
                    refine zv_sub [1, 2, 3, 4, 5, 6, 7, 0] (lv' := [(0, za_O 19 93), (1, za_O 22 q), (2, za_I t), (3, za_I k), (4, za_I v), (5, za_I fd), (6, za_I td), (7, za_I x_101)]) rfl ?_
                    exact ih_67 x_101 σ (wzlx_e hz (by rw [z_inc9 (by omega) rfl]; omega)) (by omega) (by have := z_inc c_71 e_101; omega) (z_meas c_71 e_101 hn_67)
            refine zv_istore (lv' := [(7, za_I fd), (0, za_O 19 93), (1, za_O 22 q), (2, za_I t), (3, za_I k), (4, za_I v), (5, za_I fd), (6, za_I td)]) G dX10_addsOne_65 (by decide) rfl ?_
            refine zv_sub [1, 2, 3, 4, 5, 6, 7, 0] (lv' := [(0, za_O 19 93), (1, za_O 22 q), (2, za_I t), (3, za_I k), (4, za_I v), (5, za_I fd), (6, za_I td), (7, za_I fd)]) rfl ?_
            exact J_67 _ fd σ hz (by omega) (by first | assumption | omega) (Nat.lt_succ_self _)
          · have k_49 := z_cnle c_49 (a := r_46.toInt) (b := 0) rfl rfl
            refine zv_bipush (v := (-2)) G dX10_addsOne_52 (by decide) ?_
            exact zv_iret G hr dX10_addsOne_54 ⟨(wzfr9_n hq hz).1, Or.inl ⟨fun z => absurd (h_46.2.mpr z) (by omega), (wzfr9_n hq hz).2⟩⟩
        · exact ((h_31.2.mpr hp) c_34).elim
set_option maxHeartbeats 4000000 in
set_option maxRecDepth 100000 in
theorem zc_X10_turns_at1 (l : Launch) (E : za_E) (q : Nat) (t : Int32) (k : Int32) (v : Int32) (fd : Int32) (td : Int32) (σ0 : za_S) (hq : q ≠ 101 ∧ q ≠ 93) (ht : 0 ≤ t.toInt ∧ t.toInt ≤ 1) (hk : 0 ≤ k.toInt ∧ k.toInt ≤ 9) (hB : zGB (σ0.1 q)) (hv : 0 ≤ v.toInt ∧ v.toInt ≤ 99) (hp : (0 ≤ fd.toInt ∧ fd.toInt ≤ 99) ∧ fd.toInt < td.toInt ∧ td.toInt ≤ 100) : zMi l E yX10_turns cX10_turns 13 (Option.some Jvm.ClassFile.FieldType.int) 6 138 [za_O 19 93, za_O 22 q, za_I t, za_I k, za_I 1, za_I v, za_I fd, za_I td] σ0 (fun r σ' => zfx 101 σ0 σ' ∧ ((r = -2 ∧ wzrn (σ0.1 q) t.toInt k.toInt fd.toInt td.toInt) ∨ (0 ≤ r.toInt ∧ ¬ wzrn (σ0.1 q) t.toInt k.toInt fd.toInt td.toInt ∧ wzFtn (σ0.1 q) (σ'.1 101) t.toInt k.toInt 1 v.toInt fd.toInt td.toInt))) := by
  refine zMi_of [(0, za_O 19 93), (1, za_O 22 q), (2, za_I t), (3, za_I k), (4, za_I 1), (5, za_I v), (6, za_I fd), (7, za_I td)] (by decide) rfl rfl (Nat.le_of_ble_eq_true rfl) ?_
  intro ho p e s m args below meth c G hr
  have h_q : za_kd q = 22 := za_okO (by decide) (List.forall_mem_cons.mp (List.forall_mem_cons.mp ho).2).1
  refine zv_gen (R9 := (zfx 101 σ0)) (zfx_r 101 σ0) (fun σ hz => ?_)
  refine zv_aload_n (j := 1) G dX10_turns_0 rfl rfl ?_
  refine zv_iload_n (j := 2) G dX10_turns_1 rfl rfl ?_
  refine zv_iload_n (j := 3) G dX10_turns_2 rfl rfl ?_
  refine zv_iload (j := 6) G dX10_turns_3 rfl ?_
  refine zv_iload (j := 7) G dX10_turns_5 rfl ?_
  refine zv_callSi (as := [za_O 22 q, za_I t, za_I k, za_I fd, za_I td]) G (zc_X10_rowsIn_atx l E q t k fd td σ ht hk hp) zk_X10_rowsIn zm_1382 rfl ⟨(Nat.le_of_ble_eq_true rfl), (Nat.le_of_ble_eq_true rfl)⟩ ⟨Nat.zero_le _, Nat.zero_le _⟩ (Nat.le_of_ble_eq_true rfl) dX10_turns_7 (fun r_7 σ h_7 => ?_)
  obtain ⟨h_7, rfl⟩ := h_7
  rw [zfx_q hq hz] at h_7
  refine zv_istore (lv' := [(8, za_I r_7), (0, za_O 19 93), (1, za_O 22 q), (2, za_I t), (3, za_I k), (4, za_I 1), (5, za_I v), (6, za_I fd), (7, za_I td)]) G dX10_turns_10 (by decide) rfl ?_
  refine zv_iload (j := 0) G dX10_turns_12 rfl ?_
  refine zv_if_ne (tgt := 20) G dX10_turns_14 (by decide) (fun c_14 => ?_) (fun c_14 => ?_)
  · refine zv_aload_n (j := 2) G dX10_turns_20 rfl rfl ?_
    refine zv_aload_n (j := 1) G dX10_turns_21 rfl rfl ?_
    refine zg_X10_124 G dX10_turns_22 ?_
    refine zv_callSv (as := [za_O 22 q, za_O 22 101]) G (zc_X10_copiesTo l E q 101 σ ) zk_X10_copiesTo zm_1385 rfl ⟨(Nat.le_of_ble_eq_true rfl), (Nat.le_of_ble_eq_true rfl)⟩ ⟨Nat.zero_le _, Nat.zero_le _⟩ (Nat.le_of_ble_eq_true rfl) dX10_turns_25 (fun σ h_25 => ?_)
    have hz : wzts q t k 1 v fd td fd σ0 σ := wzts_0 hq ht hk hp.2.1 hz h_25
    refine zv_iload (j := 7) G dX10_turns_28 rfl ?_
    have J_32 : ∀ (n : Nat) (y9_32 : Int32) (σ : za_S) (hz : wzts q t k 1 v fd td y9_32 σ0 σ) (g_32 : fd.toInt ≤ y9_32.toInt ∧ y9_32.toInt ≤ td.toInt) (i9_32 : 0 ≤ y9_32.toInt) (hn_32 : (2147483648 - y9_32.toInt).toNat < n), zV p l e (zRm 6 138) s m args below meth c E (za_A E) 13 0 0 (MQ below (va_Qi (fun r σ' => zfx 101 σ0 σ' ∧ ((r = -2 ∧ wzrn (σ0.1 q) t.toInt k.toInt fd.toInt td.toInt) ∨ (0 ≤ r.toInt ∧ ¬ wzrn (σ0.1 q) t.toInt k.toInt fd.toInt td.toInt ∧ wzFtn (σ0.1 q) (σ'.1 101) t.toInt k.toInt 1 v.toInt fd.toInt td.toInt))) (zB E) (za_A E)) args s 0 0 (za_A E)) 32 [(0, za_O 19 93), (1, za_O 22 q), (2, za_I t), (3, za_I k), (4, za_I 1), (5, za_I v), (6, za_I fd), (7, za_I td), (8, za_I r_7), (9, za_I y9_32)] [] σ := by
      intro n
      induction n with
      | zero => intro y9_32 σ hz g_32 i9_32 hn; exact absurd hn (Nat.not_lt_zero _)
      | succ n ih_32 =>
        intro y9_32 σ hz g_32 i9_32 hn_32
        refine zv_iload (j := 9) G dX10_turns_32 rfl ?_
        refine zv_iload (j := 7) G dX10_turns_34 rfl ?_
        refine zv_icmp_ge (tgt := 175) G dX10_turns_36 (by decide) (fun c_36 => ?_) (fun c_36 => ?_)
        · have k_36 := z_cle c_36 (a := td.toInt) (b := y9_32.toInt) rfl rfl
          refine zv_iload (j := 8) G dX10_turns_175 rfl ?_
          exact zv_iret G hr dX10_turns_177 ⟨hz.1, Or.inr ⟨h_7.1, fun z => c_14 (Int32.toInt_inj.mp (h_7.2.mpr z)), wzTi_f hz.2 (by omega)⟩⟩
        · have k_36 := z_cnle c_36 (a := td.toInt) (b := y9_32.toInt) rfl rfl
          refine zv_aload_n (j := 1) G dX10_turns_39 rfl rfl ?_
          refine zv_iload_n (j := 2) G dX10_turns_40 rfl rfl ?_
          refine zv_iload_n (j := 3) G dX10_turns_41 rfl rfl ?_
          refine zv_iload (j := 9) G dX10_turns_42 rfl ?_
          refine zv_callSi (as := [za_O 22 q, za_I t, za_I k, za_I y9_32]) G (zc_X10_isThere l E q t k y9_32 σ (by first | assumption | decide | omega) (by first | assumption | decide | omega)) zk_X10_isThere zm_1324 rfl ⟨(Nat.le_of_ble_eq_true rfl), (Nat.le_of_ble_eq_true rfl)⟩ ⟨Nat.zero_le _, Nat.zero_le _⟩ (Nat.le_of_ble_eq_true rfl) dX10_turns_44 (fun r_44 σ h_44 => ?_)
          obtain ⟨h_44, rfl⟩ := h_44
          refine zv_if_eq (tgt := 169) G dX10_turns_47 (by decide) (fun c_47 => ?_) (fun c_47 => ?_)
          · have f_44 := fun q9 => (h_44.2.mpr q9) c_47
            rw [zfx_q hq hz.1] at f_44
            obtain ⟨x_169, e_169⟩ : ∃ y : Int32, y = y9_32 + 1 := ⟨_, rfl⟩
            refine zv_iinc (j := 9) (v := x_169) (lv' := [(9, za_I x_169), (0, za_O 19 93), (1, za_O 22 q), (2, za_I t), (3, za_I k), (4, za_I 1), (5, za_I v), (6, za_I fd), (7, za_I td), (8, za_I r_7)]) G dX10_turns_169 rfl (by rw [e_169]; rfl) (by decide) rfl ?_
            first | have q_169 := z_inc9 (by omega) e_169 | skip
            refine zv_goto (tgt := 32) G dX10_turns_172 (by decide) ?_
            refine zv_sub [1, 2, 3, 4, 5, 6, 7, 8, 9, 0] (lv' := [(0, za_O 19 93), (1, za_O 22 q), (2, za_I t), (3, za_I k), (4, za_I 1), (5, za_I v), (6, za_I fd), (7, za_I td), (8, za_I r_7), (9, za_I x_169)]) rfl ?_
            exact ih_32 x_169 σ (by first | exact wzts_y ht hk (by omega) z_155 q_169 h0 ⟨t_44.2, (wzch1 t_44.2 h_55 c_84)⟩ (wzlay_T (j := 1) (v := v) (a := fd.toInt) (d := y9_32.toInt) ⟨t_44.2, (hB _ (zix_lt ht hk t_44.1).1).2⟩ (Or.inl ⟨rfl, hv⟩) (va := v) (re := r_65) rfl h_65 w_110 rfl) e146 | exact wzts_z ht hk hB (by omega) z_155 q_169 h0 ⟨t_44.2, (wzch1 t_44.2 h_55 c_84)⟩ (wzlay_T (j := 1) (v := v) (a := fd.toInt) (d := y9_32.toInt) ⟨t_44.2, (hB _ (zix_lt ht hk t_44.1).1).2⟩ (Or.inl ⟨rfl, hv⟩) (va := v) (re := r_65) rfl h_65 w_110 rfl) e146 e166 | exact wzts_n (by omega) q_169 hz (fun z => f_44 ⟨by omega, z.1⟩) | exact wzts_n (by omega) q_169 hz (fun z => z.2 (wzcq1 t_44.2 h_55 c_84))) (by omega) (by have := z_inc c_36 e_169; omega) (z_meas c_36 e_169 hn_32)
          · have t_44 := h_44.2.mp c_47
            rw [zfx_q hq hz.1] at t_44
            refine zv_aload_n (j := 1) G dX10_turns_50 rfl rfl ?_
            refine zv_iload_n (j := 2) G dX10_turns_51 rfl rfl ?_
            refine zv_iload_n (j := 3) G dX10_turns_52 rfl rfl ?_
            refine zv_iload (j := 9) G dX10_turns_53 rfl ?_
            refine zv_callSi (as := [za_O 22 q, za_I t, za_I k, za_I y9_32]) G (zc_X10_valueOn l E q t k y9_32 σ (by first | assumption | decide | omega) (by first | assumption | decide | omega) (by first | assumption | decide | omega)) zk_X10_valueOn zm_1338 rfl ⟨(Nat.le_of_ble_eq_true rfl), (Nat.le_of_ble_eq_true rfl)⟩ ⟨Nat.zero_le _, Nat.zero_le _⟩ (Nat.le_of_ble_eq_true rfl) dX10_turns_55 (fun r_55 σ h_55 => ?_)
            obtain ⟨h_55, rfl⟩ := h_55
            rw [zfx_q hq hz.1] at h_55
            refine zv_istore (lv' := [(10, za_I r_55), (0, za_O 19 93), (1, za_O 22 q), (2, za_I t), (3, za_I k), (4, za_I 1), (5, za_I v), (6, za_I fd), (7, za_I td), (8, za_I r_7), (9, za_I y9_32)]) G dX10_turns_58 (by decide) rfl ?_
            refine zv_aload_n (j := 2) G dX10_turns_60 rfl rfl ?_
            refine zv_iload_n (j := 3) G dX10_turns_61 rfl rfl ?_
            refine zv_iload_n (j := 4) G dX10_turns_62 rfl rfl ?_
            refine zv_iload (j := 10) G dX10_turns_63 rfl ?_
            refine zv_callSi (as := [za_O 22 q, za_I t, za_I k, za_I y9_32]) G (zc_X10_refOn l E q t k y9_32 σ (by first | assumption | decide | omega) (by first | assumption | decide | omega) (by first | assumption | decide | omega)) zk_X10_refOn zm_1344 rfl ⟨(Nat.le_of_ble_eq_true rfl), (Nat.le_of_ble_eq_true rfl)⟩ ⟨Nat.zero_le _, Nat.zero_le _⟩ (Nat.le_of_ble_eq_true rfl) dX10_turns_65 (fun r_65 σ h_65 => ?_)
            obtain ⟨h_65, rfl⟩ := h_65
            rw [zfx_q hq hz.1] at h_65
            refine zv_istore (lv' := [(11, za_I r_65), (10, za_I r_55), (0, za_O 19 93), (1, za_O 22 q), (2, za_I t), (3, za_I k), (4, za_I 1), (5, za_I v), (6, za_I fd), (7, za_I td), (8, za_I r_7), (9, za_I y9_32)]) G dX10_turns_68 (by decide) rfl ?_
            refine zv_iload (j := 6) G dX10_turns_70 rfl ?_
            refine zv_if_eq (tgt := 80) G dX10_turns_72 (by decide) (fun c_72 => ?_) (fun c_72 => ?_)
            · exact absurd c_72 (by decide)
            · have k_72 := z_cne c_72 (a := 1) (b := 0) rfl rfl
              refine zv_iload (j := 1) G dX10_turns_75 rfl ?_
              refine zv_goto (tgt := 82) G dX10_turns_77 (by decide) ?_
              refine zv_iload (j := 7) G dX10_turns_82 rfl ?_
              refine zv_icmp_eq (tgt := 169) G dX10_turns_84 (by decide) (fun c_84 => ?_) (fun c_84 => ?_)
              · have k_84 := z_ceq c_84 (a := r_55.toInt) (b := v.toInt) rfl rfl
                obtain ⟨x_169, e_169⟩ : ∃ y : Int32, y = y9_32 + 1 := ⟨_, rfl⟩
                refine zv_iinc (j := 11) (v := x_169) (lv' := [(9, za_I x_169), (11, za_I r_65), (10, za_I r_55), (0, za_O 19 93), (1, za_O 22 q), (2, za_I t), (3, za_I k), (4, za_I 1), (5, za_I v), (6, za_I fd), (7, za_I td), (8, za_I r_7)]) G dX10_turns_169 rfl (by rw [e_169]; rfl) (by decide) rfl ?_
                first | have q_169 := z_inc9 (by omega) e_169 | skip
                refine zv_goto (tgt := 32) G dX10_turns_172 (by decide) ?_
                refine zv_sub [3, 4, 5, 6, 7, 8, 9, 10, 11, 0] (lv' := [(0, za_O 19 93), (1, za_O 22 q), (2, za_I t), (3, za_I k), (4, za_I 1), (5, za_I v), (6, za_I fd), (7, za_I td), (8, za_I r_7), (9, za_I x_169)]) rfl ?_
                exact ih_32 x_169 σ (by first | exact wzts_y ht hk (by omega) z_155 q_169 h0 ⟨t_44.2, (wzch1 t_44.2 h_55 c_84)⟩ (wzlay_T (j := 1) (v := v) (a := fd.toInt) (d := y9_32.toInt) ⟨t_44.2, (hB _ (zix_lt ht hk t_44.1).1).2⟩ (Or.inl ⟨rfl, hv⟩) (va := v) (re := r_65) rfl h_65 w_110 rfl) e146 | exact wzts_z ht hk hB (by omega) z_155 q_169 h0 ⟨t_44.2, (wzch1 t_44.2 h_55 c_84)⟩ (wzlay_T (j := 1) (v := v) (a := fd.toInt) (d := y9_32.toInt) ⟨t_44.2, (hB _ (zix_lt ht hk t_44.1).1).2⟩ (Or.inl ⟨rfl, hv⟩) (va := v) (re := r_65) rfl h_65 w_110 rfl) e146 e166 | exact wzts_n (by omega) q_169 hz (fun z => f_44 ⟨by omega, z.1⟩) | exact wzts_n (by omega) q_169 hz (fun z => z.2 (wzcq1 t_44.2 h_55 c_84))) (by omega) (by have := z_inc c_36 e_169; omega) (z_meas c_36 e_169 hn_32)
              · have k_84 := z_cne c_84 (a := r_55.toInt) (b := v.toInt) rfl rfl
                refine zv_aload_n (j := 3) G dX10_turns_87 rfl rfl ?_
                refine zv_iload_n (j := 4) G dX10_turns_88 rfl rfl ?_
                refine zv_iload_n (j := 5) G dX10_turns_89 rfl rfl ?_
                refine zv_iload (j := 11) G dX10_turns_90 rfl ?_
                refine zv_callSi (as := [za_O 22 q, za_I t, za_I k, za_I y9_32]) G (zc_X10_begins l E q t k y9_32 σ (by first | assumption | decide | omega) (by first | assumption | decide | omega)) zk_X10_begins zm_1321 rfl ⟨(Nat.le_of_ble_eq_true rfl), (Nat.le_of_ble_eq_true rfl)⟩ ⟨Nat.zero_le _, Nat.zero_le _⟩ (Nat.le_of_ble_eq_true rfl) dX10_turns_92 (fun r_92 σ h_92 => ?_)
                obtain ⟨h_92, rfl⟩ := h_92
                refine zv_if_ne (tgt := 105) G dX10_turns_95 (by decide) (fun c_95 => ?_) (fun c_95 => ?_)
                · have t_92 := h_92.2.mp c_95
                  rw [zfx_q hq hz.1] at t_92
                  have w_110 : ((1 : Int32) = 0 ∨ (1 : Int32) = 1) ∧ ((1 : Int32) = 1 ↔ (y9_32.toInt = fd.toInt ∨ ((σ0.1 q (zix t k y9_32)).toInt - 1) % 2 = 1)) := ⟨Or.inr rfl, fun _ => Or.inr t_92.2.2, fun _ => rfl⟩
                  refine zv_iconst (v := 1) G dX10_turns_105 (by decide) ?_
                  refine zv_goto (tgt := 110) G dX10_turns_106 (by decide) ?_
                  refine zv_istore (lv' := [(12, za_I 1), (11, za_I r_65), (10, za_I r_55), (0, za_O 19 93), (1, za_O 22 q), (2, za_I t), (3, za_I k), (4, za_I 1), (5, za_I v), (6, za_I fd), (7, za_I td), (8, za_I r_7), (9, za_I y9_32)]) G dX10_turns_110 (by decide) rfl ?_
                  refine zv_aload_n (j := 3) G dX10_turns_112 rfl rfl ?_
                  refine zg_X10_124 G dX10_turns_113 ?_
                  refine zv_iload_n (j := 5) G dX10_turns_116 rfl rfl ?_
                  refine zv_iload_n (j := 6) G dX10_turns_117 rfl rfl ?_
                  refine zv_iload (j := 12) G dX10_turns_118 rfl ?_
                  refine zv_iload (j := 7) G dX10_turns_120 rfl ?_
                  refine zv_if_eq (tgt := 130) G dX10_turns_122 (by decide) (fun c_122 => ?_) (fun c_122 => ?_)
                  · exact absurd c_122 (by decide)
                  · have k_122 := z_cne c_122 (a := 1) (b := 0) rfl rfl
                    refine zv_iload (j := 8) G dX10_turns_125 rfl ?_
                    refine zv_goto (tgt := 132) G dX10_turns_127 (by decide) ?_
                    refine zv_iload (j := 7) G dX10_turns_132 rfl ?_
                    refine zv_if_eq (tgt := 142) G dX10_turns_134 (by decide) (fun c_134 => ?_) (fun c_134 => ?_)
                    · exact absurd c_134 (by decide)
                    · have k_134 := z_cne c_134 (a := 1) (b := 0) rfl rfl
                      refine zv_iload (j := 1) G dX10_turns_137 rfl ?_
                      refine zv_goto (tgt := 144) G dX10_turns_139 (by decide) ?_
                      refine zv_iload (j := 0) G dX10_turns_144 rfl ?_
                      refine zv_callSv (as := [za_O 22 101, za_I t, za_I k, za_I y9_32, za_I v, za_I r_65, za_I 1]) G (zc_X10_lays l E 101 t k y9_32 v r_65 (1 : Int32) σ (by first | assumption | decide | omega) (by first | assumption | decide | omega) (by first | assumption | decide | omega)) zk_X10_lays zm_1360 rfl ⟨(Nat.le_of_ble_eq_true rfl), (Nat.le_of_ble_eq_true rfl)⟩ ⟨Nat.zero_le _, Nat.zero_le _⟩ (Nat.le_of_ble_eq_true rfl) dX10_turns_146 (fun σ h_146 => ?_)
                      have h0 := hz
                      have e146 := h_146
                      refine zv_iload (j := 12) G dX10_turns_149 rfl ?_
                      refine zv_iload (j := 10) G dX10_turns_151 rfl ?_
                      refine zv_iconst (v := 1) G dX10_turns_153 (by decide) ?_
                      refine zv_isub G dX10_turns_154 ?_
                      refine zv_icmp_ne (tgt := 169) G dX10_turns_155 (by decide) (fun c_155 => ?_) (fun c_155 => ?_)
                      · have k_155 := z_cne c_155 (a := y9_32.toInt) (b := (td - 1).toInt) rfl rfl
                        have m9 := wz_bm1 (b := td) (by omega)
                        have z_155 : ¬ y9_32.toInt = td.toInt - 1 := fun e9 => k_155 (by omega)
                        obtain ⟨x_169, e_169⟩ : ∃ y : Int32, y = y9_32 + 1 := ⟨_, rfl⟩
                        refine zv_iinc (j := 12) (v := x_169) (lv' := [(9, za_I x_169), (12, za_I 1), (11, za_I r_65), (10, za_I r_55), (0, za_O 19 93), (1, za_O 22 q), (2, za_I t), (3, za_I k), (4, za_I 1), (5, za_I v), (6, za_I fd), (7, za_I td), (8, za_I r_7)]) G dX10_turns_169 rfl (by rw [e_169]; rfl) (by decide) rfl ?_
                        first | have q_169 := z_inc9 (by omega) e_169 | skip
                        refine zv_goto (tgt := 32) G dX10_turns_172 (by decide) ?_
                        refine zv_sub [4, 5, 6, 7, 8, 9, 10, 11, 12, 0] (lv' := [(0, za_O 19 93), (1, za_O 22 q), (2, za_I t), (3, za_I k), (4, za_I 1), (5, za_I v), (6, za_I fd), (7, za_I td), (8, za_I r_7), (9, za_I x_169)]) rfl ?_
                        exact ih_32 x_169 σ (by first | exact wzts_y ht hk (by omega) z_155 q_169 h0 ⟨t_44.2, (wzch1 t_44.2 h_55 c_84)⟩ (wzlay_T (j := 1) (v := v) (a := fd.toInt) (d := y9_32.toInt) ⟨t_44.2, (hB _ (zix_lt ht hk t_44.1).1).2⟩ (Or.inl ⟨rfl, hv⟩) (va := v) (re := r_65) rfl h_65 w_110 rfl) e146 | exact wzts_z ht hk hB (by omega) z_155 q_169 h0 ⟨t_44.2, (wzch1 t_44.2 h_55 c_84)⟩ (wzlay_T (j := 1) (v := v) (a := fd.toInt) (d := y9_32.toInt) ⟨t_44.2, (hB _ (zix_lt ht hk t_44.1).1).2⟩ (Or.inl ⟨rfl, hv⟩) (va := v) (re := r_65) rfl h_65 w_110 rfl) e146 e166 | exact wzts_n (by omega) q_169 hz (fun z => f_44 ⟨by omega, z.1⟩) | exact wzts_n (by omega) q_169 hz (fun z => z.2 (wzcq1 t_44.2 h_55 c_84))) (by omega) (by have := z_inc c_36 e_169; omega) (z_meas c_36 e_169 hn_32)
                      · have k_155 := z_ceq c_155 (a := y9_32.toInt) (b := (td - 1).toInt) rfl rfl
                        have m9 := wz_bm1 (b := td) (by omega)
                        have z_155 : y9_32.toInt = td.toInt - 1 := by omega
                        refine zv_aload_n (j := 3) G dX10_turns_158 rfl rfl ?_
                        refine zg_X10_124 G dX10_turns_159 ?_
                        refine zv_iload_n (j := 5) G dX10_turns_162 rfl rfl ?_
                        refine zv_iload_n (j := 6) G dX10_turns_163 rfl rfl ?_
                        refine zv_iload (j := 10) G dX10_turns_164 rfl ?_
                        refine zv_callSv (as := [za_O 22 101, za_I t, za_I k, za_I td]) G (zc_X10_splits l E 101 t k td σ (by first | assumption | decide | omega) (by first | assumption | decide | omega)) zk_X10_splits zm_1415 rfl ⟨(Nat.le_of_ble_eq_true rfl), (Nat.le_of_ble_eq_true rfl)⟩ ⟨Nat.zero_le _, Nat.zero_le _⟩ (Nat.le_of_ble_eq_true rfl) dX10_turns_166 (fun σ h_166 => ?_)
                        have e166 := h_166
                        obtain ⟨x_169, e_169⟩ : ∃ y : Int32, y = y9_32 + 1 := ⟨_, rfl⟩
                        refine zv_iinc (j := 12) (v := x_169) (lv' := [(9, za_I x_169), (12, za_I 1), (11, za_I r_65), (10, za_I r_55), (0, za_O 19 93), (1, za_O 22 q), (2, za_I t), (3, za_I k), (4, za_I 1), (5, za_I v), (6, za_I fd), (7, za_I td), (8, za_I r_7)]) G dX10_turns_169 rfl (by rw [e_169]; rfl) (by decide) rfl ?_
                        first | have q_169 := z_inc9 (by omega) e_169 | skip
                        refine zv_goto (tgt := 32) G dX10_turns_172 (by decide) ?_
                        refine zv_sub [4, 5, 6, 7, 8, 9, 10, 11, 12, 0] (lv' := [(0, za_O 19 93), (1, za_O 22 q), (2, za_I t), (3, za_I k), (4, za_I 1), (5, za_I v), (6, za_I fd), (7, za_I td), (8, za_I r_7), (9, za_I x_169)]) rfl ?_
                        exact ih_32 x_169 σ (by first | exact wzts_y ht hk (by omega) z_155 q_169 h0 ⟨t_44.2, (wzch1 t_44.2 h_55 c_84)⟩ (wzlay_T (j := 1) (v := v) (a := fd.toInt) (d := y9_32.toInt) ⟨t_44.2, (hB _ (zix_lt ht hk t_44.1).1).2⟩ (Or.inl ⟨rfl, hv⟩) (va := v) (re := r_65) rfl h_65 w_110 rfl) e146 | exact wzts_z ht hk hB (by omega) z_155 q_169 h0 ⟨t_44.2, (wzch1 t_44.2 h_55 c_84)⟩ (wzlay_T (j := 1) (v := v) (a := fd.toInt) (d := y9_32.toInt) ⟨t_44.2, (hB _ (zix_lt ht hk t_44.1).1).2⟩ (Or.inl ⟨rfl, hv⟩) (va := v) (re := r_65) rfl h_65 w_110 rfl) e146 e166 | exact wzts_n (by omega) q_169 hz (fun z => f_44 ⟨by omega, z.1⟩) | exact wzts_n (by omega) q_169 hz (fun z => z.2 (wzcq1 t_44.2 h_55 c_84))) (by omega) (by have := z_inc c_36 e_169; omega) (z_meas c_36 e_169 hn_32)
                · have f_92 := fun q9 => (h_92.2.mpr q9) c_95
                  rw [zfx_q hq hz.1] at f_92
                  refine zv_iload (j := 11) G dX10_turns_98 rfl ?_
                  refine zv_iload (j := 8) G dX10_turns_100 rfl ?_
                  refine zv_icmp_ne (tgt := 109) G dX10_turns_102 (by decide) (fun c_102 => ?_) (fun c_102 => ?_)
                  · have k_102 := z_cne c_102 (a := y9_32.toInt) (b := fd.toInt) rfl rfl
                    have w_110 : ((0 : Int32) = 0 ∨ (0 : Int32) = 1) ∧ ((0 : Int32) = 1 ↔ (y9_32.toInt = fd.toInt ∨ ((σ0.1 q (zix t k y9_32)).toInt - 1) % 2 = 1)) := ⟨Or.inl rfl, fun z => absurd z (by decide), fun z => (z.elim k_102 (fun z2 => f_92 ⟨by omega, t_44.2, z2⟩)).elim⟩
                    refine zv_iconst (v := 0) G dX10_turns_109 (by decide) ?_
                    refine zv_istore (lv' := [(12, za_I 0), (11, za_I r_65), (10, za_I r_55), (0, za_O 19 93), (1, za_O 22 q), (2, za_I t), (3, za_I k), (4, za_I 1), (5, za_I v), (6, za_I fd), (7, za_I td), (8, za_I r_7), (9, za_I y9_32)]) G dX10_turns_110 (by decide) rfl ?_
                    refine zv_aload_n (j := 3) G dX10_turns_112 rfl rfl ?_
                    refine zg_X10_124 G dX10_turns_113 ?_
                    refine zv_iload_n (j := 5) G dX10_turns_116 rfl rfl ?_
                    refine zv_iload_n (j := 6) G dX10_turns_117 rfl rfl ?_
                    refine zv_iload (j := 12) G dX10_turns_118 rfl ?_
                    refine zv_iload (j := 7) G dX10_turns_120 rfl ?_
                    refine zv_if_eq (tgt := 130) G dX10_turns_122 (by decide) (fun c_122 => ?_) (fun c_122 => ?_)
                    · exact absurd c_122 (by decide)
                    · have k_122 := z_cne c_122 (a := 1) (b := 0) rfl rfl
                      refine zv_iload (j := 8) G dX10_turns_125 rfl ?_
                      refine zv_goto (tgt := 132) G dX10_turns_127 (by decide) ?_
                      refine zv_iload (j := 7) G dX10_turns_132 rfl ?_
                      refine zv_if_eq (tgt := 142) G dX10_turns_134 (by decide) (fun c_134 => ?_) (fun c_134 => ?_)
                      · exact absurd c_134 (by decide)
                      · have k_134 := z_cne c_134 (a := 1) (b := 0) rfl rfl
                        refine zv_iload (j := 1) G dX10_turns_137 rfl ?_
                        refine zv_goto (tgt := 144) G dX10_turns_139 (by decide) ?_
                        refine zv_iload (j := 0) G dX10_turns_144 rfl ?_
                        refine zv_callSv (as := [za_O 22 101, za_I t, za_I k, za_I y9_32, za_I v, za_I r_65, za_I 0]) G (zc_X10_lays l E 101 t k y9_32 v r_65 (0 : Int32) σ (by first | assumption | decide | omega) (by first | assumption | decide | omega) (by first | assumption | decide | omega)) zk_X10_lays zm_1360 rfl ⟨(Nat.le_of_ble_eq_true rfl), (Nat.le_of_ble_eq_true rfl)⟩ ⟨Nat.zero_le _, Nat.zero_le _⟩ (Nat.le_of_ble_eq_true rfl) dX10_turns_146 (fun σ h_146 => ?_)
                        have h0 := hz
                        have e146 := h_146
                        refine zv_iload (j := 12) G dX10_turns_149 rfl ?_
                        refine zv_iload (j := 10) G dX10_turns_151 rfl ?_
                        refine zv_iconst (v := 1) G dX10_turns_153 (by decide) ?_
                        refine zv_isub G dX10_turns_154 ?_
                        refine zv_icmp_ne (tgt := 169) G dX10_turns_155 (by decide) (fun c_155 => ?_) (fun c_155 => ?_)
                        · have k_155 := z_cne c_155 (a := y9_32.toInt) (b := (td - 1).toInt) rfl rfl
                          have m9 := wz_bm1 (b := td) (by omega)
                          have z_155 : ¬ y9_32.toInt = td.toInt - 1 := fun e9 => k_155 (by omega)
                          obtain ⟨x_169, e_169⟩ : ∃ y : Int32, y = y9_32 + 1 := ⟨_, rfl⟩
                          refine zv_iinc (j := 12) (v := x_169) (lv' := [(9, za_I x_169), (12, za_I 0), (11, za_I r_65), (10, za_I r_55), (0, za_O 19 93), (1, za_O 22 q), (2, za_I t), (3, za_I k), (4, za_I 1), (5, za_I v), (6, za_I fd), (7, za_I td), (8, za_I r_7)]) G dX10_turns_169 rfl (by rw [e_169]; rfl) (by decide) rfl ?_
                          first | have q_169 := z_inc9 (by omega) e_169 | skip
                          refine zv_goto (tgt := 32) G dX10_turns_172 (by decide) ?_
                          refine zv_sub [4, 5, 6, 7, 8, 9, 10, 11, 12, 0] (lv' := [(0, za_O 19 93), (1, za_O 22 q), (2, za_I t), (3, za_I k), (4, za_I 1), (5, za_I v), (6, za_I fd), (7, za_I td), (8, za_I r_7), (9, za_I x_169)]) rfl ?_
                          exact ih_32 x_169 σ (by first | exact wzts_y ht hk (by omega) z_155 q_169 h0 ⟨t_44.2, (wzch1 t_44.2 h_55 c_84)⟩ (wzlay_T (j := 1) (v := v) (a := fd.toInt) (d := y9_32.toInt) ⟨t_44.2, (hB _ (zix_lt ht hk t_44.1).1).2⟩ (Or.inl ⟨rfl, hv⟩) (va := v) (re := r_65) rfl h_65 w_110 rfl) e146 | exact wzts_z ht hk hB (by omega) z_155 q_169 h0 ⟨t_44.2, (wzch1 t_44.2 h_55 c_84)⟩ (wzlay_T (j := 1) (v := v) (a := fd.toInt) (d := y9_32.toInt) ⟨t_44.2, (hB _ (zix_lt ht hk t_44.1).1).2⟩ (Or.inl ⟨rfl, hv⟩) (va := v) (re := r_65) rfl h_65 w_110 rfl) e146 e166 | exact wzts_n (by omega) q_169 hz (fun z => f_44 ⟨by omega, z.1⟩) | exact wzts_n (by omega) q_169 hz (fun z => z.2 (wzcq1 t_44.2 h_55 c_84))) (by omega) (by have := z_inc c_36 e_169; omega) (z_meas c_36 e_169 hn_32)
                        · have k_155 := z_ceq c_155 (a := y9_32.toInt) (b := (td - 1).toInt) rfl rfl
                          have m9 := wz_bm1 (b := td) (by omega)
                          have z_155 : y9_32.toInt = td.toInt - 1 := by omega
                          refine zv_aload_n (j := 3) G dX10_turns_158 rfl rfl ?_
                          refine zg_X10_124 G dX10_turns_159 ?_
                          refine zv_iload_n (j := 5) G dX10_turns_162 rfl rfl ?_
                          refine zv_iload_n (j := 6) G dX10_turns_163 rfl rfl ?_
                          refine zv_iload (j := 10) G dX10_turns_164 rfl ?_
                          refine zv_callSv (as := [za_O 22 101, za_I t, za_I k, za_I td]) G (zc_X10_splits l E 101 t k td σ (by first | assumption | decide | omega) (by first | assumption | decide | omega)) zk_X10_splits zm_1415 rfl ⟨(Nat.le_of_ble_eq_true rfl), (Nat.le_of_ble_eq_true rfl)⟩ ⟨Nat.zero_le _, Nat.zero_le _⟩ (Nat.le_of_ble_eq_true rfl) dX10_turns_166 (fun σ h_166 => ?_)
                          have e166 := h_166
                          obtain ⟨x_169, e_169⟩ : ∃ y : Int32, y = y9_32 + 1 := ⟨_, rfl⟩
                          refine zv_iinc (j := 12) (v := x_169) (lv' := [(9, za_I x_169), (12, za_I 0), (11, za_I r_65), (10, za_I r_55), (0, za_O 19 93), (1, za_O 22 q), (2, za_I t), (3, za_I k), (4, za_I 1), (5, za_I v), (6, za_I fd), (7, za_I td), (8, za_I r_7)]) G dX10_turns_169 rfl (by rw [e_169]; rfl) (by decide) rfl ?_
                          first | have q_169 := z_inc9 (by omega) e_169 | skip
                          refine zv_goto (tgt := 32) G dX10_turns_172 (by decide) ?_
                          refine zv_sub [4, 5, 6, 7, 8, 9, 10, 11, 12, 0] (lv' := [(0, za_O 19 93), (1, za_O 22 q), (2, za_I t), (3, za_I k), (4, za_I 1), (5, za_I v), (6, za_I fd), (7, za_I td), (8, za_I r_7), (9, za_I x_169)]) rfl ?_
                          exact ih_32 x_169 σ (by first | exact wzts_y ht hk (by omega) z_155 q_169 h0 ⟨t_44.2, (wzch1 t_44.2 h_55 c_84)⟩ (wzlay_T (j := 1) (v := v) (a := fd.toInt) (d := y9_32.toInt) ⟨t_44.2, (hB _ (zix_lt ht hk t_44.1).1).2⟩ (Or.inl ⟨rfl, hv⟩) (va := v) (re := r_65) rfl h_65 w_110 rfl) e146 | exact wzts_z ht hk hB (by omega) z_155 q_169 h0 ⟨t_44.2, (wzch1 t_44.2 h_55 c_84)⟩ (wzlay_T (j := 1) (v := v) (a := fd.toInt) (d := y9_32.toInt) ⟨t_44.2, (hB _ (zix_lt ht hk t_44.1).1).2⟩ (Or.inl ⟨rfl, hv⟩) (va := v) (re := r_65) rfl h_65 w_110 rfl) e146 e166 | exact wzts_n (by omega) q_169 hz (fun z => f_44 ⟨by omega, z.1⟩) | exact wzts_n (by omega) q_169 hz (fun z => z.2 (wzcq1 t_44.2 h_55 c_84))) (by omega) (by have := z_inc c_36 e_169; omega) (z_meas c_36 e_169 hn_32)
                  · have k_102 := z_ceq c_102 (a := y9_32.toInt) (b := fd.toInt) rfl rfl
                    have w_110 : ((1 : Int32) = 0 ∨ (1 : Int32) = 1) ∧ ((1 : Int32) = 1 ↔ (y9_32.toInt = fd.toInt ∨ ((σ0.1 q (zix t k y9_32)).toInt - 1) % 2 = 1)) := ⟨Or.inr rfl, fun _ => Or.inl k_102, fun _ => rfl⟩
                    refine zv_iconst (v := 1) G dX10_turns_105 (by decide) ?_
                    refine zv_goto (tgt := 110) G dX10_turns_106 (by decide) ?_
                    refine zv_istore (lv' := [(12, za_I 1), (11, za_I r_65), (10, za_I r_55), (0, za_O 19 93), (1, za_O 22 q), (2, za_I t), (3, za_I k), (4, za_I 1), (5, za_I v), (6, za_I fd), (7, za_I td), (8, za_I r_7), (9, za_I y9_32)]) G dX10_turns_110 (by decide) rfl ?_
                    refine zv_aload_n (j := 3) G dX10_turns_112 rfl rfl ?_
                    refine zg_X10_124 G dX10_turns_113 ?_
                    refine zv_iload_n (j := 5) G dX10_turns_116 rfl rfl ?_
                    refine zv_iload_n (j := 6) G dX10_turns_117 rfl rfl ?_
                    refine zv_iload (j := 12) G dX10_turns_118 rfl ?_
                    refine zv_iload (j := 7) G dX10_turns_120 rfl ?_
                    refine zv_if_eq (tgt := 130) G dX10_turns_122 (by decide) (fun c_122 => ?_) (fun c_122 => ?_)
                    · exact absurd c_122 (by decide)
                    · have k_122 := z_cne c_122 (a := 1) (b := 0) rfl rfl
                      refine zv_iload (j := 8) G dX10_turns_125 rfl ?_
                      refine zv_goto (tgt := 132) G dX10_turns_127 (by decide) ?_
                      refine zv_iload (j := 7) G dX10_turns_132 rfl ?_
                      refine zv_if_eq (tgt := 142) G dX10_turns_134 (by decide) (fun c_134 => ?_) (fun c_134 => ?_)
                      · exact absurd c_134 (by decide)
                      · have k_134 := z_cne c_134 (a := 1) (b := 0) rfl rfl
                        refine zv_iload (j := 1) G dX10_turns_137 rfl ?_
                        refine zv_goto (tgt := 144) G dX10_turns_139 (by decide) ?_
                        refine zv_iload (j := 0) G dX10_turns_144 rfl ?_
                        refine zv_callSv (as := [za_O 22 101, za_I t, za_I k, za_I y9_32, za_I v, za_I r_65, za_I 1]) G (zc_X10_lays l E 101 t k y9_32 v r_65 (1 : Int32) σ (by first | assumption | decide | omega) (by first | assumption | decide | omega) (by first | assumption | decide | omega)) zk_X10_lays zm_1360 rfl ⟨(Nat.le_of_ble_eq_true rfl), (Nat.le_of_ble_eq_true rfl)⟩ ⟨Nat.zero_le _, Nat.zero_le _⟩ (Nat.le_of_ble_eq_true rfl) dX10_turns_146 (fun σ h_146 => ?_)
                        have h0 := hz
                        have e146 := h_146
                        refine zv_iload (j := 12) G dX10_turns_149 rfl ?_
                        refine zv_iload (j := 10) G dX10_turns_151 rfl ?_
                        refine zv_iconst (v := 1) G dX10_turns_153 (by decide) ?_
                        refine zv_isub G dX10_turns_154 ?_
                        refine zv_icmp_ne (tgt := 169) G dX10_turns_155 (by decide) (fun c_155 => ?_) (fun c_155 => ?_)
                        · have k_155 := z_cne c_155 (a := y9_32.toInt) (b := (td - 1).toInt) rfl rfl
                          have m9 := wz_bm1 (b := td) (by omega)
                          have z_155 : ¬ y9_32.toInt = td.toInt - 1 := fun e9 => k_155 (by omega)
                          obtain ⟨x_169, e_169⟩ : ∃ y : Int32, y = y9_32 + 1 := ⟨_, rfl⟩
                          refine zv_iinc (j := 12) (v := x_169) (lv' := [(9, za_I x_169), (12, za_I 1), (11, za_I r_65), (10, za_I r_55), (0, za_O 19 93), (1, za_O 22 q), (2, za_I t), (3, za_I k), (4, za_I 1), (5, za_I v), (6, za_I fd), (7, za_I td), (8, za_I r_7)]) G dX10_turns_169 rfl (by rw [e_169]; rfl) (by decide) rfl ?_
                          first | have q_169 := z_inc9 (by omega) e_169 | skip
                          refine zv_goto (tgt := 32) G dX10_turns_172 (by decide) ?_
                          refine zv_sub [4, 5, 6, 7, 8, 9, 10, 11, 12, 0] (lv' := [(0, za_O 19 93), (1, za_O 22 q), (2, za_I t), (3, za_I k), (4, za_I 1), (5, za_I v), (6, za_I fd), (7, za_I td), (8, za_I r_7), (9, za_I x_169)]) rfl ?_
                          exact ih_32 x_169 σ (by first | exact wzts_y ht hk (by omega) z_155 q_169 h0 ⟨t_44.2, (wzch1 t_44.2 h_55 c_84)⟩ (wzlay_T (j := 1) (v := v) (a := fd.toInt) (d := y9_32.toInt) ⟨t_44.2, (hB _ (zix_lt ht hk t_44.1).1).2⟩ (Or.inl ⟨rfl, hv⟩) (va := v) (re := r_65) rfl h_65 w_110 rfl) e146 | exact wzts_z ht hk hB (by omega) z_155 q_169 h0 ⟨t_44.2, (wzch1 t_44.2 h_55 c_84)⟩ (wzlay_T (j := 1) (v := v) (a := fd.toInt) (d := y9_32.toInt) ⟨t_44.2, (hB _ (zix_lt ht hk t_44.1).1).2⟩ (Or.inl ⟨rfl, hv⟩) (va := v) (re := r_65) rfl h_65 w_110 rfl) e146 e166 | exact wzts_n (by omega) q_169 hz (fun z => f_44 ⟨by omega, z.1⟩) | exact wzts_n (by omega) q_169 hz (fun z => z.2 (wzcq1 t_44.2 h_55 c_84))) (by omega) (by have := z_inc c_36 e_169; omega) (z_meas c_36 e_169 hn_32)
                        · have k_155 := z_ceq c_155 (a := y9_32.toInt) (b := (td - 1).toInt) rfl rfl
                          have m9 := wz_bm1 (b := td) (by omega)
                          have z_155 : y9_32.toInt = td.toInt - 1 := by omega
                          refine zv_aload_n (j := 3) G dX10_turns_158 rfl rfl ?_
                          refine zg_X10_124 G dX10_turns_159 ?_
                          refine zv_iload_n (j := 5) G dX10_turns_162 rfl rfl ?_
                          refine zv_iload_n (j := 6) G dX10_turns_163 rfl rfl ?_
                          refine zv_iload (j := 10) G dX10_turns_164 rfl ?_
                          refine zv_callSv (as := [za_O 22 101, za_I t, za_I k, za_I td]) G (zc_X10_splits l E 101 t k td σ (by first | assumption | decide | omega) (by first | assumption | decide | omega)) zk_X10_splits zm_1415 rfl ⟨(Nat.le_of_ble_eq_true rfl), (Nat.le_of_ble_eq_true rfl)⟩ ⟨Nat.zero_le _, Nat.zero_le _⟩ (Nat.le_of_ble_eq_true rfl) dX10_turns_166 (fun σ h_166 => ?_)
                          have e166 := h_166
                          obtain ⟨x_169, e_169⟩ : ∃ y : Int32, y = y9_32 + 1 := ⟨_, rfl⟩
                          refine zv_iinc (j := 12) (v := x_169) (lv' := [(9, za_I x_169), (12, za_I 1), (11, za_I r_65), (10, za_I r_55), (0, za_O 19 93), (1, za_O 22 q), (2, za_I t), (3, za_I k), (4, za_I 1), (5, za_I v), (6, za_I fd), (7, za_I td), (8, za_I r_7)]) G dX10_turns_169 rfl (by rw [e_169]; rfl) (by decide) rfl ?_
                          first | have q_169 := z_inc9 (by omega) e_169 | skip
                          refine zv_goto (tgt := 32) G dX10_turns_172 (by decide) ?_
                          refine zv_sub [4, 5, 6, 7, 8, 9, 10, 11, 12, 0] (lv' := [(0, za_O 19 93), (1, za_O 22 q), (2, za_I t), (3, za_I k), (4, za_I 1), (5, za_I v), (6, za_I fd), (7, za_I td), (8, za_I r_7), (9, za_I x_169)]) rfl ?_
                          exact ih_32 x_169 σ (by first | exact wzts_y ht hk (by omega) z_155 q_169 h0 ⟨t_44.2, (wzch1 t_44.2 h_55 c_84)⟩ (wzlay_T (j := 1) (v := v) (a := fd.toInt) (d := y9_32.toInt) ⟨t_44.2, (hB _ (zix_lt ht hk t_44.1).1).2⟩ (Or.inl ⟨rfl, hv⟩) (va := v) (re := r_65) rfl h_65 w_110 rfl) e146 | exact wzts_z ht hk hB (by omega) z_155 q_169 h0 ⟨t_44.2, (wzch1 t_44.2 h_55 c_84)⟩ (wzlay_T (j := 1) (v := v) (a := fd.toInt) (d := y9_32.toInt) ⟨t_44.2, (hB _ (zix_lt ht hk t_44.1).1).2⟩ (Or.inl ⟨rfl, hv⟩) (va := v) (re := r_65) rfl h_65 w_110 rfl) e146 e166 | exact wzts_n (by omega) q_169 hz (fun z => f_44 ⟨by omega, z.1⟩) | exact wzts_n (by omega) q_169 hz (fun z => z.2 (wzcq1 t_44.2 h_55 c_84))) (by omega) (by have := z_inc c_36 e_169; omega) (z_meas c_36 e_169 hn_32)
    refine zv_istore (lv' := [(9, za_I fd), (8, za_I r_7), (0, za_O 19 93), (1, za_O 22 q), (2, za_I t), (3, za_I k), (4, za_I 1), (5, za_I v), (6, za_I fd), (7, za_I td)]) G dX10_turns_30 (by decide) rfl ?_
    refine zv_sub [2, 3, 4, 5, 6, 7, 8, 9, 1, 0] (lv' := [(0, za_O 19 93), (1, za_O 22 q), (2, za_I t), (3, za_I k), (4, za_I 1), (5, za_I v), (6, za_I fd), (7, za_I td), (8, za_I r_7), (9, za_I fd)]) rfl ?_
    exact J_32 _ fd σ hz (by omega) (by first | assumption | omega) (Nat.lt_succ_self _)
  · refine zv_bipush (v := (-2)) G dX10_turns_17 (by decide) ?_
    exact zv_iret G hr dX10_turns_19 ⟨hz, Or.inl ⟨rfl, h_7.2.mp (by rw [c_14]; rfl)⟩⟩
set_option maxHeartbeats 4000000 in
set_option maxRecDepth 100000 in
theorem zc_X10_turns_at0 (l : Launch) (E : za_E) (q : Nat) (t : Int32) (k : Int32) (v : Int32) (fd : Int32) (td : Int32) (σ0 : za_S) (hq : q ≠ 101 ∧ q ≠ 93) (ht : 0 ≤ t.toInt ∧ t.toInt ≤ 1) (hk : 0 ≤ k.toInt ∧ k.toInt ≤ 9) (hB : zGB (σ0.1 q)) (hv : 0 ≤ v.toInt ∧ v.toInt ≤ 10) (hp : (0 ≤ fd.toInt ∧ fd.toInt ≤ 99) ∧ fd.toInt < td.toInt ∧ td.toInt ≤ 100) : zMi l E yX10_turns cX10_turns 13 (Option.some Jvm.ClassFile.FieldType.int) 6 138 [za_O 19 93, za_O 22 q, za_I t, za_I k, za_I 0, za_I v, za_I fd, za_I td] σ0 (fun r σ' => zfx 101 σ0 σ' ∧ ((r = -2 ∧ wzrn (σ0.1 q) t.toInt k.toInt fd.toInt td.toInt) ∨ (0 ≤ r.toInt ∧ ¬ wzrn (σ0.1 q) t.toInt k.toInt fd.toInt td.toInt ∧ wzFtn (σ0.1 q) (σ'.1 101) t.toInt k.toInt 4 v.toInt fd.toInt td.toInt))) := by
  refine zMi_of [(0, za_O 19 93), (1, za_O 22 q), (2, za_I t), (3, za_I k), (4, za_I 0), (5, za_I v), (6, za_I fd), (7, za_I td)] (by decide) rfl rfl (Nat.le_of_ble_eq_true rfl) ?_
  intro ho p e s m args below meth c G hr
  have h_q : za_kd q = 22 := za_okO (by decide) (List.forall_mem_cons.mp (List.forall_mem_cons.mp ho).2).1
  refine zv_gen (R9 := (zfx 101 σ0)) (zfx_r 101 σ0) (fun σ hz => ?_)
  refine zv_aload_n (j := 1) G dX10_turns_0 rfl rfl ?_
  refine zv_iload_n (j := 2) G dX10_turns_1 rfl rfl ?_
  refine zv_iload_n (j := 3) G dX10_turns_2 rfl rfl ?_
  refine zv_iload (j := 6) G dX10_turns_3 rfl ?_
  refine zv_iload (j := 7) G dX10_turns_5 rfl ?_
  refine zv_callSi (as := [za_O 22 q, za_I t, za_I k, za_I fd, za_I td]) G (zc_X10_rowsIn_atx l E q t k fd td σ ht hk hp) zk_X10_rowsIn zm_1382 rfl ⟨(Nat.le_of_ble_eq_true rfl), (Nat.le_of_ble_eq_true rfl)⟩ ⟨Nat.zero_le _, Nat.zero_le _⟩ (Nat.le_of_ble_eq_true rfl) dX10_turns_7 (fun r_7 σ h_7 => ?_)
  obtain ⟨h_7, rfl⟩ := h_7
  rw [zfx_q hq hz] at h_7
  refine zv_istore (lv' := [(8, za_I r_7), (0, za_O 19 93), (1, za_O 22 q), (2, za_I t), (3, za_I k), (4, za_I 0), (5, za_I v), (6, za_I fd), (7, za_I td)]) G dX10_turns_10 (by decide) rfl ?_
  refine zv_iload (j := 0) G dX10_turns_12 rfl ?_
  refine zv_if_ne (tgt := 20) G dX10_turns_14 (by decide) (fun c_14 => ?_) (fun c_14 => ?_)
  · refine zv_aload_n (j := 2) G dX10_turns_20 rfl rfl ?_
    refine zv_aload_n (j := 1) G dX10_turns_21 rfl rfl ?_
    refine zg_X10_124 G dX10_turns_22 ?_
    refine zv_callSv (as := [za_O 22 q, za_O 22 101]) G (zc_X10_copiesTo l E q 101 σ ) zk_X10_copiesTo zm_1385 rfl ⟨(Nat.le_of_ble_eq_true rfl), (Nat.le_of_ble_eq_true rfl)⟩ ⟨Nat.zero_le _, Nat.zero_le _⟩ (Nat.le_of_ble_eq_true rfl) dX10_turns_25 (fun σ h_25 => ?_)
    have hz : wzts q t k 4 v fd td fd σ0 σ := wzts_0 hq ht hk hp.2.1 hz h_25
    refine zv_iload (j := 7) G dX10_turns_28 rfl ?_
    have J_32 : ∀ (n : Nat) (y9_32 : Int32) (σ : za_S) (hz : wzts q t k 4 v fd td y9_32 σ0 σ) (g_32 : fd.toInt ≤ y9_32.toInt ∧ y9_32.toInt ≤ td.toInt) (i9_32 : 0 ≤ y9_32.toInt) (hn_32 : (2147483648 - y9_32.toInt).toNat < n), zV p l e (zRm 6 138) s m args below meth c E (za_A E) 13 0 0 (MQ below (va_Qi (fun r σ' => zfx 101 σ0 σ' ∧ ((r = -2 ∧ wzrn (σ0.1 q) t.toInt k.toInt fd.toInt td.toInt) ∨ (0 ≤ r.toInt ∧ ¬ wzrn (σ0.1 q) t.toInt k.toInt fd.toInt td.toInt ∧ wzFtn (σ0.1 q) (σ'.1 101) t.toInt k.toInt 4 v.toInt fd.toInt td.toInt))) (zB E) (za_A E)) args s 0 0 (za_A E)) 32 [(0, za_O 19 93), (1, za_O 22 q), (2, za_I t), (3, za_I k), (4, za_I 0), (5, za_I v), (6, za_I fd), (7, za_I td), (8, za_I r_7), (9, za_I y9_32)] [] σ := by
      intro n
      induction n with
      | zero => intro y9_32 σ hz g_32 i9_32 hn; exact absurd hn (Nat.not_lt_zero _)
      | succ n ih_32 =>
        intro y9_32 σ hz g_32 i9_32 hn_32
        refine zv_iload (j := 9) G dX10_turns_32 rfl ?_
        refine zv_iload (j := 7) G dX10_turns_34 rfl ?_
        refine zv_icmp_ge (tgt := 175) G dX10_turns_36 (by decide) (fun c_36 => ?_) (fun c_36 => ?_)
        · have k_36 := z_cle c_36 (a := td.toInt) (b := y9_32.toInt) rfl rfl
          refine zv_iload (j := 8) G dX10_turns_175 rfl ?_
          exact zv_iret G hr dX10_turns_177 ⟨hz.1, Or.inr ⟨h_7.1, fun z => c_14 (Int32.toInt_inj.mp (h_7.2.mpr z)), wzTi_f hz.2 (by omega)⟩⟩
        · have k_36 := z_cnle c_36 (a := td.toInt) (b := y9_32.toInt) rfl rfl
          refine zv_aload_n (j := 1) G dX10_turns_39 rfl rfl ?_
          refine zv_iload_n (j := 2) G dX10_turns_40 rfl rfl ?_
          refine zv_iload_n (j := 3) G dX10_turns_41 rfl rfl ?_
          refine zv_iload (j := 9) G dX10_turns_42 rfl ?_
          refine zv_callSi (as := [za_O 22 q, za_I t, za_I k, za_I y9_32]) G (zc_X10_isThere l E q t k y9_32 σ (by first | assumption | decide | omega) (by first | assumption | decide | omega)) zk_X10_isThere zm_1324 rfl ⟨(Nat.le_of_ble_eq_true rfl), (Nat.le_of_ble_eq_true rfl)⟩ ⟨Nat.zero_le _, Nat.zero_le _⟩ (Nat.le_of_ble_eq_true rfl) dX10_turns_44 (fun r_44 σ h_44 => ?_)
          obtain ⟨h_44, rfl⟩ := h_44
          refine zv_if_eq (tgt := 169) G dX10_turns_47 (by decide) (fun c_47 => ?_) (fun c_47 => ?_)
          · have f_44 := fun q9 => (h_44.2.mpr q9) c_47
            rw [zfx_q hq hz.1] at f_44
            obtain ⟨x_169, e_169⟩ : ∃ y : Int32, y = y9_32 + 1 := ⟨_, rfl⟩
            refine zv_iinc (j := 9) (v := x_169) (lv' := [(9, za_I x_169), (0, za_O 19 93), (1, za_O 22 q), (2, za_I t), (3, za_I k), (4, za_I 0), (5, za_I v), (6, za_I fd), (7, za_I td), (8, za_I r_7)]) G dX10_turns_169 rfl (by rw [e_169]; rfl) (by decide) rfl ?_
            first | have q_169 := z_inc9 (by omega) e_169 | skip
            refine zv_goto (tgt := 32) G dX10_turns_172 (by decide) ?_
            refine zv_sub [1, 2, 3, 4, 5, 6, 7, 8, 9, 0] (lv' := [(0, za_O 19 93), (1, za_O 22 q), (2, za_I t), (3, za_I k), (4, za_I 0), (5, za_I v), (6, za_I fd), (7, za_I td), (8, za_I r_7), (9, za_I x_169)]) rfl ?_
            exact ih_32 x_169 σ (by first | exact wzts_y ht hk (by omega) z_155 q_169 h0 ⟨t_44.2, (wzch4 t_44.2 h_65 c_84)⟩ (wzlay_T (j := 4) (v := v) (a := fd.toInt) (d := y9_32.toInt) ⟨t_44.2, (hB _ (zix_lt ht hk t_44.1).1).2⟩ (Or.inr ⟨rfl, hv⟩) (va := r_55) (re := v) h_55 rfl w_110 rfl) e146 | exact wzts_z ht hk hB (by omega) z_155 q_169 h0 ⟨t_44.2, (wzch4 t_44.2 h_65 c_84)⟩ (wzlay_T (j := 4) (v := v) (a := fd.toInt) (d := y9_32.toInt) ⟨t_44.2, (hB _ (zix_lt ht hk t_44.1).1).2⟩ (Or.inr ⟨rfl, hv⟩) (va := r_55) (re := v) h_55 rfl w_110 rfl) e146 e166 | exact wzts_n (by omega) q_169 hz (fun z => f_44 ⟨by omega, z.1⟩) | exact wzts_n (by omega) q_169 hz (fun z => z.2 (wzcq4 t_44.2 h_65 c_84))) (by omega) (by have := z_inc c_36 e_169; omega) (z_meas c_36 e_169 hn_32)
          · have t_44 := h_44.2.mp c_47
            rw [zfx_q hq hz.1] at t_44
            refine zv_aload_n (j := 1) G dX10_turns_50 rfl rfl ?_
            refine zv_iload_n (j := 2) G dX10_turns_51 rfl rfl ?_
            refine zv_iload_n (j := 3) G dX10_turns_52 rfl rfl ?_
            refine zv_iload (j := 9) G dX10_turns_53 rfl ?_
            refine zv_callSi (as := [za_O 22 q, za_I t, za_I k, za_I y9_32]) G (zc_X10_valueOn l E q t k y9_32 σ (by first | assumption | decide | omega) (by first | assumption | decide | omega) (by first | assumption | decide | omega)) zk_X10_valueOn zm_1338 rfl ⟨(Nat.le_of_ble_eq_true rfl), (Nat.le_of_ble_eq_true rfl)⟩ ⟨Nat.zero_le _, Nat.zero_le _⟩ (Nat.le_of_ble_eq_true rfl) dX10_turns_55 (fun r_55 σ h_55 => ?_)
            obtain ⟨h_55, rfl⟩ := h_55
            rw [zfx_q hq hz.1] at h_55
            refine zv_istore (lv' := [(10, za_I r_55), (0, za_O 19 93), (1, za_O 22 q), (2, za_I t), (3, za_I k), (4, za_I 0), (5, za_I v), (6, za_I fd), (7, za_I td), (8, za_I r_7), (9, za_I y9_32)]) G dX10_turns_58 (by decide) rfl ?_
            refine zv_aload_n (j := 2) G dX10_turns_60 rfl rfl ?_
            refine zv_iload_n (j := 3) G dX10_turns_61 rfl rfl ?_
            refine zv_iload_n (j := 4) G dX10_turns_62 rfl rfl ?_
            refine zv_iload (j := 10) G dX10_turns_63 rfl ?_
            refine zv_callSi (as := [za_O 22 q, za_I t, za_I k, za_I y9_32]) G (zc_X10_refOn l E q t k y9_32 σ (by first | assumption | decide | omega) (by first | assumption | decide | omega) (by first | assumption | decide | omega)) zk_X10_refOn zm_1344 rfl ⟨(Nat.le_of_ble_eq_true rfl), (Nat.le_of_ble_eq_true rfl)⟩ ⟨Nat.zero_le _, Nat.zero_le _⟩ (Nat.le_of_ble_eq_true rfl) dX10_turns_65 (fun r_65 σ h_65 => ?_)
            obtain ⟨h_65, rfl⟩ := h_65
            rw [zfx_q hq hz.1] at h_65
            refine zv_istore (lv' := [(11, za_I r_65), (10, za_I r_55), (0, za_O 19 93), (1, za_O 22 q), (2, za_I t), (3, za_I k), (4, za_I 0), (5, za_I v), (6, za_I fd), (7, za_I td), (8, za_I r_7), (9, za_I y9_32)]) G dX10_turns_68 (by decide) rfl ?_
            refine zv_iload (j := 6) G dX10_turns_70 rfl ?_
            refine zv_if_eq (tgt := 80) G dX10_turns_72 (by decide) (fun c_72 => ?_) (fun c_72 => ?_)
            · have k_72 := z_ceq c_72 (a := 0) (b := 0) rfl rfl
              refine zv_iload (j := 0) G dX10_turns_80 rfl ?_
              refine zv_iload (j := 7) G dX10_turns_82 rfl ?_
              refine zv_icmp_eq (tgt := 169) G dX10_turns_84 (by decide) (fun c_84 => ?_) (fun c_84 => ?_)
              · have k_84 := z_ceq c_84 (a := r_65.toInt) (b := v.toInt) rfl rfl
                obtain ⟨x_169, e_169⟩ : ∃ y : Int32, y = y9_32 + 1 := ⟨_, rfl⟩
                refine zv_iinc (j := 11) (v := x_169) (lv' := [(9, za_I x_169), (11, za_I r_65), (10, za_I r_55), (0, za_O 19 93), (1, za_O 22 q), (2, za_I t), (3, za_I k), (4, za_I 0), (5, za_I v), (6, za_I fd), (7, za_I td), (8, za_I r_7)]) G dX10_turns_169 rfl (by rw [e_169]; rfl) (by decide) rfl ?_
                first | have q_169 := z_inc9 (by omega) e_169 | skip
                refine zv_goto (tgt := 32) G dX10_turns_172 (by decide) ?_
                refine zv_sub [3, 4, 5, 6, 7, 8, 9, 10, 11, 0] (lv' := [(0, za_O 19 93), (1, za_O 22 q), (2, za_I t), (3, za_I k), (4, za_I 0), (5, za_I v), (6, za_I fd), (7, za_I td), (8, za_I r_7), (9, za_I x_169)]) rfl ?_
                exact ih_32 x_169 σ (by first | exact wzts_y ht hk (by omega) z_155 q_169 h0 ⟨t_44.2, (wzch4 t_44.2 h_65 c_84)⟩ (wzlay_T (j := 4) (v := v) (a := fd.toInt) (d := y9_32.toInt) ⟨t_44.2, (hB _ (zix_lt ht hk t_44.1).1).2⟩ (Or.inr ⟨rfl, hv⟩) (va := r_55) (re := v) h_55 rfl w_110 rfl) e146 | exact wzts_z ht hk hB (by omega) z_155 q_169 h0 ⟨t_44.2, (wzch4 t_44.2 h_65 c_84)⟩ (wzlay_T (j := 4) (v := v) (a := fd.toInt) (d := y9_32.toInt) ⟨t_44.2, (hB _ (zix_lt ht hk t_44.1).1).2⟩ (Or.inr ⟨rfl, hv⟩) (va := r_55) (re := v) h_55 rfl w_110 rfl) e146 e166 | exact wzts_n (by omega) q_169 hz (fun z => f_44 ⟨by omega, z.1⟩) | exact wzts_n (by omega) q_169 hz (fun z => z.2 (wzcq4 t_44.2 h_65 c_84))) (by omega) (by have := z_inc c_36 e_169; omega) (z_meas c_36 e_169 hn_32)
              · have k_84 := z_cne c_84 (a := r_65.toInt) (b := v.toInt) rfl rfl
                refine zv_aload_n (j := 3) G dX10_turns_87 rfl rfl ?_
                refine zv_iload_n (j := 4) G dX10_turns_88 rfl rfl ?_
                refine zv_iload_n (j := 5) G dX10_turns_89 rfl rfl ?_
                refine zv_iload (j := 11) G dX10_turns_90 rfl ?_
                refine zv_callSi (as := [za_O 22 q, za_I t, za_I k, za_I y9_32]) G (zc_X10_begins l E q t k y9_32 σ (by first | assumption | decide | omega) (by first | assumption | decide | omega)) zk_X10_begins zm_1321 rfl ⟨(Nat.le_of_ble_eq_true rfl), (Nat.le_of_ble_eq_true rfl)⟩ ⟨Nat.zero_le _, Nat.zero_le _⟩ (Nat.le_of_ble_eq_true rfl) dX10_turns_92 (fun r_92 σ h_92 => ?_)
                obtain ⟨h_92, rfl⟩ := h_92
                refine zv_if_ne (tgt := 105) G dX10_turns_95 (by decide) (fun c_95 => ?_) (fun c_95 => ?_)
                · have t_92 := h_92.2.mp c_95
                  rw [zfx_q hq hz.1] at t_92
                  have w_110 : ((1 : Int32) = 0 ∨ (1 : Int32) = 1) ∧ ((1 : Int32) = 1 ↔ (y9_32.toInt = fd.toInt ∨ ((σ0.1 q (zix t k y9_32)).toInt - 1) % 2 = 1)) := ⟨Or.inr rfl, fun _ => Or.inr t_92.2.2, fun _ => rfl⟩
                  refine zv_iconst (v := 1) G dX10_turns_105 (by decide) ?_
                  refine zv_goto (tgt := 110) G dX10_turns_106 (by decide) ?_
                  refine zv_istore (lv' := [(12, za_I 1), (11, za_I r_65), (10, za_I r_55), (0, za_O 19 93), (1, za_O 22 q), (2, za_I t), (3, za_I k), (4, za_I 0), (5, za_I v), (6, za_I fd), (7, za_I td), (8, za_I r_7), (9, za_I y9_32)]) G dX10_turns_110 (by decide) rfl ?_
                  refine zv_aload_n (j := 3) G dX10_turns_112 rfl rfl ?_
                  refine zg_X10_124 G dX10_turns_113 ?_
                  refine zv_iload_n (j := 5) G dX10_turns_116 rfl rfl ?_
                  refine zv_iload_n (j := 6) G dX10_turns_117 rfl rfl ?_
                  refine zv_iload (j := 12) G dX10_turns_118 rfl ?_
                  refine zv_iload (j := 7) G dX10_turns_120 rfl ?_
                  refine zv_if_eq (tgt := 130) G dX10_turns_122 (by decide) (fun c_122 => ?_) (fun c_122 => ?_)
                  · have k_122 := z_ceq c_122 (a := 0) (b := 0) rfl rfl
                    refine zv_iload (j := 2) G dX10_turns_130 rfl ?_
                    refine zv_iload (j := 7) G dX10_turns_132 rfl ?_
                    refine zv_if_eq (tgt := 142) G dX10_turns_134 (by decide) (fun c_134 => ?_) (fun c_134 => ?_)
                    · have k_134 := z_ceq c_134 (a := 0) (b := 0) rfl rfl
                      refine zv_iload (j := 8) G dX10_turns_142 rfl ?_
                      refine zv_iload (j := 0) G dX10_turns_144 rfl ?_
                      refine zv_callSv (as := [za_O 22 101, za_I t, za_I k, za_I y9_32, za_I r_55, za_I v, za_I 1]) G (zc_X10_lays l E 101 t k y9_32 r_55 v (1 : Int32) σ (by first | assumption | decide | omega) (by first | assumption | decide | omega) (by first | assumption | decide | omega)) zk_X10_lays zm_1360 rfl ⟨(Nat.le_of_ble_eq_true rfl), (Nat.le_of_ble_eq_true rfl)⟩ ⟨Nat.zero_le _, Nat.zero_le _⟩ (Nat.le_of_ble_eq_true rfl) dX10_turns_146 (fun σ h_146 => ?_)
                      have h0 := hz
                      have e146 := h_146
                      refine zv_iload (j := 12) G dX10_turns_149 rfl ?_
                      refine zv_iload (j := 10) G dX10_turns_151 rfl ?_
                      refine zv_iconst (v := 1) G dX10_turns_153 (by decide) ?_
                      refine zv_isub G dX10_turns_154 ?_
                      refine zv_icmp_ne (tgt := 169) G dX10_turns_155 (by decide) (fun c_155 => ?_) (fun c_155 => ?_)
                      · have k_155 := z_cne c_155 (a := y9_32.toInt) (b := (td - 1).toInt) rfl rfl
                        have m9 := wz_bm1 (b := td) (by omega)
                        have z_155 : ¬ y9_32.toInt = td.toInt - 1 := fun e9 => k_155 (by omega)
                        obtain ⟨x_169, e_169⟩ : ∃ y : Int32, y = y9_32 + 1 := ⟨_, rfl⟩
                        refine zv_iinc (j := 12) (v := x_169) (lv' := [(9, za_I x_169), (12, za_I 1), (11, za_I r_65), (10, za_I r_55), (0, za_O 19 93), (1, za_O 22 q), (2, za_I t), (3, za_I k), (4, za_I 0), (5, za_I v), (6, za_I fd), (7, za_I td), (8, za_I r_7)]) G dX10_turns_169 rfl (by rw [e_169]; rfl) (by decide) rfl ?_
                        first | have q_169 := z_inc9 (by omega) e_169 | skip
                        refine zv_goto (tgt := 32) G dX10_turns_172 (by decide) ?_
                        refine zv_sub [4, 5, 6, 7, 8, 9, 10, 11, 12, 0] (lv' := [(0, za_O 19 93), (1, za_O 22 q), (2, za_I t), (3, za_I k), (4, za_I 0), (5, za_I v), (6, za_I fd), (7, za_I td), (8, za_I r_7), (9, za_I x_169)]) rfl ?_
                        exact ih_32 x_169 σ (by first | exact wzts_y ht hk (by omega) z_155 q_169 h0 ⟨t_44.2, (wzch4 t_44.2 h_65 c_84)⟩ (wzlay_T (j := 4) (v := v) (a := fd.toInt) (d := y9_32.toInt) ⟨t_44.2, (hB _ (zix_lt ht hk t_44.1).1).2⟩ (Or.inr ⟨rfl, hv⟩) (va := r_55) (re := v) h_55 rfl w_110 rfl) e146 | exact wzts_z ht hk hB (by omega) z_155 q_169 h0 ⟨t_44.2, (wzch4 t_44.2 h_65 c_84)⟩ (wzlay_T (j := 4) (v := v) (a := fd.toInt) (d := y9_32.toInt) ⟨t_44.2, (hB _ (zix_lt ht hk t_44.1).1).2⟩ (Or.inr ⟨rfl, hv⟩) (va := r_55) (re := v) h_55 rfl w_110 rfl) e146 e166 | exact wzts_n (by omega) q_169 hz (fun z => f_44 ⟨by omega, z.1⟩) | exact wzts_n (by omega) q_169 hz (fun z => z.2 (wzcq4 t_44.2 h_65 c_84))) (by omega) (by have := z_inc c_36 e_169; omega) (z_meas c_36 e_169 hn_32)
                      · have k_155 := z_ceq c_155 (a := y9_32.toInt) (b := (td - 1).toInt) rfl rfl
                        have m9 := wz_bm1 (b := td) (by omega)
                        have z_155 : y9_32.toInt = td.toInt - 1 := by omega
                        refine zv_aload_n (j := 3) G dX10_turns_158 rfl rfl ?_
                        refine zg_X10_124 G dX10_turns_159 ?_
                        refine zv_iload_n (j := 5) G dX10_turns_162 rfl rfl ?_
                        refine zv_iload_n (j := 6) G dX10_turns_163 rfl rfl ?_
                        refine zv_iload (j := 10) G dX10_turns_164 rfl ?_
                        refine zv_callSv (as := [za_O 22 101, za_I t, za_I k, za_I td]) G (zc_X10_splits l E 101 t k td σ (by first | assumption | decide | omega) (by first | assumption | decide | omega)) zk_X10_splits zm_1415 rfl ⟨(Nat.le_of_ble_eq_true rfl), (Nat.le_of_ble_eq_true rfl)⟩ ⟨Nat.zero_le _, Nat.zero_le _⟩ (Nat.le_of_ble_eq_true rfl) dX10_turns_166 (fun σ h_166 => ?_)
                        have e166 := h_166
                        obtain ⟨x_169, e_169⟩ : ∃ y : Int32, y = y9_32 + 1 := ⟨_, rfl⟩
                        refine zv_iinc (j := 12) (v := x_169) (lv' := [(9, za_I x_169), (12, za_I 1), (11, za_I r_65), (10, za_I r_55), (0, za_O 19 93), (1, za_O 22 q), (2, za_I t), (3, za_I k), (4, za_I 0), (5, za_I v), (6, za_I fd), (7, za_I td), (8, za_I r_7)]) G dX10_turns_169 rfl (by rw [e_169]; rfl) (by decide) rfl ?_
                        first | have q_169 := z_inc9 (by omega) e_169 | skip
                        refine zv_goto (tgt := 32) G dX10_turns_172 (by decide) ?_
                        refine zv_sub [4, 5, 6, 7, 8, 9, 10, 11, 12, 0] (lv' := [(0, za_O 19 93), (1, za_O 22 q), (2, za_I t), (3, za_I k), (4, za_I 0), (5, za_I v), (6, za_I fd), (7, za_I td), (8, za_I r_7), (9, za_I x_169)]) rfl ?_
                        exact ih_32 x_169 σ (by first | exact wzts_y ht hk (by omega) z_155 q_169 h0 ⟨t_44.2, (wzch4 t_44.2 h_65 c_84)⟩ (wzlay_T (j := 4) (v := v) (a := fd.toInt) (d := y9_32.toInt) ⟨t_44.2, (hB _ (zix_lt ht hk t_44.1).1).2⟩ (Or.inr ⟨rfl, hv⟩) (va := r_55) (re := v) h_55 rfl w_110 rfl) e146 | exact wzts_z ht hk hB (by omega) z_155 q_169 h0 ⟨t_44.2, (wzch4 t_44.2 h_65 c_84)⟩ (wzlay_T (j := 4) (v := v) (a := fd.toInt) (d := y9_32.toInt) ⟨t_44.2, (hB _ (zix_lt ht hk t_44.1).1).2⟩ (Or.inr ⟨rfl, hv⟩) (va := r_55) (re := v) h_55 rfl w_110 rfl) e146 e166 | exact wzts_n (by omega) q_169 hz (fun z => f_44 ⟨by omega, z.1⟩) | exact wzts_n (by omega) q_169 hz (fun z => z.2 (wzcq4 t_44.2 h_65 c_84))) (by omega) (by have := z_inc c_36 e_169; omega) (z_meas c_36 e_169 hn_32)
                    · exact absurd c_134 (by decide)
                  · exact absurd c_122 (by decide)
                · have f_92 := fun q9 => (h_92.2.mpr q9) c_95
                  rw [zfx_q hq hz.1] at f_92
                  refine zv_iload (j := 11) G dX10_turns_98 rfl ?_
                  refine zv_iload (j := 8) G dX10_turns_100 rfl ?_
                  refine zv_icmp_ne (tgt := 109) G dX10_turns_102 (by decide) (fun c_102 => ?_) (fun c_102 => ?_)
                  · have k_102 := z_cne c_102 (a := y9_32.toInt) (b := fd.toInt) rfl rfl
                    have w_110 : ((0 : Int32) = 0 ∨ (0 : Int32) = 1) ∧ ((0 : Int32) = 1 ↔ (y9_32.toInt = fd.toInt ∨ ((σ0.1 q (zix t k y9_32)).toInt - 1) % 2 = 1)) := ⟨Or.inl rfl, fun z => absurd z (by decide), fun z => (z.elim k_102 (fun z2 => f_92 ⟨by omega, t_44.2, z2⟩)).elim⟩
                    refine zv_iconst (v := 0) G dX10_turns_109 (by decide) ?_
                    refine zv_istore (lv' := [(12, za_I 0), (11, za_I r_65), (10, za_I r_55), (0, za_O 19 93), (1, za_O 22 q), (2, za_I t), (3, za_I k), (4, za_I 0), (5, za_I v), (6, za_I fd), (7, za_I td), (8, za_I r_7), (9, za_I y9_32)]) G dX10_turns_110 (by decide) rfl ?_
                    refine zv_aload_n (j := 3) G dX10_turns_112 rfl rfl ?_
                    refine zg_X10_124 G dX10_turns_113 ?_
                    refine zv_iload_n (j := 5) G dX10_turns_116 rfl rfl ?_
                    refine zv_iload_n (j := 6) G dX10_turns_117 rfl rfl ?_
                    refine zv_iload (j := 12) G dX10_turns_118 rfl ?_
                    refine zv_iload (j := 7) G dX10_turns_120 rfl ?_
                    refine zv_if_eq (tgt := 130) G dX10_turns_122 (by decide) (fun c_122 => ?_) (fun c_122 => ?_)
                    · have k_122 := z_ceq c_122 (a := 0) (b := 0) rfl rfl
                      refine zv_iload (j := 2) G dX10_turns_130 rfl ?_
                      refine zv_iload (j := 7) G dX10_turns_132 rfl ?_
                      refine zv_if_eq (tgt := 142) G dX10_turns_134 (by decide) (fun c_134 => ?_) (fun c_134 => ?_)
                      · have k_134 := z_ceq c_134 (a := 0) (b := 0) rfl rfl
                        refine zv_iload (j := 8) G dX10_turns_142 rfl ?_
                        refine zv_iload (j := 0) G dX10_turns_144 rfl ?_
                        refine zv_callSv (as := [za_O 22 101, za_I t, za_I k, za_I y9_32, za_I r_55, za_I v, za_I 0]) G (zc_X10_lays l E 101 t k y9_32 r_55 v (0 : Int32) σ (by first | assumption | decide | omega) (by first | assumption | decide | omega) (by first | assumption | decide | omega)) zk_X10_lays zm_1360 rfl ⟨(Nat.le_of_ble_eq_true rfl), (Nat.le_of_ble_eq_true rfl)⟩ ⟨Nat.zero_le _, Nat.zero_le _⟩ (Nat.le_of_ble_eq_true rfl) dX10_turns_146 (fun σ h_146 => ?_)
                        have h0 := hz
                        have e146 := h_146
                        refine zv_iload (j := 12) G dX10_turns_149 rfl ?_
                        refine zv_iload (j := 10) G dX10_turns_151 rfl ?_
                        refine zv_iconst (v := 1) G dX10_turns_153 (by decide) ?_
                        refine zv_isub G dX10_turns_154 ?_
                        refine zv_icmp_ne (tgt := 169) G dX10_turns_155 (by decide) (fun c_155 => ?_) (fun c_155 => ?_)
                        · have k_155 := z_cne c_155 (a := y9_32.toInt) (b := (td - 1).toInt) rfl rfl
                          have m9 := wz_bm1 (b := td) (by omega)
                          have z_155 : ¬ y9_32.toInt = td.toInt - 1 := fun e9 => k_155 (by omega)
                          obtain ⟨x_169, e_169⟩ : ∃ y : Int32, y = y9_32 + 1 := ⟨_, rfl⟩
                          refine zv_iinc (j := 12) (v := x_169) (lv' := [(9, za_I x_169), (12, za_I 0), (11, za_I r_65), (10, za_I r_55), (0, za_O 19 93), (1, za_O 22 q), (2, za_I t), (3, za_I k), (4, za_I 0), (5, za_I v), (6, za_I fd), (7, za_I td), (8, za_I r_7)]) G dX10_turns_169 rfl (by rw [e_169]; rfl) (by decide) rfl ?_
                          first | have q_169 := z_inc9 (by omega) e_169 | skip
                          refine zv_goto (tgt := 32) G dX10_turns_172 (by decide) ?_
                          refine zv_sub [4, 5, 6, 7, 8, 9, 10, 11, 12, 0] (lv' := [(0, za_O 19 93), (1, za_O 22 q), (2, za_I t), (3, za_I k), (4, za_I 0), (5, za_I v), (6, za_I fd), (7, za_I td), (8, za_I r_7), (9, za_I x_169)]) rfl ?_
                          exact ih_32 x_169 σ (by first | exact wzts_y ht hk (by omega) z_155 q_169 h0 ⟨t_44.2, (wzch4 t_44.2 h_65 c_84)⟩ (wzlay_T (j := 4) (v := v) (a := fd.toInt) (d := y9_32.toInt) ⟨t_44.2, (hB _ (zix_lt ht hk t_44.1).1).2⟩ (Or.inr ⟨rfl, hv⟩) (va := r_55) (re := v) h_55 rfl w_110 rfl) e146 | exact wzts_z ht hk hB (by omega) z_155 q_169 h0 ⟨t_44.2, (wzch4 t_44.2 h_65 c_84)⟩ (wzlay_T (j := 4) (v := v) (a := fd.toInt) (d := y9_32.toInt) ⟨t_44.2, (hB _ (zix_lt ht hk t_44.1).1).2⟩ (Or.inr ⟨rfl, hv⟩) (va := r_55) (re := v) h_55 rfl w_110 rfl) e146 e166 | exact wzts_n (by omega) q_169 hz (fun z => f_44 ⟨by omega, z.1⟩) | exact wzts_n (by omega) q_169 hz (fun z => z.2 (wzcq4 t_44.2 h_65 c_84))) (by omega) (by have := z_inc c_36 e_169; omega) (z_meas c_36 e_169 hn_32)
                        · have k_155 := z_ceq c_155 (a := y9_32.toInt) (b := (td - 1).toInt) rfl rfl
                          have m9 := wz_bm1 (b := td) (by omega)
                          have z_155 : y9_32.toInt = td.toInt - 1 := by omega
                          refine zv_aload_n (j := 3) G dX10_turns_158 rfl rfl ?_
                          refine zg_X10_124 G dX10_turns_159 ?_
                          refine zv_iload_n (j := 5) G dX10_turns_162 rfl rfl ?_
                          refine zv_iload_n (j := 6) G dX10_turns_163 rfl rfl ?_
                          refine zv_iload (j := 10) G dX10_turns_164 rfl ?_
                          refine zv_callSv (as := [za_O 22 101, za_I t, za_I k, za_I td]) G (zc_X10_splits l E 101 t k td σ (by first | assumption | decide | omega) (by first | assumption | decide | omega)) zk_X10_splits zm_1415 rfl ⟨(Nat.le_of_ble_eq_true rfl), (Nat.le_of_ble_eq_true rfl)⟩ ⟨Nat.zero_le _, Nat.zero_le _⟩ (Nat.le_of_ble_eq_true rfl) dX10_turns_166 (fun σ h_166 => ?_)
                          have e166 := h_166
                          obtain ⟨x_169, e_169⟩ : ∃ y : Int32, y = y9_32 + 1 := ⟨_, rfl⟩
                          refine zv_iinc (j := 12) (v := x_169) (lv' := [(9, za_I x_169), (12, za_I 0), (11, za_I r_65), (10, za_I r_55), (0, za_O 19 93), (1, za_O 22 q), (2, za_I t), (3, za_I k), (4, za_I 0), (5, za_I v), (6, za_I fd), (7, za_I td), (8, za_I r_7)]) G dX10_turns_169 rfl (by rw [e_169]; rfl) (by decide) rfl ?_
                          first | have q_169 := z_inc9 (by omega) e_169 | skip
                          refine zv_goto (tgt := 32) G dX10_turns_172 (by decide) ?_
                          refine zv_sub [4, 5, 6, 7, 8, 9, 10, 11, 12, 0] (lv' := [(0, za_O 19 93), (1, za_O 22 q), (2, za_I t), (3, za_I k), (4, za_I 0), (5, za_I v), (6, za_I fd), (7, za_I td), (8, za_I r_7), (9, za_I x_169)]) rfl ?_
                          exact ih_32 x_169 σ (by first | exact wzts_y ht hk (by omega) z_155 q_169 h0 ⟨t_44.2, (wzch4 t_44.2 h_65 c_84)⟩ (wzlay_T (j := 4) (v := v) (a := fd.toInt) (d := y9_32.toInt) ⟨t_44.2, (hB _ (zix_lt ht hk t_44.1).1).2⟩ (Or.inr ⟨rfl, hv⟩) (va := r_55) (re := v) h_55 rfl w_110 rfl) e146 | exact wzts_z ht hk hB (by omega) z_155 q_169 h0 ⟨t_44.2, (wzch4 t_44.2 h_65 c_84)⟩ (wzlay_T (j := 4) (v := v) (a := fd.toInt) (d := y9_32.toInt) ⟨t_44.2, (hB _ (zix_lt ht hk t_44.1).1).2⟩ (Or.inr ⟨rfl, hv⟩) (va := r_55) (re := v) h_55 rfl w_110 rfl) e146 e166 | exact wzts_n (by omega) q_169 hz (fun z => f_44 ⟨by omega, z.1⟩) | exact wzts_n (by omega) q_169 hz (fun z => z.2 (wzcq4 t_44.2 h_65 c_84))) (by omega) (by have := z_inc c_36 e_169; omega) (z_meas c_36 e_169 hn_32)
                      · exact absurd c_134 (by decide)
                    · exact absurd c_122 (by decide)
                  · have k_102 := z_ceq c_102 (a := y9_32.toInt) (b := fd.toInt) rfl rfl
                    have w_110 : ((1 : Int32) = 0 ∨ (1 : Int32) = 1) ∧ ((1 : Int32) = 1 ↔ (y9_32.toInt = fd.toInt ∨ ((σ0.1 q (zix t k y9_32)).toInt - 1) % 2 = 1)) := ⟨Or.inr rfl, fun _ => Or.inl k_102, fun _ => rfl⟩
                    refine zv_iconst (v := 1) G dX10_turns_105 (by decide) ?_
                    refine zv_goto (tgt := 110) G dX10_turns_106 (by decide) ?_
                    refine zv_istore (lv' := [(12, za_I 1), (11, za_I r_65), (10, za_I r_55), (0, za_O 19 93), (1, za_O 22 q), (2, za_I t), (3, za_I k), (4, za_I 0), (5, za_I v), (6, za_I fd), (7, za_I td), (8, za_I r_7), (9, za_I y9_32)]) G dX10_turns_110 (by decide) rfl ?_
                    refine zv_aload_n (j := 3) G dX10_turns_112 rfl rfl ?_
                    refine zg_X10_124 G dX10_turns_113 ?_
                    refine zv_iload_n (j := 5) G dX10_turns_116 rfl rfl ?_
                    refine zv_iload_n (j := 6) G dX10_turns_117 rfl rfl ?_
                    refine zv_iload (j := 12) G dX10_turns_118 rfl ?_
                    refine zv_iload (j := 7) G dX10_turns_120 rfl ?_
                    refine zv_if_eq (tgt := 130) G dX10_turns_122 (by decide) (fun c_122 => ?_) (fun c_122 => ?_)
                    · have k_122 := z_ceq c_122 (a := 0) (b := 0) rfl rfl
                      refine zv_iload (j := 2) G dX10_turns_130 rfl ?_
                      refine zv_iload (j := 7) G dX10_turns_132 rfl ?_
                      refine zv_if_eq (tgt := 142) G dX10_turns_134 (by decide) (fun c_134 => ?_) (fun c_134 => ?_)
                      · have k_134 := z_ceq c_134 (a := 0) (b := 0) rfl rfl
                        refine zv_iload (j := 8) G dX10_turns_142 rfl ?_
                        refine zv_iload (j := 0) G dX10_turns_144 rfl ?_
                        refine zv_callSv (as := [za_O 22 101, za_I t, za_I k, za_I y9_32, za_I r_55, za_I v, za_I 1]) G (zc_X10_lays l E 101 t k y9_32 r_55 v (1 : Int32) σ (by first | assumption | decide | omega) (by first | assumption | decide | omega) (by first | assumption | decide | omega)) zk_X10_lays zm_1360 rfl ⟨(Nat.le_of_ble_eq_true rfl), (Nat.le_of_ble_eq_true rfl)⟩ ⟨Nat.zero_le _, Nat.zero_le _⟩ (Nat.le_of_ble_eq_true rfl) dX10_turns_146 (fun σ h_146 => ?_)
                        have h0 := hz
                        have e146 := h_146
                        refine zv_iload (j := 12) G dX10_turns_149 rfl ?_
                        refine zv_iload (j := 10) G dX10_turns_151 rfl ?_
                        refine zv_iconst (v := 1) G dX10_turns_153 (by decide) ?_
                        refine zv_isub G dX10_turns_154 ?_
                        refine zv_icmp_ne (tgt := 169) G dX10_turns_155 (by decide) (fun c_155 => ?_) (fun c_155 => ?_)
                        · have k_155 := z_cne c_155 (a := y9_32.toInt) (b := (td - 1).toInt) rfl rfl
                          have m9 := wz_bm1 (b := td) (by omega)
                          have z_155 : ¬ y9_32.toInt = td.toInt - 1 := fun e9 => k_155 (by omega)
                          obtain ⟨x_169, e_169⟩ : ∃ y : Int32, y = y9_32 + 1 := ⟨_, rfl⟩
                          refine zv_iinc (j := 12) (v := x_169) (lv' := [(9, za_I x_169), (12, za_I 1), (11, za_I r_65), (10, za_I r_55), (0, za_O 19 93), (1, za_O 22 q), (2, za_I t), (3, za_I k), (4, za_I 0), (5, za_I v), (6, za_I fd), (7, za_I td), (8, za_I r_7)]) G dX10_turns_169 rfl (by rw [e_169]; rfl) (by decide) rfl ?_
                          first | have q_169 := z_inc9 (by omega) e_169 | skip
                          refine zv_goto (tgt := 32) G dX10_turns_172 (by decide) ?_
                          refine zv_sub [4, 5, 6, 7, 8, 9, 10, 11, 12, 0] (lv' := [(0, za_O 19 93), (1, za_O 22 q), (2, za_I t), (3, za_I k), (4, za_I 0), (5, za_I v), (6, za_I fd), (7, za_I td), (8, za_I r_7), (9, za_I x_169)]) rfl ?_
                          exact ih_32 x_169 σ (by first | exact wzts_y ht hk (by omega) z_155 q_169 h0 ⟨t_44.2, (wzch4 t_44.2 h_65 c_84)⟩ (wzlay_T (j := 4) (v := v) (a := fd.toInt) (d := y9_32.toInt) ⟨t_44.2, (hB _ (zix_lt ht hk t_44.1).1).2⟩ (Or.inr ⟨rfl, hv⟩) (va := r_55) (re := v) h_55 rfl w_110 rfl) e146 | exact wzts_z ht hk hB (by omega) z_155 q_169 h0 ⟨t_44.2, (wzch4 t_44.2 h_65 c_84)⟩ (wzlay_T (j := 4) (v := v) (a := fd.toInt) (d := y9_32.toInt) ⟨t_44.2, (hB _ (zix_lt ht hk t_44.1).1).2⟩ (Or.inr ⟨rfl, hv⟩) (va := r_55) (re := v) h_55 rfl w_110 rfl) e146 e166 | exact wzts_n (by omega) q_169 hz (fun z => f_44 ⟨by omega, z.1⟩) | exact wzts_n (by omega) q_169 hz (fun z => z.2 (wzcq4 t_44.2 h_65 c_84))) (by omega) (by have := z_inc c_36 e_169; omega) (z_meas c_36 e_169 hn_32)
                        · have k_155 := z_ceq c_155 (a := y9_32.toInt) (b := (td - 1).toInt) rfl rfl
                          have m9 := wz_bm1 (b := td) (by omega)
                          have z_155 : y9_32.toInt = td.toInt - 1 := by omega
                          refine zv_aload_n (j := 3) G dX10_turns_158 rfl rfl ?_
                          refine zg_X10_124 G dX10_turns_159 ?_
                          refine zv_iload_n (j := 5) G dX10_turns_162 rfl rfl ?_
                          refine zv_iload_n (j := 6) G dX10_turns_163 rfl rfl ?_
                          refine zv_iload (j := 10) G dX10_turns_164 rfl ?_
                          refine zv_callSv (as := [za_O 22 101, za_I t, za_I k, za_I td]) G (zc_X10_splits l E 101 t k td σ (by first | assumption | decide | omega) (by first | assumption | decide | omega)) zk_X10_splits zm_1415 rfl ⟨(Nat.le_of_ble_eq_true rfl), (Nat.le_of_ble_eq_true rfl)⟩ ⟨Nat.zero_le _, Nat.zero_le _⟩ (Nat.le_of_ble_eq_true rfl) dX10_turns_166 (fun σ h_166 => ?_)
                          have e166 := h_166
                          obtain ⟨x_169, e_169⟩ : ∃ y : Int32, y = y9_32 + 1 := ⟨_, rfl⟩
                          refine zv_iinc (j := 12) (v := x_169) (lv' := [(9, za_I x_169), (12, za_I 1), (11, za_I r_65), (10, za_I r_55), (0, za_O 19 93), (1, za_O 22 q), (2, za_I t), (3, za_I k), (4, za_I 0), (5, za_I v), (6, za_I fd), (7, za_I td), (8, za_I r_7)]) G dX10_turns_169 rfl (by rw [e_169]; rfl) (by decide) rfl ?_
                          first | have q_169 := z_inc9 (by omega) e_169 | skip
                          refine zv_goto (tgt := 32) G dX10_turns_172 (by decide) ?_
                          refine zv_sub [4, 5, 6, 7, 8, 9, 10, 11, 12, 0] (lv' := [(0, za_O 19 93), (1, za_O 22 q), (2, za_I t), (3, za_I k), (4, za_I 0), (5, za_I v), (6, za_I fd), (7, za_I td), (8, za_I r_7), (9, za_I x_169)]) rfl ?_
                          exact ih_32 x_169 σ (by first | exact wzts_y ht hk (by omega) z_155 q_169 h0 ⟨t_44.2, (wzch4 t_44.2 h_65 c_84)⟩ (wzlay_T (j := 4) (v := v) (a := fd.toInt) (d := y9_32.toInt) ⟨t_44.2, (hB _ (zix_lt ht hk t_44.1).1).2⟩ (Or.inr ⟨rfl, hv⟩) (va := r_55) (re := v) h_55 rfl w_110 rfl) e146 | exact wzts_z ht hk hB (by omega) z_155 q_169 h0 ⟨t_44.2, (wzch4 t_44.2 h_65 c_84)⟩ (wzlay_T (j := 4) (v := v) (a := fd.toInt) (d := y9_32.toInt) ⟨t_44.2, (hB _ (zix_lt ht hk t_44.1).1).2⟩ (Or.inr ⟨rfl, hv⟩) (va := r_55) (re := v) h_55 rfl w_110 rfl) e146 e166 | exact wzts_n (by omega) q_169 hz (fun z => f_44 ⟨by omega, z.1⟩) | exact wzts_n (by omega) q_169 hz (fun z => z.2 (wzcq4 t_44.2 h_65 c_84))) (by omega) (by have := z_inc c_36 e_169; omega) (z_meas c_36 e_169 hn_32)
                      · exact absurd c_134 (by decide)
                    · exact absurd c_122 (by decide)
            · exact absurd c_72 (by decide)
    refine zv_istore (lv' := [(9, za_I fd), (8, za_I r_7), (0, za_O 19 93), (1, za_O 22 q), (2, za_I t), (3, za_I k), (4, za_I 0), (5, za_I v), (6, za_I fd), (7, za_I td)]) G dX10_turns_30 (by decide) rfl ?_
    refine zv_sub [2, 3, 4, 5, 6, 7, 8, 9, 1, 0] (lv' := [(0, za_O 19 93), (1, za_O 22 q), (2, za_I t), (3, za_I k), (4, za_I 0), (5, za_I v), (6, za_I fd), (7, za_I td), (8, za_I r_7), (9, za_I fd)]) rfl ?_
    exact J_32 _ fd σ hz (by omega) (by first | assumption | omega) (Nat.lt_succ_self _)
  · refine zv_bipush (v := (-2)) G dX10_turns_17 (by decide) ?_
    exact zv_iret G hr dX10_turns_19 ⟨hz, Or.inl ⟨rfl, h_7.2.mp (by rw [c_14]; rfl)⟩⟩
set_option maxHeartbeats 4000000 in
set_option maxRecDepth 100000 in
theorem zc_X10_setsOne_atx (l : Launch) (E : za_E) (q : Nat) (t : Int32) (k : Int32) (v : Int32) (fd : Int32) (td : Int32) (σ0 : za_S) (hq : q ≠ 101 ∧ q ≠ 93) (ht : 0 ≤ t.toInt ∧ t.toInt ≤ 1) (hk : 0 ≤ k.toInt ∧ k.toInt ≤ 9) (hB : zGB (σ0.1 q)) (hv : 0 ≤ v.toInt ∧ v.toInt ≤ 99) (hp : (0 ≤ fd.toInt ∧ fd.toInt ≤ 99) ∧ fd.toInt < td.toInt ∧ td.toInt ≤ 100) : zMi l E yX10_setsOne cX10_setsOne 8 (Option.some Jvm.ClassFile.FieldType.int) 7 170 [za_O 19 93, za_O 22 q, za_I t, za_I k, za_I v, za_I fd, za_I td] σ0 (fun r σ' => wzfr9 q σ0 σ' ∧ wzFset t.toInt k.toInt 1 v.toInt fd.toInt td.toInt (σ0.1 q) (σ'.1 q)) := by
  refine zMi_of [(0, za_O 19 93), (1, za_O 22 q), (2, za_I t), (3, za_I k), (4, za_I v), (5, za_I fd), (6, za_I td)] (by decide) rfl rfl (Nat.le_of_ble_eq_true rfl) ?_
  intro ho p e s m args below meth c G hr
  have h_q : za_kd q = 22 := za_okO (by decide) (List.forall_mem_cons.mp (List.forall_mem_cons.mp ho).2).1
  refine zv_gen (R9 := (zfx 101 σ0)) (zfx_r 101 σ0) (fun σ hz => ?_)
  refine zv_iload_n (j := 2) G dX10_setsOne_0 rfl rfl ?_
  refine zv_callSi (as := [za_I t]) G (zc_X10_isTable l E t σ ) zk_X10_isTable zm_1313 rfl ⟨(Nat.le_of_ble_eq_true rfl), (Nat.le_of_ble_eq_true rfl)⟩ ⟨Nat.zero_le _, Nat.zero_le _⟩ (Nat.le_of_ble_eq_true rfl) dX10_setsOne_1 (fun r_1 σ h_1 => ?_)
  obtain ⟨h_1, rfl⟩ := h_1
  refine zv_if_eq (tgt := 37) G dX10_setsOne_4 (by decide) (fun c_4 => ?_) (fun c_4 => ?_)
  · exact ((h_1.2.mpr ht) c_4).elim
  · have t_1 := h_1.2.mp c_4
    refine zv_iload_n (j := 3) G dX10_setsOne_7 rfl rfl ?_
    refine zv_callSi (as := [za_I k]) G (zc_X10_isKey l E k σ ) zk_X10_isKey zm_1375 rfl ⟨(Nat.le_of_ble_eq_true rfl), (Nat.le_of_ble_eq_true rfl)⟩ ⟨Nat.zero_le _, Nat.zero_le _⟩ (Nat.le_of_ble_eq_true rfl) dX10_setsOne_8 (fun r_8 σ h_8 => ?_)
    obtain ⟨h_8, rfl⟩ := h_8
    refine zv_if_eq (tgt := 37) G dX10_setsOne_11 (by decide) (fun c_11 => ?_) (fun c_11 => ?_)
    · exact ((h_8.2.mpr hk) c_11).elim
    · have t_8 := h_8.2.mp c_11
      refine zv_iload (j := 4) G dX10_setsOne_14 rfl ?_
      refine zv_i2l G dX10_setsOne_16 ?_
      refine zv_lconst (v := 0) G dX10_setsOne_17 (by decide) ?_
      refine zv_ldc2 (v := 99) G dX10_setsOne_18 zm_1330 ?_
      refine zv_callSi (as := [za_L v.toInt64, za_L 0, za_L 99]) G (zc_X10_in l E v.toInt64 0 99 σ ) zk_X10_in zm_1184 rfl ⟨(Nat.le_of_ble_eq_true rfl), (Nat.le_of_ble_eq_true rfl)⟩ ⟨Nat.zero_le _, Nat.zero_le _⟩ (Nat.le_of_ble_eq_true rfl) dX10_setsOne_21 (fun r_21 σ h_21 => ?_)
      obtain ⟨h_21, rfl⟩ := h_21
      refine zv_if_eq (tgt := 37) G dX10_setsOne_24 (by decide) (fun c_24 => ?_) (fun c_24 => ?_)
      · exact ((h_21.2.mpr (by rw [z_w]; have hL := z_lL; omega)) c_24).elim
      · have t_21 := h_21.2.mp c_24
        refine zv_iload (j := 5) G dX10_setsOne_27 rfl ?_
        refine zv_iload (j := 6) G dX10_setsOne_29 rfl ?_
        refine zv_callSi (as := [za_I fd, za_I td]) G (zc_X10_isPeriod l E fd td σ ) zk_X10_isPeriod zm_1379 rfl ⟨(Nat.le_of_ble_eq_true rfl), (Nat.le_of_ble_eq_true rfl)⟩ ⟨Nat.zero_le _, Nat.zero_le _⟩ (Nat.le_of_ble_eq_true rfl) dX10_setsOne_31 (fun r_31 σ h_31 => ?_)
        obtain ⟨h_31, rfl⟩ := h_31
        refine zv_if_ne (tgt := 39) G dX10_setsOne_34 (by decide) (fun c_34 => ?_) (fun c_34 => ?_)
        · have t_31 := h_31.2.mp c_34
          refine zv_aload_n (j := 0) G dX10_setsOne_39 rfl rfl ?_
          refine zv_aload_n (j := 1) G dX10_setsOne_40 rfl rfl ?_
          refine zv_iload_n (j := 2) G dX10_setsOne_41 rfl rfl ?_
          refine zv_iload_n (j := 3) G dX10_setsOne_42 rfl rfl ?_
          refine zv_iconst (v := 1) G dX10_setsOne_43 (by decide) ?_
          refine zv_iload (j := 4) G dX10_setsOne_44 rfl ?_
          refine zv_iload (j := 5) G dX10_setsOne_46 rfl ?_
          refine zv_iload (j := 6) G dX10_setsOne_48 rfl ?_
          refine zv_callVi (as := [za_O 22 q, za_I t, za_I k, za_I 1, za_I v, za_I fd, za_I td]) G (by decide) rfl rfl (zc_X10_turns_at1 l E q t k v fd td σ hq ht hk (by rw [zfx_q hq hz]; exact hB) hv hp) zk_X10_turns zm_1411 rfl ⟨(Nat.le_of_ble_eq_true rfl), (Nat.le_of_ble_eq_true rfl)⟩ ⟨Nat.zero_le _, Nat.zero_le _⟩ (Nat.le_of_ble_eq_true rfl) dX10_setsOne_50 (fun r_50 σ h_50 => ?_)
          have h50 := h_50.2
          rw [zfx_q hq hz] at h50
          have hz := zfx_t hz h_50.1
          refine zv_istore (lv' := [(7, za_I r_50), (0, za_O 19 93), (1, za_O 22 q), (2, za_I t), (3, za_I k), (4, za_I v), (5, za_I fd), (6, za_I td)]) G dX10_setsOne_53 (by decide) rfl ?_
          refine zv_iload (j := 0) G dX10_setsOne_55 rfl ?_
          refine zv_if_ge (tgt := 65) G dX10_setsOne_57 (by decide) (fun c_57 => ?_) (fun c_57 => ?_)
          · have k_57 := z_cle c_57 (a := 0) (b := r_50.toInt) rfl rfl
            refine zv_aload_n (j := 1) G dX10_setsOne_65 rfl rfl ?_
            refine zv_aload_n (j := 2) G dX10_setsOne_66 rfl rfl ?_
            refine zv_iload (j := 0) G dX10_setsOne_67 rfl ?_
            refine zv_callVi (as := [za_O 22 q, za_I r_50]) G (by decide) rfl rfl (zc_X10_settles_atx l E q r_50 σ ) zk_X10_settles zm_1391 rfl ⟨(Nat.le_of_ble_eq_true rfl), (Nat.le_of_ble_eq_true rfl)⟩ ⟨Nat.zero_le _, Nat.zero_le _⟩ (Nat.le_of_ble_eq_true rfl) dX10_setsOne_69 (fun r_69 σ h_69 => ?_)
            have k69 := h50
            have hz := wzfr9_s hq rfl hz h_69
            exact zv_iret G hr dX10_setsOne_72 (by first | (rcases k69 with ⟨z1, -⟩ | ⟨z1, z2, z3⟩; (exfalso; rw [z1] at k_57; exact absurd k_57 (by decide)); exact ⟨hz.1, Or.inr ⟨z2, _, z3, hz.2⟩⟩) | (rcases h50 with ⟨z1, z2⟩ | ⟨z1, -⟩; exact ⟨(wzfr9_n hq hz).1, Or.inl ⟨z2, (wzfr9_n hq hz).2⟩⟩; (exfalso; omega)))
          · have k_57 := z_cnle c_57 (a := 0) (b := r_50.toInt) rfl rfl
            refine zv_iload (j := 0) G dX10_setsOne_60 rfl ?_
            refine zv_goto (tgt := 72) G dX10_setsOne_62 (by decide) ?_
            exact zv_iret G hr dX10_setsOne_72 (by first | (rcases k69 with ⟨z1, -⟩ | ⟨z1, z2, z3⟩; (exfalso; rw [z1] at k_57; exact absurd k_57 (by decide)); exact ⟨hz.1, Or.inr ⟨z2, _, z3, hz.2⟩⟩) | (rcases h50 with ⟨z1, z2⟩ | ⟨z1, -⟩; exact ⟨(wzfr9_n hq hz).1, Or.inl ⟨z2, (wzfr9_n hq hz).2⟩⟩; (exfalso; omega)))
        · exact ((h_31.2.mpr hp) c_34).elim
set_option maxHeartbeats 4000000 in
set_option maxRecDepth 100000 in
theorem zc_X10_refersOne_atx (l : Launch) (E : za_E) (q : Nat) (k : Int32) (v : Int32) (fd : Int32) (td : Int32) (σ0 : za_S) (hq : q ≠ 101 ∧ q ≠ 93) (hk : 0 ≤ k.toInt ∧ k.toInt ≤ 9) (hB : zGB (σ0.1 q)) (hv : 0 ≤ v.toInt ∧ v.toInt ≤ 10) (hp : (0 ≤ fd.toInt ∧ fd.toInt ≤ 99) ∧ fd.toInt < td.toInt ∧ td.toInt ≤ 100) : zMi l E yX10_refersOne cX10_refersOne 7 (Option.some Jvm.ClassFile.FieldType.int) 7 170 [za_O 19 93, za_O 22 q, za_I k, za_I v, za_I fd, za_I td] σ0 (fun r σ' => wzfr9 q σ0 σ' ∧ wzFref k.toInt v.toInt fd.toInt td.toInt (σ0.1 q) (σ'.1 q)) := by
  refine zMi_of [(0, za_O 19 93), (1, za_O 22 q), (2, za_I k), (3, za_I v), (4, za_I fd), (5, za_I td)] (by decide) rfl rfl (Nat.le_of_ble_eq_true rfl) ?_
  intro ho p e s m args below meth c G hr
  have h_q : za_kd q = 22 := za_okO (by decide) (List.forall_mem_cons.mp (List.forall_mem_cons.mp ho).2).1
  refine zv_gen (R9 := (zfx 101 σ0)) (zfx_r 101 σ0) (fun σ hz => ?_)
  refine zv_iload_n (j := 2) G dX10_refersOne_0 rfl rfl ?_
  refine zv_callSi (as := [za_I k]) G (zc_X10_isKey l E k σ ) zk_X10_isKey zm_1375 rfl ⟨(Nat.le_of_ble_eq_true rfl), (Nat.le_of_ble_eq_true rfl)⟩ ⟨Nat.zero_le _, Nat.zero_le _⟩ (Nat.le_of_ble_eq_true rfl) dX10_refersOne_1 (fun r_1 σ h_1 => ?_)
  obtain ⟨h_1, rfl⟩ := h_1
  refine zv_if_eq (tgt := 29) G dX10_refersOne_4 (by decide) (fun c_4 => ?_) (fun c_4 => ?_)
  · exact ((h_1.2.mpr hk) c_4).elim
  · have t_1 := h_1.2.mp c_4
    refine zv_iload_n (j := 3) G dX10_refersOne_7 rfl rfl ?_
    refine zv_i2l G dX10_refersOne_8 ?_
    refine zv_lconst (v := 0) G dX10_refersOne_9 (by decide) ?_
    refine zv_ldc2 (v := 10) G dX10_refersOne_10 zm_1434 ?_
    refine zv_callSi (as := [za_L v.toInt64, za_L 0, za_L 10]) G (zc_X10_in l E v.toInt64 0 10 σ ) zk_X10_in zm_1184 rfl ⟨(Nat.le_of_ble_eq_true rfl), (Nat.le_of_ble_eq_true rfl)⟩ ⟨Nat.zero_le _, Nat.zero_le _⟩ (Nat.le_of_ble_eq_true rfl) dX10_refersOne_13 (fun r_13 σ h_13 => ?_)
    obtain ⟨h_13, rfl⟩ := h_13
    refine zv_if_eq (tgt := 29) G dX10_refersOne_16 (by decide) (fun c_16 => ?_) (fun c_16 => ?_)
    · exact ((h_13.2.mpr (by rw [z_w]; have hL := z_lL; omega)) c_16).elim
    · have t_13 := h_13.2.mp c_16
      refine zv_iload (j := 4) G dX10_refersOne_19 rfl ?_
      refine zv_iload (j := 5) G dX10_refersOne_21 rfl ?_
      refine zv_callSi (as := [za_I fd, za_I td]) G (zc_X10_isPeriod l E fd td σ ) zk_X10_isPeriod zm_1379 rfl ⟨(Nat.le_of_ble_eq_true rfl), (Nat.le_of_ble_eq_true rfl)⟩ ⟨Nat.zero_le _, Nat.zero_le _⟩ (Nat.le_of_ble_eq_true rfl) dX10_refersOne_23 (fun r_23 σ h_23 => ?_)
      obtain ⟨h_23, rfl⟩ := h_23
      refine zv_if_ne (tgt := 31) G dX10_refersOne_26 (by decide) (fun c_26 => ?_) (fun c_26 => ?_)
      · have t_23 := h_23.2.mp c_26
        refine zv_aload_n (j := 0) G dX10_refersOne_31 rfl rfl ?_
        refine zv_aload_n (j := 1) G dX10_refersOne_32 rfl rfl ?_
        refine zv_iconst (v := 0) G dX10_refersOne_33 (by decide) ?_
        refine zv_iload_n (j := 2) G dX10_refersOne_34 rfl rfl ?_
        refine zv_iconst (v := 0) G dX10_refersOne_35 (by decide) ?_
        refine zv_iload_n (j := 3) G dX10_refersOne_36 rfl rfl ?_
        refine zv_iload (j := 4) G dX10_refersOne_37 rfl ?_
        refine zv_iload (j := 5) G dX10_refersOne_39 rfl ?_
        refine zv_callVi (as := [za_O 22 q, za_I 0, za_I k, za_I 0, za_I v, za_I fd, za_I td]) G (by decide) rfl rfl (zc_X10_turns_at0 l E q (0 : Int32) k v fd td σ hq (by decide) hk (by rw [zfx_q hq hz]; exact hB) hv hp) zk_X10_turns zm_1411 rfl ⟨(Nat.le_of_ble_eq_true rfl), (Nat.le_of_ble_eq_true rfl)⟩ ⟨Nat.zero_le _, Nat.zero_le _⟩ (Nat.le_of_ble_eq_true rfl) dX10_refersOne_41 (fun r_41 σ h_41 => ?_)
        have h41 := h_41.2
        rw [zfx_q hq hz] at h41
        have hz := zfx_t hz h_41.1
        refine zv_istore (lv' := [(6, za_I r_41), (0, za_O 19 93), (1, za_O 22 q), (2, za_I k), (3, za_I v), (4, za_I fd), (5, za_I td)]) G dX10_refersOne_44 (by decide) rfl ?_
        refine zv_iload (j := 0) G dX10_refersOne_46 rfl ?_
        refine zv_if_ge (tgt := 56) G dX10_refersOne_48 (by decide) (fun c_48 => ?_) (fun c_48 => ?_)
        · have k_48 := z_cle c_48 (a := 0) (b := r_41.toInt) rfl rfl
          refine zv_aload_n (j := 1) G dX10_refersOne_56 rfl rfl ?_
          refine zg_X10_124 G dX10_refersOne_57 ?_
          refine zv_callSi (as := [za_O 22 101]) G (zc_X10_isHeld_atx l E 101 σ ) zk_X10_isHeld zm_1435 rfl ⟨(Nat.le_of_ble_eq_true rfl), (Nat.le_of_ble_eq_true rfl)⟩ ⟨Nat.zero_le _, Nat.zero_le _⟩ (Nat.le_of_ble_eq_true rfl) dX10_refersOne_60 (fun r_60 σ h_60 => ?_)
          obtain ⟨h_60, rfl⟩ := h_60
          refine zv_if_eq (tgt := 76) G dX10_refersOne_63 (by decide) (fun c_63 => ?_) (fun c_63 => ?_)
          · have f_60 := fun q9 => (h_60.2.mpr q9) c_63
            refine zv_bipush (v := (-3)) G dX10_refersOne_76 (by decide) ?_
            exact zv_iret G hr dX10_refersOne_78 (by first | (rcases k70 with ⟨z1, -⟩ | ⟨z1, z2, z3⟩; (exfalso; rw [z1] at k_48; exact absurd k_48 (by decide)); exact ⟨hz.1, Or.inr ⟨z2, _, z3, Or.inr ⟨t_60, hz.2⟩⟩⟩) | (rcases h41 with ⟨z1, -⟩ | ⟨z1, z2, z3⟩; (exfalso; rw [z1] at k_48; exact absurd k_48 (by decide)); exact ⟨(wzfr9_n hq hz).1, Or.inr ⟨z2, _, z3, Or.inl ⟨f_60, (wzfr9_n hq hz).2⟩⟩⟩) | (rcases h41 with ⟨z1, z2⟩ | ⟨z1, -⟩; exact ⟨(wzfr9_n hq hz).1, Or.inl ⟨z2, (wzfr9_n hq hz).2⟩⟩; (exfalso; omega)))
          · have t_60 := h_60.2.mp c_63
            refine zv_aload_n (j := 1) G dX10_refersOne_66 rfl rfl ?_
            refine zv_aload_n (j := 2) G dX10_refersOne_67 rfl rfl ?_
            refine zv_iload (j := 0) G dX10_refersOne_68 rfl ?_
            refine zv_callVi (as := [za_O 22 q, za_I r_41]) G (by decide) rfl rfl (zc_X10_settles_atx l E q r_41 σ ) zk_X10_settles zm_1391 rfl ⟨(Nat.le_of_ble_eq_true rfl), (Nat.le_of_ble_eq_true rfl)⟩ ⟨Nat.zero_le _, Nat.zero_le _⟩ (Nat.le_of_ble_eq_true rfl) dX10_refersOne_70 (fun r_70 σ h_70 => ?_)
            have k70 := h41
            have hz := wzfr9_s hq rfl hz h_70
            refine zv_goto (tgt := 78) G dX10_refersOne_73 (by decide) ?_
            exact zv_iret G hr dX10_refersOne_78 (by first | (rcases k70 with ⟨z1, -⟩ | ⟨z1, z2, z3⟩; (exfalso; rw [z1] at k_48; exact absurd k_48 (by decide)); exact ⟨hz.1, Or.inr ⟨z2, _, z3, Or.inr ⟨t_60, hz.2⟩⟩⟩) | (rcases h41 with ⟨z1, -⟩ | ⟨z1, z2, z3⟩; (exfalso; rw [z1] at k_48; exact absurd k_48 (by decide)); exact ⟨(wzfr9_n hq hz).1, Or.inr ⟨z2, _, z3, Or.inl ⟨f_60, (wzfr9_n hq hz).2⟩⟩⟩) | (rcases h41 with ⟨z1, z2⟩ | ⟨z1, -⟩; exact ⟨(wzfr9_n hq hz).1, Or.inl ⟨z2, (wzfr9_n hq hz).2⟩⟩; (exfalso; omega)))
        · have k_48 := z_cnle c_48 (a := 0) (b := r_41.toInt) rfl rfl
          refine zv_iload (j := 0) G dX10_refersOne_51 rfl ?_
          refine zv_goto (tgt := 78) G dX10_refersOne_53 (by decide) ?_
          exact zv_iret G hr dX10_refersOne_78 (by first | (rcases k70 with ⟨z1, -⟩ | ⟨z1, z2, z3⟩; (exfalso; rw [z1] at k_48; exact absurd k_48 (by decide)); exact ⟨hz.1, Or.inr ⟨z2, _, z3, Or.inr ⟨t_60, hz.2⟩⟩⟩) | (rcases h41 with ⟨z1, -⟩ | ⟨z1, z2, z3⟩; (exfalso; rw [z1] at k_48; exact absurd k_48 (by decide)); exact ⟨(wzfr9_n hq hz).1, Or.inr ⟨z2, _, z3, Or.inl ⟨f_60, (wzfr9_n hq hz).2⟩⟩⟩) | (rcases h41 with ⟨z1, z2⟩ | ⟨z1, -⟩; exact ⟨(wzfr9_n hq hz).1, Or.inl ⟨z2, (wzfr9_n hq hz).2⟩⟩; (exfalso; omega)))
      · exact ((h_23.2.mpr hp) c_26).elim
set_option maxHeartbeats 4000000 in
set_option maxRecDepth 100000 in
theorem zc_X10_takesOut_atx (l : Launch) (E : za_E) (q : Nat) (t : Int32) (k : Int32) (fd : Int32) (td : Int32) (σ0 : za_S) (hq : q ≠ 93) (ht : 0 ≤ t.toInt ∧ t.toInt ≤ 1) (hk : 0 ≤ k.toInt ∧ k.toInt ≤ 9) (hB : zGB (σ0.1 q)) (hp : (0 ≤ fd.toInt ∧ fd.toInt ≤ 99) ∧ fd.toInt < td.toInt ∧ td.toInt ≤ 100) : zMv l E yX10_takesOut cX10_takesOut 7 (Option.none : Option Jvm.ClassFile.FieldType) 5 112 [za_O 19 93, za_O 22 q, za_I t, za_I k, za_I fd, za_I td] σ0 (fun σ' => zfx q σ0 σ' ∧ wzFcu (σ0.1 q) (σ'.1 q) t.toInt k.toInt fd.toInt td.toInt) := by
  refine zMv_of [(0, za_O 19 93), (1, za_O 22 q), (2, za_I t), (3, za_I k), (4, za_I fd), (5, za_I td)] (by decide) rfl rfl (Nat.le_of_ble_eq_true rfl) ?_
  intro ho p e s m args below meth c G hr
  have h_q : za_kd q = 22 := za_okO (by decide) (List.forall_mem_cons.mp (List.forall_mem_cons.mp ho).2).1
  refine zv_gen (R9 := (zt1 q σ0)) (zt1_0 q σ0) (fun σ hz => ?_)
  refine zv_aload_n (j := 0) G dX10_takesOut_0 rfl rfl ?_
  refine zv_iconst (v := 0) G dX10_takesOut_1 (by decide) ?_
  refine zp_X10_265 G dX10_takesOut_2 ?_
  refine zv_gen (R9 := (zt1 q σ0)) (zt1_w hq hz) (fun σ hz => ?_)
  refine zv_iload (j := 4) G dX10_takesOut_5 rfl ?_
  have J_9 : ∀ (n : Nat) (y6_9 : Int32) (σ : za_S) (hz : (zt1 q σ0) σ) (g_9 : fd.toInt ≤ y6_9.toInt) (i6_9 : 0 ≤ y6_9.toInt) (hn_9 : (2147483648 - y6_9.toInt).toNat < n), zV p l e (zRm 5 112) s m args below meth c E (za_A E) 7 0 0 (MQ below (va_Qv (fun σ' => zfx q σ0 σ' ∧ wzFcu (σ0.1 q) (σ'.1 q) t.toInt k.toInt fd.toInt td.toInt) (zB E) (za_A E)) args s 0 0 (za_A E)) 9 [(0, za_O 19 93), (1, za_O 22 q), (2, za_I t), (3, za_I k), (4, za_I fd), (5, za_I td), (6, za_I y6_9)] [] σ := by
    intro n
    induction n with
    | zero => intro y6_9 σ hz g_9 i6_9 hn; exact absurd hn (Nat.not_lt_zero _)
    | succ n ih_9 =>
      intro y6_9 σ hz g_9 i6_9 hn_9
      refine zv_iload (j := 6) G dX10_takesOut_9 rfl ?_
      refine zv_iload (j := 5) G dX10_takesOut_11 rfl ?_
      refine zv_icmp_ge (tgt := 42) G dX10_takesOut_13 (by decide) (fun c_13 => ?_) (fun c_13 => ?_)
      · have k_13 := z_cle c_13 (a := td.toInt) (b := y6_9.toInt) rfl rfl
        refine zv_aload_n (j := 1) G dX10_takesOut_42 rfl rfl ?_
        refine zv_iload_n (j := 2) G dX10_takesOut_43 rfl rfl ?_
        refine zv_iload_n (j := 3) G dX10_takesOut_44 rfl rfl ?_
        refine zv_iload (j := 5) G dX10_takesOut_45 rfl ?_
        refine zv_iconst (v := 1) G dX10_takesOut_47 (by decide) ?_
        refine zv_isub G dX10_takesOut_48 ?_
        refine zv_callSi (as := [za_O 22 q, za_I t, za_I k, za_I (td - 1)]) G (zc_X10_isThere l E q t k (td - 1) σ ht hk) zk_X10_isThere zm_1324 rfl ⟨(Nat.le_of_ble_eq_true rfl), (Nat.le_of_ble_eq_true rfl)⟩ ⟨Nat.zero_le _, Nat.zero_le _⟩ (Nat.le_of_ble_eq_true rfl) dX10_takesOut_49 (fun r_49 σ h_49 => ?_)
        obtain ⟨h_49, rfl⟩ := h_49
        refine zv_if_eq (tgt := 63) G dX10_takesOut_52 (by decide) (fun c_52 => ?_) (fun c_52 => ?_)
        · have f_49 := fun q9 => (h_49.2.mpr q9) c_52
          have hz : wzcx q t k fd td fd σ0 σ := wzcx_a hp hz f_49
          refine zv_iload (j := 4) G dX10_takesOut_63 rfl ?_
          have J_67 : ∀ (n : Nat) (y6_67 : Int32) (σ : za_S) (hz : wzcx q t k fd td y6_67 σ0 σ) (g_67 : fd.toInt ≤ y6_67.toInt ∧ y6_67.toInt ≤ td.toInt) (i6_67 : 0 ≤ y6_67.toInt) (hn_67 : (2147483648 - y6_67.toInt).toNat < n), zV p l e (zRm 5 112) s m args below meth c E (za_A E) 7 0 0 (MQ below (va_Qv (fun σ' => zfx q σ0 σ' ∧ wzFcu (σ0.1 q) (σ'.1 q) t.toInt k.toInt fd.toInt td.toInt) (zB E) (za_A E)) args s 0 0 (za_A E)) 67 [(1, za_O 22 q), (2, za_I t), (3, za_I k), (5, za_I td), (6, za_I y6_67)] [] σ := by
            intro n
            induction n with
            | zero => intro y6_67 σ hz g_67 i6_67 hn; exact absurd hn (Nat.not_lt_zero _)
            | succ n ih_67 =>
              intro y6_67 σ hz g_67 i6_67 hn_67
              refine zv_iload (j := 4) G dX10_takesOut_67 rfl ?_
              refine zv_iload (j := 3) G dX10_takesOut_69 rfl ?_
              refine zv_icmp_ge (tgt := 90) G dX10_takesOut_71 (by decide) (fun c_71 => ?_) (fun c_71 => ?_)
              · have k_71 := z_cle c_71 (a := td.toInt) (b := y6_67.toInt) rfl rfl
                exact zv_vret G hr dX10_takesOut_90 (wzcx_f hz (by omega))
              · have k_71 := z_cnle c_71 (a := td.toInt) (b := y6_67.toInt) rfl rfl
                refine zv_aload_n (j := 0) G dX10_takesOut_74 rfl rfl ?_
                refine zv_iload_n (j := 1) G dX10_takesOut_75 rfl rfl ?_
                refine zv_iload_n (j := 2) G dX10_takesOut_76 rfl rfl ?_
                refine zv_iload (j := 4) G dX10_takesOut_77 rfl ?_
                refine zv_callSi (as := [za_I t, za_I k, za_I y6_67]) G (zc_X10_on l E t k y6_67 σ ) zk_X10_on zm_1331 rfl ⟨(Nat.le_of_ble_eq_true rfl), (Nat.le_of_ble_eq_true rfl)⟩ ⟨Nat.zero_le _, Nat.zero_le _⟩ (Nat.le_of_ble_eq_true rfl) dX10_takesOut_79 (fun r_79 σ h_79 => ?_)
                obtain ⟨h_79, rfl⟩ := h_79
                refine zv_iconst (v := 0) G dX10_takesOut_82 (by decide) ?_
                refine zv_iast G (by decide) rfl (fun _ => rfl) (z_onI ht hk (by omega) h_79).1 dX10_takesOut_83 ?_
                refine zv_gen (R9 := (fun σ => zfx q σ0 σ ∧ wzCi (σ0.1 q) (σ.1 q) t.toInt k.toInt fd.toInt td.toInt (y6_67.toInt + 1))) (wzcx_s hq ht hk (by omega) hz (z_onI ht hk (by omega) h_79).2) (fun σ hz => ?_)
                obtain ⟨x_84, e_84⟩ : ∃ y : Int32, y = y6_67 + 1 := ⟨_, rfl⟩
                refine zv_iinc (j := 4) (v := x_84) (lv' := [(6, za_I x_84), (1, za_O 22 q), (2, za_I t), (3, za_I k), (5, za_I td)]) G dX10_takesOut_84 rfl (by rw [e_84]; rfl) (by decide) rfl ?_
                first | have q_84 := z_inc9 (by omega) e_84 | skip
                refine zv_goto (tgt := 67) G dX10_takesOut_87 (by decide) ?_
                refine zv_sub [1, 2, 3, 4, 0] (lv' := [(1, za_O 22 q), (2, za_I t), (3, za_I k), (5, za_I td), (6, za_I x_84)]) rfl ?_
                exact ih_67 x_84 σ (wzcx_n hz q_84) (by omega) (by have := z_inc c_71 e_84; omega) (z_meas c_71 e_84 hn_67)
          refine zv_istore (lv' := [(6, za_I fd), (0, za_O 19 93), (1, za_O 22 q), (2, za_I t), (3, za_I k), (4, za_I fd), (5, za_I td)]) G dX10_takesOut_65 (by decide) rfl ?_
          refine zv_sub [2, 3, 4, 6, 0] (lv' := [(1, za_O 22 q), (2, za_I t), (3, za_I k), (5, za_I td), (6, za_I fd)]) rfl ?_
          exact J_67 _ fd σ hz (by omega) (by first | assumption | omega) (Nat.lt_succ_self _)
        · have t_49 := h_49.2.mp c_52
          refine zv_aload_n (j := 1) G dX10_takesOut_55 rfl rfl ?_
          refine zv_iload_n (j := 2) G dX10_takesOut_56 rfl rfl ?_
          refine zv_iload_n (j := 3) G dX10_takesOut_57 rfl rfl ?_
          refine zv_iload (j := 5) G dX10_takesOut_58 rfl ?_
          refine zv_callSv (as := [za_O 22 q, za_I t, za_I k, za_I td]) G (zc_X10_splits l E q t k td σ ht hk) zk_X10_splits zm_1415 rfl ⟨(Nat.le_of_ble_eq_true rfl), (Nat.le_of_ble_eq_true rfl)⟩ ⟨Nat.zero_le _, Nat.zero_le _⟩ (Nat.le_of_ble_eq_true rfl) dX10_takesOut_60 (fun σ h_60 => ?_)
          have hz : wzcx q t k fd td fd σ0 σ := wzcx_b hq ht hk hp hB hz t_49 h_60
          refine zv_iload (j := 4) G dX10_takesOut_63 rfl ?_
          have J_67 : ∀ (n : Nat) (y6_67 : Int32) (σ : za_S) (hz : wzcx q t k fd td y6_67 σ0 σ) (g_67 : fd.toInt ≤ y6_67.toInt ∧ y6_67.toInt ≤ td.toInt) (i6_67 : 0 ≤ y6_67.toInt) (hn_67 : (2147483648 - y6_67.toInt).toNat < n), zV p l e (zRm 5 112) s m args below meth c E (za_A E) 7 0 0 (MQ below (va_Qv (fun σ' => zfx q σ0 σ' ∧ wzFcu (σ0.1 q) (σ'.1 q) t.toInt k.toInt fd.toInt td.toInt) (zB E) (za_A E)) args s 0 0 (za_A E)) 67 [(1, za_O 22 q), (2, za_I t), (3, za_I k), (5, za_I td), (6, za_I y6_67)] [] σ := by
            intro n
            induction n with
            | zero => intro y6_67 σ hz g_67 i6_67 hn; exact absurd hn (Nat.not_lt_zero _)
            | succ n ih_67 =>
              intro y6_67 σ hz g_67 i6_67 hn_67
              refine zv_iload (j := 4) G dX10_takesOut_67 rfl ?_
              refine zv_iload (j := 3) G dX10_takesOut_69 rfl ?_
              refine zv_icmp_ge (tgt := 90) G dX10_takesOut_71 (by decide) (fun c_71 => ?_) (fun c_71 => ?_)
              · have k_71 := z_cle c_71 (a := td.toInt) (b := y6_67.toInt) rfl rfl
                exact zv_vret G hr dX10_takesOut_90 (wzcx_f hz (by omega))
              · have k_71 := z_cnle c_71 (a := td.toInt) (b := y6_67.toInt) rfl rfl
                refine zv_aload_n (j := 0) G dX10_takesOut_74 rfl rfl ?_
                refine zv_iload_n (j := 1) G dX10_takesOut_75 rfl rfl ?_
                refine zv_iload_n (j := 2) G dX10_takesOut_76 rfl rfl ?_
                refine zv_iload (j := 4) G dX10_takesOut_77 rfl ?_
                refine zv_callSi (as := [za_I t, za_I k, za_I y6_67]) G (zc_X10_on l E t k y6_67 σ ) zk_X10_on zm_1331 rfl ⟨(Nat.le_of_ble_eq_true rfl), (Nat.le_of_ble_eq_true rfl)⟩ ⟨Nat.zero_le _, Nat.zero_le _⟩ (Nat.le_of_ble_eq_true rfl) dX10_takesOut_79 (fun r_79 σ h_79 => ?_)
                obtain ⟨h_79, rfl⟩ := h_79
                refine zv_iconst (v := 0) G dX10_takesOut_82 (by decide) ?_
                refine zv_iast G (by decide) rfl (fun _ => rfl) (z_onI ht hk (by omega) h_79).1 dX10_takesOut_83 ?_
                refine zv_gen (R9 := (fun σ => zfx q σ0 σ ∧ wzCi (σ0.1 q) (σ.1 q) t.toInt k.toInt fd.toInt td.toInt (y6_67.toInt + 1))) (wzcx_s hq ht hk (by omega) hz (z_onI ht hk (by omega) h_79).2) (fun σ hz => ?_)
                obtain ⟨x_84, e_84⟩ : ∃ y : Int32, y = y6_67 + 1 := ⟨_, rfl⟩
                refine zv_iinc (j := 4) (v := x_84) (lv' := [(6, za_I x_84), (1, za_O 22 q), (2, za_I t), (3, za_I k), (5, za_I td)]) G dX10_takesOut_84 rfl (by rw [e_84]; rfl) (by decide) rfl ?_
                first | have q_84 := z_inc9 (by omega) e_84 | skip
                refine zv_goto (tgt := 67) G dX10_takesOut_87 (by decide) ?_
                refine zv_sub [1, 2, 3, 4, 0] (lv' := [(1, za_O 22 q), (2, za_I t), (3, za_I k), (5, za_I td), (6, za_I x_84)]) rfl ?_
                exact ih_67 x_84 σ (wzcx_n hz q_84) (by omega) (by have := z_inc c_71 e_84; omega) (z_meas c_71 e_84 hn_67)
          refine zv_istore (lv' := [(6, za_I fd), (0, za_O 19 93), (1, za_O 22 q), (2, za_I t), (3, za_I k), (4, za_I fd), (5, za_I td)]) G dX10_takesOut_65 (by decide) rfl ?_
          refine zv_sub [2, 3, 4, 6, 0] (lv' := [(1, za_O 22 q), (2, za_I t), (3, za_I k), (5, za_I td), (6, za_I fd)]) rfl ?_
          exact J_67 _ fd σ hz (by omega) (by first | assumption | omega) (Nat.lt_succ_self _)
      · have k_13 := z_cnle c_13 (a := td.toInt) (b := y6_9.toInt) rfl rfl
        refine zv_aload_n (j := 0) G dX10_takesOut_16 rfl rfl ?_
        refine zv_dupO G dX10_takesOut_17 ?_
        refine zg_X10_265 G dX10_takesOut_18 ?_
        refine zv_aload_n (j := 1) G dX10_takesOut_21 rfl rfl ?_
        refine zv_iload_n (j := 2) G dX10_takesOut_22 rfl rfl ?_
        refine zv_iload_n (j := 3) G dX10_takesOut_23 rfl rfl ?_
        refine zv_iload (j := 6) G dX10_takesOut_24 rfl ?_
        refine zv_callSi (as := [za_O 22 q, za_I t, za_I k, za_I y6_9]) G (zc_X10_isThere l E q t k y6_9 σ ht hk) zk_X10_isThere zm_1324 rfl ⟨(Nat.le_of_ble_eq_true rfl), (Nat.le_of_ble_eq_true rfl)⟩ ⟨Nat.zero_le _, Nat.zero_le _⟩ (Nat.le_of_ble_eq_true rfl) dX10_takesOut_26 (fun r_26 σ h_26 => ?_)
        obtain ⟨h_26, rfl⟩ := h_26
        refine zv_callSi (as := [za_I r_26]) G (zc_X10_flag l E r_26 σ ) zk_X10_flag zm_1355 rfl ⟨(Nat.le_of_ble_eq_true rfl), (Nat.le_of_ble_eq_true rfl)⟩ ⟨Nat.zero_le _, Nat.zero_le _⟩ (Nat.le_of_ble_eq_true rfl) dX10_takesOut_29 (fun r_29 σ h_29 => ?_)
        obtain ⟨h_29, rfl⟩ := h_29
        have g_29 := z_flagT h_29.2 (a := r_26.toInt) rfl
        refine zv_iadd G dX10_takesOut_32 ?_
        refine zp_X10_265 G dX10_takesOut_33 ?_
        refine zv_gen (R9 := (zt1 q σ0)) (zt1_w hq hz) (fun σ hz => ?_)
        obtain ⟨x_36, e_36⟩ : ∃ y : Int32, y = y6_9 + 1 := ⟨_, rfl⟩
        refine zv_iinc (j := 6) (v := x_36) (lv' := [(6, za_I x_36), (0, za_O 19 93), (1, za_O 22 q), (2, za_I t), (3, za_I k), (4, za_I fd), (5, za_I td)]) G dX10_takesOut_36 rfl (by rw [e_36]; rfl) (by decide) rfl ?_
        first | have q_36 := z_inc9 (by omega) e_36 | skip
        refine zv_goto (tgt := 9) G dX10_takesOut_39 (by decide) ?_
        refine zv_sub [1, 2, 3, 4, 5, 6, 0] (lv' := [(0, za_O 19 93), (1, za_O 22 q), (2, za_I t), (3, za_I k), (4, za_I fd), (5, za_I td), (6, za_I x_36)]) rfl ?_
        exact ih_9 x_36 σ hz (by omega) (by have := z_inc c_13 e_36; omega) (z_meas c_13 e_36 hn_9)
  refine zv_istore (lv' := [(6, za_I fd), (0, za_O 19 93), (1, za_O 22 q), (2, za_I t), (3, za_I k), (4, za_I fd), (5, za_I td)]) G dX10_takesOut_7 (by decide) rfl ?_
  refine zv_sub [1, 2, 3, 4, 5, 6, 0] (lv' := [(0, za_O 19 93), (1, za_O 22 q), (2, za_I t), (3, za_I k), (4, za_I fd), (5, za_I td), (6, za_I fd)]) rfl ?_
  exact J_9 _ fd σ hz (by omega) (by first | assumption | omega) (Nat.lt_succ_self _)
set_option maxHeartbeats 4000000 in
set_option maxRecDepth 100000 in
theorem zc_X10_cutsOne_atx (l : Launch) (E : za_E) (q : Nat) (t : Int32) (k : Int32) (fd : Int32) (td : Int32) (σ0 : za_S) (hq : q ≠ 101 ∧ q ≠ 93) (ht : 0 ≤ t.toInt ∧ t.toInt ≤ 1) (hk : 0 ≤ k.toInt ∧ k.toInt ≤ 9) (hB : zGB (σ0.1 q)) (hp : (0 ≤ fd.toInt ∧ fd.toInt ≤ 99) ∧ fd.toInt < td.toInt ∧ td.toInt ≤ 100) (hw : σ0.1 q 2000 = 0) : zMi l E yX10_cutsOne cX10_cutsOne 7 (Option.some Jvm.ClassFile.FieldType.int) 7 158 [za_O 19 93, za_O 22 q, za_I t, za_I k, za_I fd, za_I td] σ0 (fun r σ' => wzfr9 q σ0 σ' ∧ wzFcut t.toInt k.toInt fd.toInt td.toInt (σ0.1 q) (σ'.1 q)) := by
  refine zMi_of [(0, za_O 19 93), (1, za_O 22 q), (2, za_I t), (3, za_I k), (4, za_I fd), (5, za_I td)] (by decide) rfl rfl (Nat.le_of_ble_eq_true rfl) ?_
  intro ho p e s m args below meth c G hr
  have h_q : za_kd q = 22 := za_okO (by decide) (List.forall_mem_cons.mp (List.forall_mem_cons.mp ho).2).1
  refine zv_gen (R9 := (zfx 101 σ0)) (zfx_r 101 σ0) (fun σ hz => ?_)
  refine zv_iload_n (j := 2) G dX10_cutsOne_0 rfl rfl ?_
  refine zv_callSi (as := [za_I t]) G (zc_X10_isTable l E t σ ) zk_X10_isTable zm_1313 rfl ⟨(Nat.le_of_ble_eq_true rfl), (Nat.le_of_ble_eq_true rfl)⟩ ⟨Nat.zero_le _, Nat.zero_le _⟩ (Nat.le_of_ble_eq_true rfl) dX10_cutsOne_1 (fun r_1 σ h_1 => ?_)
  obtain ⟨h_1, rfl⟩ := h_1
  refine zv_if_eq (tgt := 24) G dX10_cutsOne_4 (by decide) (fun c_4 => ?_) (fun c_4 => ?_)
  · exact ((h_1.2.mpr ht) c_4).elim
  · have t_1 := h_1.2.mp c_4
    refine zv_iload_n (j := 3) G dX10_cutsOne_7 rfl rfl ?_
    refine zv_callSi (as := [za_I k]) G (zc_X10_isKey l E k σ ) zk_X10_isKey zm_1375 rfl ⟨(Nat.le_of_ble_eq_true rfl), (Nat.le_of_ble_eq_true rfl)⟩ ⟨Nat.zero_le _, Nat.zero_le _⟩ (Nat.le_of_ble_eq_true rfl) dX10_cutsOne_8 (fun r_8 σ h_8 => ?_)
    obtain ⟨h_8, rfl⟩ := h_8
    refine zv_if_eq (tgt := 24) G dX10_cutsOne_11 (by decide) (fun c_11 => ?_) (fun c_11 => ?_)
    · exact ((h_8.2.mpr hk) c_11).elim
    · have t_8 := h_8.2.mp c_11
      refine zv_iload (j := 4) G dX10_cutsOne_14 rfl ?_
      refine zv_iload (j := 5) G dX10_cutsOne_16 rfl ?_
      refine zv_callSi (as := [za_I fd, za_I td]) G (zc_X10_isPeriod l E fd td σ ) zk_X10_isPeriod zm_1379 rfl ⟨(Nat.le_of_ble_eq_true rfl), (Nat.le_of_ble_eq_true rfl)⟩ ⟨Nat.zero_le _, Nat.zero_le _⟩ (Nat.le_of_ble_eq_true rfl) dX10_cutsOne_18 (fun r_18 σ h_18 => ?_)
      obtain ⟨h_18, rfl⟩ := h_18
      refine zv_if_ne (tgt := 26) G dX10_cutsOne_21 (by decide) (fun c_21 => ?_) (fun c_21 => ?_)
      · have t_18 := h_18.2.mp c_21
        refine zv_aload_n (j := 1) G dX10_cutsOne_26 rfl rfl ?_
        refine zv_iload_n (j := 2) G dX10_cutsOne_27 rfl rfl ?_
        refine zv_iload_n (j := 3) G dX10_cutsOne_28 rfl rfl ?_
        refine zv_iload (j := 4) G dX10_cutsOne_29 rfl ?_
        refine zv_iload (j := 5) G dX10_cutsOne_31 rfl ?_
        refine zv_callSi (as := [za_O 22 q, za_I t, za_I k, za_I fd, za_I td]) G (zc_X10_rowsIn_atx l E q t k fd td σ ht hk hp) zk_X10_rowsIn zm_1382 rfl ⟨(Nat.le_of_ble_eq_true rfl), (Nat.le_of_ble_eq_true rfl)⟩ ⟨Nat.zero_le _, Nat.zero_le _⟩ (Nat.le_of_ble_eq_true rfl) dX10_cutsOne_33 (fun r_33 σ h_33 => ?_)
        obtain ⟨h_33, rfl⟩ := h_33
        rw [zfx_q hq hz] at h_33
        refine zv_istore (lv' := [(6, za_I r_33), (0, za_O 19 93), (1, za_O 22 q), (2, za_I t), (3, za_I k), (4, za_I fd), (5, za_I td)]) G dX10_cutsOne_36 (by decide) rfl ?_
        refine zv_iload (j := 0) G dX10_cutsOne_38 rfl ?_
        refine zv_if_ne (tgt := 46) G dX10_cutsOne_40 (by decide) (fun c_40 => ?_) (fun c_40 => ?_)
        · refine zv_aload_n (j := 2) G dX10_cutsOne_46 rfl rfl ?_
          refine zv_aload_n (j := 1) G dX10_cutsOne_47 rfl rfl ?_
          refine zg_X10_124 G dX10_cutsOne_48 ?_
          refine zv_callSv (as := [za_O 22 q, za_O 22 101]) G (zc_X10_copiesTo l E q 101 σ ) zk_X10_copiesTo zm_1385 rfl ⟨(Nat.le_of_ble_eq_true rfl), (Nat.le_of_ble_eq_true rfl)⟩ ⟨Nat.zero_le _, Nat.zero_le _⟩ (Nat.le_of_ble_eq_true rfl) dX10_cutsOne_51 (fun σ h_51 => ?_)
          have h0 := hz
          have h51 := h_51
          have hz := zfx_cp hz h_51
          refine zv_aload_n (j := 1) G dX10_cutsOne_54 rfl rfl ?_
          refine zv_aload_n (j := 1) G dX10_cutsOne_55 rfl rfl ?_
          refine zg_X10_124 G dX10_cutsOne_56 ?_
          refine zv_iload_n (j := 3) G dX10_cutsOne_59 rfl rfl ?_
          refine zv_iload_n (j := 4) G dX10_cutsOne_60 rfl rfl ?_
          refine zv_iload (j := 5) G dX10_cutsOne_61 rfl ?_
          refine zv_iload (j := 6) G dX10_cutsOne_63 rfl ?_
          refine zv_callVv (as := [za_O 22 101, za_I t, za_I k, za_I fd, za_I td]) G (by decide) rfl rfl (zc_X10_takesOut_atx l E 101 t k fd td σ (by decide) ht hk (fun i hi => by rw [h51, zcp_w (by omega), zfx_q hq h0]; exact hB i hi) hp) zk_X10_takesOut zm_1446 rfl ⟨(Nat.le_of_ble_eq_true rfl), (Nat.le_of_ble_eq_true rfl)⟩ ⟨Nat.zero_le _, Nat.zero_le _⟩ (Nat.le_of_ble_eq_true rfl) dX10_cutsOne_65 (fun σ h_65 => ?_)
          have hz := zfx_t hz h_65.1
          have hc9 := wzcu_q ht hk (by omega) hq h0 h51 h_65.2
          refine zv_aload_n (j := 1) G dX10_cutsOne_68 rfl rfl ?_
          refine zv_iconst (v := 0) G dX10_cutsOne_69 (by decide) ?_
          refine zp_X10_262 G dX10_cutsOne_70 ?_
          refine zv_gen (R9 := (fun σ => zfx 101 σ0 σ ∧ wzFcu (σ0.1 q) (σ.1 101) t.toInt k.toInt fd.toInt td.toInt)) ⟨zfx_93 (Or.inr rfl) hz, by rw [(za_si_off 101 (by decide)).1]; exact hc9⟩ (fun σ hz => ?_)
          have hc9 := hz.2
          have hz := hz.1
          have hw9 : σ.1 101 2000 = 0 := by rw [wzcu_w ht hk hc9]; exact hw
          refine zv_aload_n (j := 1) G dX10_cutsOne_73 rfl rfl ?_
          refine zg_X10_124 G dX10_cutsOne_74 ?_
          refine zv_callSi (as := [za_O 22 101]) G (zc_X10_isHeld_atx l E 101 σ ) zk_X10_isHeld zm_1435 rfl ⟨(Nat.le_of_ble_eq_true rfl), (Nat.le_of_ble_eq_true rfl)⟩ ⟨Nat.zero_le _, Nat.zero_le _⟩ (Nat.le_of_ble_eq_true rfl) dX10_cutsOne_77 (fun r_77 σ h_77 => ?_)
          obtain ⟨h_77, rfl⟩ := h_77
          refine zv_if_ne (tgt := 105) G dX10_cutsOne_80 (by decide) (fun c_80 => ?_) (fun c_80 => ?_)
          · have t_77 := h_77.2.mp c_80
            refine zv_aload_n (j := 1) G dX10_cutsOne_105 rfl rfl ?_
            refine zv_aload_n (j := 2) G dX10_cutsOne_106 rfl rfl ?_
            refine zv_iload (j := 0) G dX10_cutsOne_107 rfl ?_
            refine zv_callVi (as := [za_O 22 q, za_I r_33]) G (by decide) rfl rfl (zc_X10_settles_atx l E q r_33 σ ) zk_X10_settles zm_1391 rfl ⟨(Nat.le_of_ble_eq_true rfl), (Nat.le_of_ble_eq_true rfl)⟩ ⟨Nat.zero_le _, Nat.zero_le _⟩ (Nat.le_of_ble_eq_true rfl) dX10_cutsOne_109 (fun r_109 σ h_109 => ?_)
            have hz := wzfr9_s hq rfl hz h_109
            exact zv_iret G hr dX10_cutsOne_112 ⟨hz.1, Or.inr ⟨fun z => c_40 (Int32.toInt_inj.mp (h_33.2.mpr z)), _, hc9, Or.inr ⟨t_77, hz.2⟩⟩⟩
          · have f_77 := fun q9 => (h_77.2.mpr q9) c_80
            refine zv_aload_n (j := 1) G dX10_cutsOne_83 rfl rfl ?_
            refine zg_X10_124 G dX10_cutsOne_84 ?_
            refine zv_sipush (v := 2000) G dX10_cutsOne_87 (by decide) ?_
            refine zv_iald G (by decide) rfl (z_in (by decide) (by decide)) dX10_cutsOne_90 ?_
            refine zv_if_ne (tgt := 97) G dX10_cutsOne_91 (by decide) (fun c_91 => ?_) (fun c_91 => ?_)
            · exact absurd hw9 c_91
            · have k_91 := z_ceq c_91 (a := (σ.1 101 (2000 : Int32).toNatClampNeg).toInt) (b := 0) rfl rfl
              refine zv_bipush (v := (-3)) G dX10_cutsOne_94 (by decide) ?_
              exact zv_iret G hr dX10_cutsOne_96 ⟨(wzfr9_n hq hz).1, Or.inr ⟨fun z => c_40 (Int32.toInt_inj.mp (h_33.2.mpr z)), _, hc9, Or.inl ⟨f_77, (wzfr9_n hq hz).2⟩⟩⟩
        · refine zv_bipush (v := (-2)) G dX10_cutsOne_43 (by decide) ?_
          exact zv_iret G hr dX10_cutsOne_45 ⟨(wzfr9_n hq hz).1, Or.inl ⟨h_33.2.mp (by rw [c_40]; rfl), (wzfr9_n hq hz).2⟩⟩
      · exact ((h_18.2.mpr hp) c_21).elim
set_option maxHeartbeats 4000000 in
set_option maxRecDepth 100000 in
theorem zc_X10_joinsAll_atx (l : Launch) (E : za_E) (q : Nat) (t : Int32) (σ0 : za_S) (hq : q ≠ 93) (ht : 0 ≤ t.toInt ∧ t.toInt ≤ 1) (hB : zGB (σ0.1 q)) : zMi l E yX10_joinsAll cX10_joinsAll 6 (Option.some Jvm.ClassFile.FieldType.int) 5 112 [za_O 22 q, za_I t] σ0 (fun r σ' => zfx q σ0 σ' ∧ wzFjo (σ0.1 q) (σ'.1 q) t.toInt) := by
  refine zMi_of [(0, za_O 22 q), (1, za_I t)] (by decide) rfl rfl (Nat.le_of_ble_eq_true rfl) ?_
  intro ho p e s m args below meth c G hr
  have h_q : za_kd q = 22 := za_okO (by decide) (List.forall_mem_cons.mp ho).1
  refine zv_gen (R9 := (fun σ => σ = σ0)) rfl (fun σ hz => ?_)
  have hz : wzjs q t 0 1 σ0 σ := by rw [hz]; exact ⟨zfx_r q σ0, wzJp_0 _ _⟩
  refine zv_iconst (v := 0) G dX10_joinsAll_0 (by decide) ?_
  refine zv_istore_n (lv' := [(2, za_I 0), (0, za_O 22 q), (1, za_I t)]) G dX10_joinsAll_1 rfl (by decide) rfl ?_
  refine zv_iconst (v := 0) G dX10_joinsAll_2 (by decide) ?_
  have J_4 : ∀ (n : Nat) (y2_4 : Int32) (y3_4 : Int32) (σ : za_S) (hz : wzjs q t y3_4 1 σ0 σ) (i3_4 : 0 ≤ y3_4.toInt) (u3_4 : y3_4.toInt ≤ 10) (hn_4 : (2147483648 - y3_4.toInt).toNat < n), zV p l e (zRm 5 112) s m args below meth c E (za_A E) 6 0 0 (MQ below (va_Qi (fun r σ' => zfx q σ0 σ' ∧ wzFjo (σ0.1 q) (σ'.1 q) t.toInt) (zB E) (za_A E)) args s 0 0 (za_A E)) 4 [(0, za_O 22 q), (1, za_I t), (2, za_I y2_4), (3, za_I y3_4)] [] σ := by
    intro n
    induction n with
    | zero => intro y2_4 y3_4 σ hz i3_4 u3_4 hn; exact absurd hn (Nat.not_lt_zero _)
    | succ n ih_4 =>
      intro y2_4 y3_4 σ hz i3_4 u3_4 hn_4
      refine zv_iload_n (j := 3) G dX10_joinsAll_4 rfl rfl ?_
      refine zv_bipush (v := 10) G dX10_joinsAll_5 (by decide) ?_
      refine zv_icmp_ge (tgt := 138) G dX10_joinsAll_7 (by decide) (fun c_7 => ?_) (fun c_7 => ?_)
      · have k_7 := z_cle c_7 (a := 10) (b := y3_4.toInt) rfl rfl
        refine zv_iload_n (j := 2) G dX10_joinsAll_138 rfl rfl ?_
        exact zv_iret G hr dX10_joinsAll_139 ⟨hz.1, wzJp_f (by omega) hz.2⟩
      · have b_7 : 0 ≤ y3_4.toInt ∧ y3_4.toInt < 10 := ⟨i3_4, z_ltk c_7 rfl⟩
        have k_7 := z_cnle c_7 (a := 10) (b := y3_4.toInt) rfl rfl
        refine zv_iconst (v := 1) G dX10_joinsAll_10 (by decide) ?_
        have J_13 : ∀ (n : Nat) (y2_13 : Int32) (y4_13 : Int32) (σ : za_S) (hz : wzjs q t y3_4 y4_13 σ0 σ) (g_13 : 1 ≤ y4_13.toInt) (i4_13 : 0 ≤ y4_13.toInt) (u4_13 : y4_13.toInt ≤ 100) (hn_13 : (2147483648 - y4_13.toInt).toNat < n), zV p l e (zRm 5 112) s m args below meth c E (za_A E) 6 0 0 (MQ below (va_Qi (fun r σ' => zfx q σ0 σ' ∧ wzFjo (σ0.1 q) (σ'.1 q) t.toInt) (zB E) (za_A E)) args s 0 0 (za_A E)) 13 [(0, za_O 22 q), (1, za_I t), (2, za_I y2_13), (3, za_I y3_4), (4, za_I y4_13)] [] σ := by
          intro n
          induction n with
          | zero => intro y2_13 y4_13 σ hz g_13 i4_13 u4_13 hn; exact absurd hn (Nat.not_lt_zero _)
          | succ n ih_13 =>
            intro y2_13 y4_13 σ hz g_13 i4_13 u4_13 hn_13
            refine zv_iload (j := 4) G dX10_joinsAll_13 rfl ?_
            refine zv_bipush (v := 100) G dX10_joinsAll_15 (by decide) ?_
            refine zv_icmp_ge (tgt := 132) G dX10_joinsAll_17 (by decide) (fun c_17 => ?_) (fun c_17 => ?_)
            · have k_17 := z_cle c_17 (a := 100) (b := y4_13.toInt) rfl rfl
              obtain ⟨x_132, e_132⟩ : ∃ y : Int32, y = y3_4 + 1 := ⟨_, rfl⟩
              refine zv_iinc (j := 3) (v := x_132) (lv' := [(3, za_I x_132), (0, za_O 22 q), (1, za_I t), (2, za_I y2_13), (4, za_I y4_13)]) G dX10_joinsAll_132 rfl (by rw [e_132]; rfl) (by decide) rfl ?_
              first | have q_132 := z_inc9 (by omega) e_132 | skip
              refine zv_goto (tgt := 4) G dX10_joinsAll_135 (by decide) ?_
              refine zv_sub [1, 2, 3, 0] (lv' := [(0, za_O 22 q), (1, za_I t), (2, za_I y2_13), (3, za_I x_132)]) rfl ?_
              exact ih_4 y2_13 x_132 σ (wzjs_r (by omega) q_132 hz) (by have := z_inc c_7 e_132; omega) (by have := z_inc9 (by omega) e_132; omega) (z_meas c_7 e_132 hn_4)
            · have b_17 : 0 ≤ y4_13.toInt ∧ y4_13.toInt < 100 := ⟨i4_13, z_ltk c_17 rfl⟩
              have k_17 := z_cnle c_17 (a := 100) (b := y4_13.toInt) rfl rfl
              refine zv_aload_n (j := 0) G dX10_joinsAll_20 rfl rfl ?_
              refine zv_iload_n (j := 1) G dX10_joinsAll_21 rfl rfl ?_
              refine zv_iload_n (j := 3) G dX10_joinsAll_22 rfl rfl ?_
              refine zv_iload (j := 4) G dX10_joinsAll_23 rfl ?_
              refine zv_callSi (as := [za_O 22 q, za_I t, za_I y3_4, za_I y4_13]) G (zc_X10_begins l E q t y3_4 y4_13 σ (by first | assumption | decide | omega) (by first | assumption | decide | omega)) zk_X10_begins zm_1321 rfl ⟨(Nat.le_of_ble_eq_true rfl), (Nat.le_of_ble_eq_true rfl)⟩ ⟨Nat.zero_le _, Nat.zero_le _⟩ (Nat.le_of_ble_eq_true rfl) dX10_joinsAll_25 (fun r_25 σ h_25 => ?_)
              obtain ⟨h_25, rfl⟩ := h_25
              refine zv_if_eq (tgt := 90) G dX10_joinsAll_28 (by decide) (fun c_28 => ?_) (fun c_28 => ?_)
              · have f_25 := fun q9 => (h_25.2.mpr q9) c_28
                have n9 := wzjc_F1 (by omega) (by omega) hz.2 f_25
                refine zv_iconst (v := 0) G dX10_joinsAll_90 (by decide) ?_
                refine zv_istore (lv' := [(5, za_I 0), (0, za_O 22 q), (1, za_I t), (2, za_I y2_13), (3, za_I y3_4), (4, za_I y4_13)]) G dX10_joinsAll_91 (by decide) rfl ?_
                refine zv_iload (j := 0) G dX10_joinsAll_93 rfl ?_
                refine zv_if_eq (tgt := 126) G dX10_joinsAll_95 (by decide) (fun c_95 => ?_) (fun c_95 => ?_)
                · have k_95 := z_ceq c_95 (a := 0) (b := 0) rfl rfl
                  obtain ⟨x_126, e_126⟩ : ∃ y : Int32, y = y4_13 + 1 := ⟨_, rfl⟩
                  refine zv_iinc (j := 5) (v := x_126) (lv' := [(4, za_I x_126), (5, za_I 0), (0, za_O 22 q), (1, za_I t), (2, za_I y2_13), (3, za_I y3_4)]) G dX10_joinsAll_126 rfl (by rw [e_126]; rfl) (by decide) rfl ?_
                  first | have q_126 := z_inc9 (by omega) e_126 | skip
                  refine zv_goto (tgt := 13) G dX10_joinsAll_129 (by decide) ?_
                  refine zv_sub [2, 3, 4, 5, 0] (lv' := [(0, za_O 22 q), (1, za_I t), (2, za_I y2_13), (3, za_I y3_4), (4, za_I x_126)]) rfl ?_
                  exact ih_13 y2_13 x_126 σ (by first | exact wzjs_n q_126 hz n9 | exact wzjs_m q_126 hz) (by have hL := z_lits; omega) (by have := z_inc c_17 e_126; omega) (by have := z_inc9 (by omega) e_126; omega) (z_meas c_17 e_126 hn_13)
                · exact absurd c_95 (by decide)
              · have t_25 := h_25.2.mp c_28
                refine zv_aload_n (j := 0) G dX10_joinsAll_31 rfl rfl ?_
                refine zv_iload_n (j := 1) G dX10_joinsAll_32 rfl rfl ?_
                refine zv_iload_n (j := 3) G dX10_joinsAll_33 rfl rfl ?_
                refine zv_iload (j := 4) G dX10_joinsAll_34 rfl ?_
                refine zv_iconst (v := 1) G dX10_joinsAll_36 (by decide) ?_
                refine zv_isub G dX10_joinsAll_37 ?_
                refine zv_callSi (as := [za_O 22 q, za_I t, za_I y3_4, za_I (y4_13 - 1)]) G (zc_X10_isThere l E q t y3_4 (y4_13 - 1) σ (by first | assumption | decide | omega) (by first | assumption | decide | omega)) zk_X10_isThere zm_1324 rfl ⟨(Nat.le_of_ble_eq_true rfl), (Nat.le_of_ble_eq_true rfl)⟩ ⟨Nat.zero_le _, Nat.zero_le _⟩ (Nat.le_of_ble_eq_true rfl) dX10_joinsAll_38 (fun r_38 σ h_38 => ?_)
                obtain ⟨h_38, rfl⟩ := h_38
                refine zv_if_eq (tgt := 90) G dX10_joinsAll_41 (by decide) (fun c_41 => ?_) (fun c_41 => ?_)
                · have f_38 := fun q9 => (h_38.2.mpr q9) c_41
                  have n9 := wzjc_F2 (by omega) (by omega) hz.2 f_38
                  refine zv_iconst (v := 0) G dX10_joinsAll_90 (by decide) ?_
                  refine zv_istore (lv' := [(5, za_I 0), (0, za_O 22 q), (1, za_I t), (2, za_I y2_13), (3, za_I y3_4), (4, za_I y4_13)]) G dX10_joinsAll_91 (by decide) rfl ?_
                  refine zv_iload (j := 0) G dX10_joinsAll_93 rfl ?_
                  refine zv_if_eq (tgt := 126) G dX10_joinsAll_95 (by decide) (fun c_95 => ?_) (fun c_95 => ?_)
                  · have k_95 := z_ceq c_95 (a := 0) (b := 0) rfl rfl
                    obtain ⟨x_126, e_126⟩ : ∃ y : Int32, y = y4_13 + 1 := ⟨_, rfl⟩
                    refine zv_iinc (j := 5) (v := x_126) (lv' := [(4, za_I x_126), (5, za_I 0), (0, za_O 22 q), (1, za_I t), (2, za_I y2_13), (3, za_I y3_4)]) G dX10_joinsAll_126 rfl (by rw [e_126]; rfl) (by decide) rfl ?_
                    first | have q_126 := z_inc9 (by omega) e_126 | skip
                    refine zv_goto (tgt := 13) G dX10_joinsAll_129 (by decide) ?_
                    refine zv_sub [2, 3, 4, 5, 0] (lv' := [(0, za_O 22 q), (1, za_I t), (2, za_I y2_13), (3, za_I y3_4), (4, za_I x_126)]) rfl ?_
                    exact ih_13 y2_13 x_126 σ (by first | exact wzjs_n q_126 hz n9 | exact wzjs_m q_126 hz) (by have hL := z_lits; omega) (by have := z_inc c_17 e_126; omega) (by have := z_inc9 (by omega) e_126; omega) (z_meas c_17 e_126 hn_13)
                  · exact absurd c_95 (by decide)
                · have t_38 := h_38.2.mp c_41
                  refine zv_aload_n (j := 0) G dX10_joinsAll_44 rfl rfl ?_
                  refine zv_iload_n (j := 1) G dX10_joinsAll_45 rfl rfl ?_
                  refine zv_iload_n (j := 3) G dX10_joinsAll_46 rfl rfl ?_
                  refine zv_iload (j := 4) G dX10_joinsAll_47 rfl ?_
                  refine zv_callSi (as := [za_O 22 q, za_I t, za_I y3_4, za_I y4_13]) G (zc_X10_valueOn l E q t y3_4 y4_13 σ (by first | assumption | decide | omega) (by first | assumption | decide | omega) (by first | assumption | decide | omega)) zk_X10_valueOn zm_1338 rfl ⟨(Nat.le_of_ble_eq_true rfl), (Nat.le_of_ble_eq_true rfl)⟩ ⟨Nat.zero_le _, Nat.zero_le _⟩ (Nat.le_of_ble_eq_true rfl) dX10_joinsAll_49 (fun r_49 σ h_49 => ?_)
                  obtain ⟨h_49, rfl⟩ := h_49
                  refine zv_aload_n (j := 0) G dX10_joinsAll_52 rfl rfl ?_
                  refine zv_iload_n (j := 1) G dX10_joinsAll_53 rfl rfl ?_
                  refine zv_iload_n (j := 3) G dX10_joinsAll_54 rfl rfl ?_
                  refine zv_iload (j := 4) G dX10_joinsAll_55 rfl ?_
                  refine zv_iconst (v := 1) G dX10_joinsAll_57 (by decide) ?_
                  refine zv_isub G dX10_joinsAll_58 ?_
                  refine zv_callSi (as := [za_O 22 q, za_I t, za_I y3_4, za_I (y4_13 - 1)]) G (zc_X10_valueOn l E q t y3_4 (y4_13 - 1) σ ht (by omega) t_38.1) zk_X10_valueOn zm_1338 rfl ⟨(Nat.le_of_ble_eq_true rfl), (Nat.le_of_ble_eq_true rfl)⟩ ⟨Nat.zero_le _, Nat.zero_le _⟩ (Nat.le_of_ble_eq_true rfl) dX10_joinsAll_59 (fun r_59 σ h_59 => ?_)
                  obtain ⟨h_59, rfl⟩ := h_59
                  refine zv_icmp_ne (tgt := 90) G dX10_joinsAll_62 (by decide) (fun c_62 => ?_) (fun c_62 => ?_)
                  · have k_62 := z_cne c_62 (a := r_49.toInt) (b := r_59.toInt) rfl rfl
                    have n9 := wzjc_F3 (b := 0) (b' := 0) (by omega) (by omega) hz.2 t_25 t_38 h_49 h_59 c_62
                    refine zv_iconst (v := 0) G dX10_joinsAll_90 (by decide) ?_
                    refine zv_istore (lv' := [(5, za_I 0), (0, za_O 22 q), (1, za_I t), (2, za_I y2_13), (3, za_I y3_4), (4, za_I y4_13)]) G dX10_joinsAll_91 (by decide) rfl ?_
                    refine zv_iload (j := 0) G dX10_joinsAll_93 rfl ?_
                    refine zv_if_eq (tgt := 126) G dX10_joinsAll_95 (by decide) (fun c_95 => ?_) (fun c_95 => ?_)
                    · have k_95 := z_ceq c_95 (a := 0) (b := 0) rfl rfl
                      obtain ⟨x_126, e_126⟩ : ∃ y : Int32, y = y4_13 + 1 := ⟨_, rfl⟩
                      refine zv_iinc (j := 5) (v := x_126) (lv' := [(4, za_I x_126), (5, za_I 0), (0, za_O 22 q), (1, za_I t), (2, za_I y2_13), (3, za_I y3_4)]) G dX10_joinsAll_126 rfl (by rw [e_126]; rfl) (by decide) rfl ?_
                      first | have q_126 := z_inc9 (by omega) e_126 | skip
                      refine zv_goto (tgt := 13) G dX10_joinsAll_129 (by decide) ?_
                      refine zv_sub [2, 3, 4, 5, 0] (lv' := [(0, za_O 22 q), (1, za_I t), (2, za_I y2_13), (3, za_I y3_4), (4, za_I x_126)]) rfl ?_
                      exact ih_13 y2_13 x_126 σ (by first | exact wzjs_n q_126 hz n9 | exact wzjs_m q_126 hz) (by have hL := z_lits; omega) (by have := z_inc c_17 e_126; omega) (by have := z_inc9 (by omega) e_126; omega) (z_meas c_17 e_126 hn_13)
                    · exact absurd c_95 (by decide)
                  · have k_62 := z_ceq c_62 (a := r_49.toInt) (b := r_59.toInt) rfl rfl
                    refine zv_aload_n (j := 0) G dX10_joinsAll_65 rfl rfl ?_
                    refine zv_iload_n (j := 1) G dX10_joinsAll_66 rfl rfl ?_
                    refine zv_iload_n (j := 3) G dX10_joinsAll_67 rfl rfl ?_
                    refine zv_iload (j := 4) G dX10_joinsAll_68 rfl ?_
                    refine zv_callSi (as := [za_O 22 q, za_I t, za_I y3_4, za_I y4_13]) G (zc_X10_refOn l E q t y3_4 y4_13 σ (by first | assumption | decide | omega) (by first | assumption | decide | omega) (by first | assumption | decide | omega)) zk_X10_refOn zm_1344 rfl ⟨(Nat.le_of_ble_eq_true rfl), (Nat.le_of_ble_eq_true rfl)⟩ ⟨Nat.zero_le _, Nat.zero_le _⟩ (Nat.le_of_ble_eq_true rfl) dX10_joinsAll_70 (fun r_70 σ h_70 => ?_)
                    obtain ⟨h_70, rfl⟩ := h_70
                    refine zv_aload_n (j := 0) G dX10_joinsAll_73 rfl rfl ?_
                    refine zv_iload_n (j := 1) G dX10_joinsAll_74 rfl rfl ?_
                    refine zv_iload_n (j := 3) G dX10_joinsAll_75 rfl rfl ?_
                    refine zv_iload (j := 4) G dX10_joinsAll_76 rfl ?_
                    refine zv_iconst (v := 1) G dX10_joinsAll_78 (by decide) ?_
                    refine zv_isub G dX10_joinsAll_79 ?_
                    refine zv_callSi (as := [za_O 22 q, za_I t, za_I y3_4, za_I (y4_13 - 1)]) G (zc_X10_refOn l E q t y3_4 (y4_13 - 1) σ ht (by omega) t_38.1) zk_X10_refOn zm_1344 rfl ⟨(Nat.le_of_ble_eq_true rfl), (Nat.le_of_ble_eq_true rfl)⟩ ⟨Nat.zero_le _, Nat.zero_le _⟩ (Nat.le_of_ble_eq_true rfl) dX10_joinsAll_80 (fun r_80 σ h_80 => ?_)
                    obtain ⟨h_80, rfl⟩ := h_80
                    refine zv_icmp_ne (tgt := 90) G dX10_joinsAll_83 (by decide) (fun c_83 => ?_) (fun c_83 => ?_)
                    · have k_83 := z_cne c_83 (a := r_70.toInt) (b := r_80.toInt) rfl rfl
                      have n9 := wzjc_F4 (b := 0) (b' := 0) (by omega) (by omega) hz.2 t_25 t_38 h_70 h_80 c_83
                      refine zv_iconst (v := 0) G dX10_joinsAll_90 (by decide) ?_
                      refine zv_istore (lv' := [(5, za_I 0), (0, za_O 22 q), (1, za_I t), (2, za_I y2_13), (3, za_I y3_4), (4, za_I y4_13)]) G dX10_joinsAll_91 (by decide) rfl ?_
                      refine zv_iload (j := 0) G dX10_joinsAll_93 rfl ?_
                      refine zv_if_eq (tgt := 126) G dX10_joinsAll_95 (by decide) (fun c_95 => ?_) (fun c_95 => ?_)
                      · have k_95 := z_ceq c_95 (a := 0) (b := 0) rfl rfl
                        obtain ⟨x_126, e_126⟩ : ∃ y : Int32, y = y4_13 + 1 := ⟨_, rfl⟩
                        refine zv_iinc (j := 5) (v := x_126) (lv' := [(4, za_I x_126), (5, za_I 0), (0, za_O 22 q), (1, za_I t), (2, za_I y2_13), (3, za_I y3_4)]) G dX10_joinsAll_126 rfl (by rw [e_126]; rfl) (by decide) rfl ?_
                        first | have q_126 := z_inc9 (by omega) e_126 | skip
                        refine zv_goto (tgt := 13) G dX10_joinsAll_129 (by decide) ?_
                        refine zv_sub [2, 3, 4, 5, 0] (lv' := [(0, za_O 22 q), (1, za_I t), (2, za_I y2_13), (3, za_I y3_4), (4, za_I x_126)]) rfl ?_
                        exact ih_13 y2_13 x_126 σ (by first | exact wzjs_n q_126 hz n9 | exact wzjs_m q_126 hz) (by have hL := z_lits; omega) (by have := z_inc c_17 e_126; omega) (by have := z_inc9 (by omega) e_126; omega) (z_meas c_17 e_126 hn_13)
                      · exact absurd c_95 (by decide)
                    · have k_83 := z_ceq c_83 (a := r_70.toInt) (b := r_80.toInt) rfl rfl
                      have y9 := wzjc_T (by omega) (by omega) hz.2 t_25 t_38 h_49 h_59 h_70 h_80 c_62 c_83
                      refine zv_iconst (v := 1) G dX10_joinsAll_86 (by decide) ?_
                      refine zv_goto (tgt := 91) G dX10_joinsAll_87 (by decide) ?_
                      refine zv_istore (lv' := [(5, za_I 1), (0, za_O 22 q), (1, za_I t), (2, za_I y2_13), (3, za_I y3_4), (4, za_I y4_13)]) G dX10_joinsAll_91 (by decide) rfl ?_
                      refine zv_iload (j := 0) G dX10_joinsAll_93 rfl ?_
                      refine zv_if_eq (tgt := 126) G dX10_joinsAll_95 (by decide) (fun c_95 => ?_) (fun c_95 => ?_)
                      · exact absurd c_95 (by decide)
                      · have k_95 := z_cne c_95 (a := 1) (b := 0) rfl rfl
                        refine zv_aload_n (j := 1) G dX10_joinsAll_98 rfl rfl ?_
                        refine zv_iload_n (j := 2) G dX10_joinsAll_99 rfl rfl ?_
                        refine zv_iload_n (j := 4) G dX10_joinsAll_100 rfl rfl ?_
                        refine zv_iload (j := 5) G dX10_joinsAll_101 rfl ?_
                        refine zv_aload_n (j := 1) G dX10_joinsAll_103 rfl rfl ?_
                        refine zv_iload_n (j := 2) G dX10_joinsAll_104 rfl rfl ?_
                        refine zv_iload_n (j := 4) G dX10_joinsAll_105 rfl rfl ?_
                        refine zv_iload (j := 5) G dX10_joinsAll_106 rfl ?_
                        refine zv_callSi (as := [za_O 22 q, za_I t, za_I y3_4, za_I y4_13]) G (zc_X10_valueOn l E q t y3_4 y4_13 σ (by first | assumption | decide | omega) (by first | assumption | decide | omega) (by first | assumption | decide | omega)) zk_X10_valueOn zm_1338 rfl ⟨(Nat.le_of_ble_eq_true rfl), (Nat.le_of_ble_eq_true rfl)⟩ ⟨Nat.zero_le _, Nat.zero_le _⟩ (Nat.le_of_ble_eq_true rfl) dX10_joinsAll_108 (fun r_108 σ h_108 => ?_)
                        obtain ⟨h_108, rfl⟩ := h_108
                        refine zv_aload_n (j := 1) G dX10_joinsAll_111 rfl rfl ?_
                        refine zv_iload_n (j := 2) G dX10_joinsAll_112 rfl rfl ?_
                        refine zv_iload_n (j := 4) G dX10_joinsAll_113 rfl rfl ?_
                        refine zv_iload (j := 5) G dX10_joinsAll_114 rfl ?_
                        refine zv_callSi (as := [za_O 22 q, za_I t, za_I y3_4, za_I y4_13]) G (zc_X10_refOn l E q t y3_4 y4_13 σ (by first | assumption | decide | omega) (by first | assumption | decide | omega) (by first | assumption | decide | omega)) zk_X10_refOn zm_1344 rfl ⟨(Nat.le_of_ble_eq_true rfl), (Nat.le_of_ble_eq_true rfl)⟩ ⟨Nat.zero_le _, Nat.zero_le _⟩ (Nat.le_of_ble_eq_true rfl) dX10_joinsAll_116 (fun r_116 σ h_116 => ?_)
                        obtain ⟨h_116, rfl⟩ := h_116
                        refine zv_iconst (v := 0) G dX10_joinsAll_119 (by decide) ?_
                        refine zv_callSv (as := [za_O 22 q, za_I t, za_I y3_4, za_I y4_13, za_I r_108, za_I r_116, za_I 0]) G (zc_X10_lays l E q t y3_4 y4_13 r_108 r_116 (0 : Int32) σ (by first | assumption | decide | omega) (by first | assumption | decide | omega) (by first | assumption | decide | omega)) zk_X10_lays zm_1360 rfl ⟨(Nat.le_of_ble_eq_true rfl), (Nat.le_of_ble_eq_true rfl)⟩ ⟨Nat.zero_le _, Nat.zero_le _⟩ (Nat.le_of_ble_eq_true rfl) dX10_joinsAll_120 (fun σ h_120 => ?_)
                        have hz := wzjs_y hq ht (by omega) (by omega) hB hz y9 h_108 h_116 h_120
                        have z120 := h_120
                        obtain ⟨x_123, e_123⟩ : ∃ y : Int32, y = y2_13 + 1 := ⟨_, rfl⟩
                        refine zv_iinc (j := 3) (v := x_123) (lv' := [(2, za_I x_123), (5, za_I 1), (0, za_O 22 q), (1, za_I t), (3, za_I y3_4), (4, za_I y4_13)]) G dX10_joinsAll_123 rfl (by rw [e_123]; rfl) (by decide) rfl ?_
                        first | have q_123 := z_inc9 (by omega) e_123 | skip
                        obtain ⟨x_126, e_126⟩ : ∃ y : Int32, y = y4_13 + 1 := ⟨_, rfl⟩
                        refine zv_iinc (j := 5) (v := x_126) (lv' := [(4, za_I x_126), (2, za_I x_123), (5, za_I 1), (0, za_O 22 q), (1, za_I t), (3, za_I y3_4)]) G dX10_joinsAll_126 rfl (by rw [e_126]; rfl) (by decide) rfl ?_
                        first | have q_126 := z_inc9 (by omega) e_126 | skip
                        refine zv_goto (tgt := 13) G dX10_joinsAll_129 (by decide) ?_
                        refine zv_sub [3, 4, 1, 5, 0] (lv' := [(0, za_O 22 q), (1, za_I t), (2, za_I x_123), (3, za_I y3_4), (4, za_I x_126)]) rfl ?_
                        exact ih_13 x_123 x_126 σ (by first | exact wzjs_n q_126 hz n9 | exact wzjs_m q_126 hz) (by have hL := z_lits; omega) (by have := z_inc c_17 e_126; omega) (by have := z_inc9 (by omega) e_126; omega) (z_meas c_17 e_126 hn_13)
        refine zv_istore (lv' := [(4, za_I 1), (0, za_O 22 q), (1, za_I t), (2, za_I y2_4), (3, za_I y3_4)]) G dX10_joinsAll_11 (by decide) rfl ?_
        refine zv_sub [1, 2, 3, 4, 0] (lv' := [(0, za_O 22 q), (1, za_I t), (2, za_I y2_4), (3, za_I y3_4), (4, za_I 1)]) rfl ?_
        exact J_13 _ y2_4 (1 : Int32) σ hz (by have hL := z_lits; omega) (by decide) (by decide) (Nat.lt_succ_self _)
  refine zv_istore_n (lv' := [(3, za_I 0), (2, za_I 0), (0, za_O 22 q), (1, za_I t)]) G dX10_joinsAll_3 rfl (by decide) rfl ?_
  refine zv_sub [2, 3, 1, 0] (lv' := [(0, za_O 22 q), (1, za_I t), (2, za_I 0), (3, za_I 0)]) rfl ?_
  exact J_4 _ (0 : Int32) (0 : Int32) σ hz (by decide) (by decide) (Nat.lt_succ_self _)
set_option maxHeartbeats 4000000 in
set_option maxRecDepth 100000 in
theorem zc_X10_draws_atx (l : Launch) (E : za_E) (nn : Int32) (σ0 : za_S) (hn : 0 < nn.toInt) : zMi l E yX10_draws cX10_draws 2 (Option.some Jvm.ClassFile.FieldType.int) 1 21 [za_O 19 93, za_I nn] σ0 (fun r σ' => r = wzdd (σ0.1 93 35) nn ∧ σ' = za_si σ0 93 35 (wznx (σ0.1 93 35))) := by
  refine zMi_of [(0, za_O 19 93), (1, za_I nn)] (by decide) rfl rfl (Nat.le_of_ble_eq_true rfl) ?_
  intro ho p e s m args below meth c G hr
  refine zv_aload_n (j := 0) G dX10_draws_0 rfl rfl ?_
  refine zv_aload_n (j := 0) G dX10_draws_1 rfl rfl ?_
  refine zg_X10_419 G dX10_draws_2 ?_
  refine zv_ldc_w (v := 1103515245) G dX10_draws_5 zm_1722 ?_
  refine zv_imul G dX10_draws_8 ?_
  refine zv_sipush (v := 12345) G dX10_draws_9 (by decide) ?_
  refine zv_iadd G dX10_draws_12 ?_
  refine zp_X10_419 G dX10_draws_13 ?_
  refine zv_aload_n (j := 0) G dX10_draws_16 rfl rfl ?_
  refine zg_X10_419 G dX10_draws_17 ?_
  refine zv_bipush (v := 16) G dX10_draws_20 (by decide) ?_
  refine zv_iushr G dX10_draws_22 ?_
  refine zv_iload_n (j := 1) G dX10_draws_23 rfl rfl ?_
  refine zv_irem G dX10_draws_24 (fun e9 => absurd (congrArg Int32.toInt e9) (by have u9 : (0 : Int32).toInt = 0 := (by decide); omega)) ?_
  exact zv_iret G hr dX10_draws_25 ⟨rfl, rfl⟩
