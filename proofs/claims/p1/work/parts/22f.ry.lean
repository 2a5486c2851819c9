/-! ===== drawn acts, years: the reference; both go alike ===== -/
theorem wzGB_o {f g : Nat → Int32} {t k : Int} (ho : wzot f g t k) (h : zGB f) (c : ∀ d, 0 ≤ d → d ≤ 99 → 0 ≤ (g (wzjx t k d)).toInt ∧ (g (wzjx t k d)).toInt ≤ 2200) : zGB g := by
  intro i hi
  by_cases z : ∃ d : Int, 0 ≤ d ∧ d ≤ 99 ∧ i = wzjx t k d
  · obtain ⟨d, d1, d2, e⟩ := z
    rw [e]
    exact c d d1 d2
  · rw [ho i (by omega) (fun d d1 d2 e => z ⟨d, d1, d2, e⟩)]
    exact h i hi
theorem wzGB_c {f g : Nat → Int32} (e : ∀ i, i < 2001 → g i = f i) (h : zGB f) : zGB g := fun i hi => by rw [e i (by omega)]; exact h i hi
theorem wzGB_j {f : Nat → Int32} {t k d : Int} (h : zGB f) (ht : 0 ≤ t ∧ t ≤ 1) (hk : 0 ≤ k ∧ k ≤ 9) (hd : 0 ≤ d ∧ d ≤ 99) : 0 ≤ (f (wzjx t k d)).toInt ∧ (f (wzjx t k d)).toInt ≤ 2200 := h _ (by unfold wzjx; omega)
def wzFv (f : Nat → Int32) : Prop := zGB f ∧ f 2000 = 0
theorem wzFv_c {f g : Nat → Int32} (e : ∀ i, i < 2001 → g i = f i) (h : wzFv f) : wzFv g := ⟨wzGB_c e h.1, by rw [e 2000 (by decide)]; exact h.2⟩
theorem wzFv_t {f g f' : Nat → Int32} (h : wzFv f) (k : wzFv g) (d : wzFtk f g f') : wzFv f' := by
  by_cases z : zcn g 0 ≤ 20 ∧ zcn g 1 ≤ 20
  · exact wzFv_c (d.1 z) k
  · exact wzFv_c (d.2 z) h
theorem wzot_w {f g : Nat → Int32} {t k : Int} (ht : 0 ≤ t ∧ t ≤ 1) (hk : 0 ≤ k ∧ k ≤ 9) (h : wzot f g t k) : g 2000 = f 2000 := h 2000 (by decide) (fun d d1 d2 => by unfold wzjx; omega)
theorem wzFv_ad {f g : Nat → Int32} {t k v a b : Int} (ht : 0 ≤ t ∧ t ≤ 1) (hk : 0 ≤ k ∧ k ≤ 9) (hv : 0 ≤ v ∧ v ≤ 99) (h : wzFv f) (c : wzFad f g t k v a b) : wzFv g := by
  refine ⟨wzGB_o c.1 h.1 (fun d d1 d2 => ?_), by rw [wzot_w ht hk c.1]; exact h.2⟩
  have h3 := c.2 d d1 d2
  by_cases z : a ≤ d ∧ d < b
  · rw [h3.1 z]
    split <;> omega
  · rw [h3.2 z]
    exact wzGB_j h.1 ht hk ⟨d1, d2⟩
theorem wzdn_b {j : Nat} {x v : Int} (hv : wzvr j v) (hx : 0 < x ∧ x ≤ 2200) : 0 ≤ wzdn9 j x v ∧ wzdn9 j x v ≤ 1099 := by
  unfold wzdn9
  rcases hv with q | q
  · rw [if_pos q.1]; omega
  · rw [if_neg (by omega)]; omega
theorem wzFv_tn {f g : Nat → Int32} {t k v a b : Int} {j : Nat} (ht : 0 ≤ t ∧ t ≤ 1) (hk : 0 ≤ k ∧ k ≤ 9) (hv : wzvr j v) (hb : 0 ≤ a ∧ a < b ∧ b ≤ 100) (h : wzFv f) (c : wzFtn f g t k j v a b) : wzFv g := by
  refine ⟨wzGB_o c.1 h.1 (fun d d1 d2 => ?_), by rw [wzot_w ht hk c.1]; exact h.2⟩
  have h3 := c.2 d d1 d2
  have h4 := wzGB_j h.1 ht hk ⟨d1, d2⟩
  by_cases z : a ≤ d ∧ d < b ∧ 0 < (f (wzjx t k d)).toInt ∧ ¬ wzdc j (f (wzjx t k d)).toInt = v
  · rw [h3.1 z]
    have h5 := wzdn_b (x := (f (wzjx t k d)).toInt) hv ⟨z.2.2.1, h4.2⟩
    split <;> omega
  · by_cases z2 : d = b ∧ 0 < (f (wzjx t k b)).toInt ∧ 0 < (f (wzjx t k (b - 1))).toInt ∧ ¬ wzdc j (f (wzjx t k (b - 1))).toInt = v
    · rw [h3.2.1 z2, ← z2.1]
      have h5 := z2.2.1
      rw [← z2.1] at h5
      omega
    · rw [h3.2.2 z z2]
      exact h4
theorem wzFv_cu {f g : Nat → Int32} {t k a b : Int} (ht : 0 ≤ t ∧ t ≤ 1) (hk : 0 ≤ k ∧ k ≤ 9) (h : wzFv f) (c : wzFcu f g t k a b) : wzFv g := by
  refine ⟨wzGB_o c.1 h.1 (fun d d1 d2 => ?_), by rw [wzot_w ht hk c.1]; exact h.2⟩
  have h3 := c.2 d d1 d2
  have h4 := wzGB_j h.1 ht hk ⟨d1, d2⟩
  by_cases z : a ≤ d ∧ d < b
  · rw [h3.1 z]; omega
  · by_cases z2 : d = b ∧ 0 < (f (wzjx t k b)).toInt ∧ 0 < (f (wzjx t k (b - 1))).toInt
    · rw [h3.2.1 z2, ← z2.1]
      have h5 := z2.2.1
      rw [← z2.1] at h5
      omega
    · rw [h3.2.2 z z2]
      exact h4
theorem wzFv_jo {f g : Nat → Int32} {t : Int} (ht : 0 ≤ t ∧ t ≤ 1) (h : wzFv f) (c : wzFjo f g t) : wzFv g := by
  refine ⟨fun i hi => ?_, by rw [c.1 2000 (by decide) (fun k d h1 h2 h3 h4 => by unfold wzjx; omega)]; exact h.2⟩
  by_cases z : ∃ k d : Int, 0 ≤ k ∧ k ≤ 9 ∧ 0 ≤ d ∧ d ≤ 99 ∧ i = wzjx t k d
  · obtain ⟨k, d, k1, k2, d1, d2, e⟩ := z
    rw [e]
    have h3 := c.2 k d k1 k2 d1 d2
    have h4 := wzGB_j h.1 ht ⟨k1, k2⟩ ⟨d1, d2⟩
    by_cases z2 : 1 ≤ d ∧ (0 < (f (wzjx t k d)).toInt ∧ ((f (wzjx t k d)).toInt - 1) % 2 = 1) ∧ 0 < (f (wzjx t k (d - 1))).toInt ∧ ((f (wzjx t k d)).toInt - 1) / 2 = ((f (wzjx t k (d - 1))).toInt - 1) / 2
    · rw [h3.1 z2]
      have := z2.2.1.1
      omega
    · rw [h3.2 z2]
      exact h4
  · rw [c.1 i (by omega) (fun k d k1 k2 d1 d2 e => z ⟨k, d, k1, k2, d1, d2, e⟩)]
    exact h.1 i hi
def wzsF (R : Int32) (f : Nat → Int32) (R' : Int32) (f' : Nat → Int32) : Prop := wzDw R R' (fun t k v a b => wzFset t k 1 v a b f f') (fun k v a b => wzFref k v a b f f') (fun t k a b => wzFcut t k a b f f') (fun t => wzFjo f f' t) (fun t k v a b => wzFadd t k v a b f f')
theorem wzFv_add {f f' : Nat → Int32} {t k v a b : Int} (ht : 0 ≤ t ∧ t ≤ 1) (hk : 0 ≤ k ∧ k ≤ 9) (hv : 0 ≤ v ∧ v ≤ 99) (h : wzFv f) (c : wzFadd t k v a b f f') : wzFv f' := by
  rcases c with ⟨-, c⟩ | ⟨-, g, c1, c2⟩
  · exact wzFv_c c h
  · exact wzFv_t h (wzFv_ad ht hk hv h c1) c2
theorem wzFv_set {f f' : Nat → Int32} {t k v a b : Int} {j : Nat} (ht : 0 ≤ t ∧ t ≤ 1) (hk : 0 ≤ k ∧ k ≤ 9) (hv : wzvr j v) (hb : 0 ≤ a ∧ a < b ∧ b ≤ 100) (h : wzFv f) (c : wzFset t k j v a b f f') : wzFv f' := by
  rcases c with ⟨-, c⟩ | ⟨-, g, c1, c2⟩
  · exact wzFv_c c h
  · exact wzFv_t h (wzFv_tn ht hk hv hb h c1) c2
theorem wzFv_ref {f f' : Nat → Int32} {k v a b : Int} (hk : 0 ≤ k ∧ k ≤ 9) (hv : 0 ≤ v ∧ v ≤ 10) (hb : 0 ≤ a ∧ a < b ∧ b ≤ 100) (h : wzFv f) (c : wzFref k v a b f f') : wzFv f' := by
  rcases c with ⟨-, c⟩ | ⟨-, g, c1, ⟨-, c2⟩ | ⟨-, c2⟩⟩
  · exact wzFv_c c h
  · exact wzFv_c c2 h
  · exact wzFv_t h (wzFv_tn (by omega) hk (Or.inr ⟨rfl, hv⟩) hb h c1) c2
theorem wzFv_cut {f f' : Nat → Int32} {t k a b : Int} (ht : 0 ≤ t ∧ t ≤ 1) (hk : 0 ≤ k ∧ k ≤ 9) (h : wzFv f) (c : wzFcut t k a b f f') : wzFv f' := by
  rcases c with ⟨-, c⟩ | ⟨-, g, c1, ⟨-, c2⟩ | ⟨-, c2⟩⟩
  · exact wzFv_c c h
  · exact wzFv_c c2 h
  · exact wzFv_t h (wzFv_cu ht hk h c1) c2
/-- while it is drawn -/
def wzfd9 (R : Int32) (σ0 σ : za_S) : Prop := σ.1 100 = σ0.1 100 ∧ σ.1 93 35 = R
theorem wzfd9_d {R : Int32} {σ0 σ σ' : za_S} (h : wzfd9 R σ0 σ) (e : σ' = za_si σ 93 35 (wznx (σ.1 93 35))) : wzfd9 (wznx R) σ0 σ' := by
  rw [e, h.2]
  exact ⟨by rw [(za_si_off 100 (by decide)).1]; exact h.1, za_si_same _ _ _ _⟩
theorem wzfd9_a {R : Int32} {σ0 σ σ' : za_S} {X : (Nat → Int32) → (Nat → Int32) → Prop} (h : wzfd9 R σ0 σ) (k : wzfr9 100 σ σ' ∧ X (σ.1 100) (σ'.1 100)) : σ'.1 93 35 = R ∧ X (σ0.1 100) (σ'.1 100) := ⟨by rw [k.1.2.2 35 (by decide) (by decide)]; exact h.2, by rw [← h.1]; exact k.2⟩
theorem wzfd9_j {R : Int32} {σ0 σ σ' : za_S} {t : Int} (h : wzfd9 R σ0 σ) (k : zfx 100 σ σ' ∧ wzFjo (σ.1 100) (σ'.1 100) t) : σ'.1 93 35 = R ∧ wzFjo (σ0.1 100) (σ'.1 100) t := ⟨by rw [k.1.2.2 35 (by decide) (by decide)]; exact h.2, by rw [← h.1]; exact k.2⟩
/-! both -/
theorem wzdr9 (R : Int32) : (0 ≤ wzdt R ∧ wzdt R ≤ 1) ∧ (0 ≤ wzdk R ∧ wzdk R ≤ 9) ∧ (0 ≤ wzda R ∧ wzda R < wzde R ∧ wzde R ≤ 100) ∧ (0 ≤ wzdv R 100 ∧ wzdv R 100 ≤ 99) ∧ 0 ≤ wzdv R 11 ∧ wzdv R 11 ≤ 10 := by
  have h1 := wzdd_r (wznx R) (n := 2) (N := 2) rfl (by decide)
  have h2 := wzdd_r (wznx (wznx R)) (n := 10) (N := 10) rfl (by decide)
  have h3 := wzdd_r (wznx (wznx (wznx R))) (n := 100) (N := 100) rfl (by decide)
  have h4 := wzdd_r (wznx (wznx (wznx (wznx R)))) (n := 20) (N := 20) rfl (by decide)
  have h5 := wzdd_r (wznx (wznx (wznx (wznx (wznx R))))) (n := 100) (N := 100) rfl (by decide)
  have h6 := wzdd_r (wznx (wznx (wznx (wznx (wznx R))))) (n := 11) (N := 11) rfl (by decide)
  have h7 := wzmn_b 100 ((wzdd (wznx (wznx (wznx R))) 100).toInt + (wzdd (wznx (wznx (wznx (wznx R)))) 20).toInt + 1)
  unfold wzdt wzdk wzda wzde wzdv
  omega
theorem wzFhd_m {f g : Nat → Int32} (h : wzFhd f) (a : ∀ k d, 0 ≤ k → k ≤ 9 → 0 ≤ d → d ≤ 99 → 0 < (g (wzjx 0 k d)).toInt → ((g (wzjx 0 k d)).toInt - 1) / 2 % 11 = 10 ∨ (0 < (f (wzjx 0 k d)).toInt ∧ ((g (wzjx 0 k d)).toInt - 1) / 2 % 11 = ((f (wzjx 0 k d)).toInt - 1) / 2 % 11)) (b : ∀ k d, 0 ≤ k → k ≤ 9 → 0 ≤ d → d ≤ 99 → 0 < (f (wzjx 1 k d)).toInt → 0 < (g (wzjx 1 k d)).toInt) : wzFhd g := by
  intro k d k1 k2 d1 d2 q
  rcases a k d k1 k2 d1 d2 q with c | ⟨c1, c2⟩
  · exact Or.inl c
  · rw [c2]
    rcases h k d k1 k2 d1 d2 c1 with z | z
    · exact Or.inl z
    · by_cases z2 : ((f (wzjx 0 k d)).toInt - 1) / 2 % 11 = 10
      · exact Or.inl z2
      · exact Or.inr (b _ d (by omega) (by omega) d1 d2 z)
theorem wzFhd_i {f g : Nat → Int32} (e : ∀ i, i < 2001 → g i = f i) (h : wzFhd f) : wzFhd g := wzFhd_m h (fun k d k1 k2 d1 d2 q => by
    have e1 := e (wzjx 0 k d) (by unfold wzjx; omega)
    rw [e1] at q ⊢
    exact Or.inr ⟨q, rfl⟩) (fun k d k1 k2 d1 d2 q => by
    rw [e (wzjx 1 k d) (by unfold wzjx; omega)]
    exact q)
def wzRH (P : wzP) (f : Nat → Int32) : Prop := wzRL P f ∧ wzFhd f
theorem wzRH_i {P : wzP} {f g : Nat → Int32} (h : wzRH P f) (e : ∀ i, i < 2001 → g i = f i) : wzRH P g := ⟨wzRL_i h.1 e, wzFhd_i e h.2⟩
theorem wzRH_t {P D P' : wzP} {f g f' : Nat → Int32} (h : wzRH P f) (h1 : wzRel D.1 g 0) (h2 : wzRel D.2 g 1) (h3 : g 2000 = 0) (h4 : wzFhd g) (c : wzCtk P D P') (d : wzFtk f g f') : wzRH P' f' := by
  refine ⟨wzRL_t h.1 h1 h2 h3 c d, ?_⟩
  by_cases z : zcn g 0 ≤ 20 ∧ zcn g 1 ≤ 20
  · exact wzFhd_i (d.1 z) h4
  · exact wzFhd_i (d.2 z) h.2
theorem wzRL_s {P : wzP} {f : Nat → Int32} {t : Int} (h : wzRL P f) (ht : 0 ≤ t ∧ t ≤ 1) : wzRel (wzsl P t) f t ∧ (wzsl P t).length ≤ 20 := by
  unfold wzsl
  by_cases c : t = 0
  · rw [if_pos c, c]; exact ⟨h.1.1, h.2.1.1⟩
  · rw [if_neg c, show t = 1 by omega]; exact ⟨h.1.2, h.2.1.2⟩
theorem wzRL_u {P : wzP} {f g : Nat → Int32} {t k : Int} {X : List wzR} (h : wzRL P f) (ht : 0 ≤ t ∧ t ≤ 1) (hk : 0 ≤ k ∧ k ≤ 9) (hg : wzot f g t k) (hX : wzRel X g t) : wzRel (wzpu P t X).1 g 0 ∧ wzRel (wzpu P t X).2 g 1 ∧ g 2000 = 0 := by
  have hw : g 2000 = 0 := by rw [wzot_w ht hk hg]; exact h.2.2
  unfold wzpu
  by_cases c : t = 0
  · rw [if_pos c]
    rw [c] at hX hg
    exact ⟨hX, wzRel_o h.1.2 hg (by omega) hk (by omega) (by decide), hw⟩
  · rw [if_neg c]
    have c1 : t = 1 := by omega
    rw [c1] at hX hg
    exact ⟨wzRel_o h.1.1 hg (by omega) hk (by omega) (by decide), hX, hw⟩
/-- a step that leaves what each cell of table 0 refers to, and takes nothing from table 1 -/
theorem wzFhd_k {f g : Nat → Int32} {t k : Int} (ht : 0 ≤ t ∧ t ≤ 1) (hk : 0 ≤ k ∧ k ≤ 9) (hg : wzot f g t k) (h : wzFhd f) (a : t = 0 → ∀ d, 0 ≤ d → d ≤ 99 → 0 < (g (wzjx 0 k d)).toInt → ((g (wzjx 0 k d)).toInt - 1) / 2 % 11 = 10 ∨ (0 < (f (wzjx 0 k d)).toInt ∧ ((g (wzjx 0 k d)).toInt - 1) / 2 % 11 = ((f (wzjx 0 k d)).toInt - 1) / 2 % 11)) (b : t = 1 → ∀ d, 0 ≤ d → d ≤ 99 → 0 < (f (wzjx 1 k d)).toInt → 0 < (g (wzjx 1 k d)).toInt) : wzFhd g := by
  refine wzFhd_m h (fun k' d k1 k2 d1 d2 q => ?_) (fun k' d k1 k2 d1 d2 q => ?_)
  · by_cases c : (0 : Int) = t ∧ k' = k
    · rw [c.2] at q ⊢
      exact a c.1.symm d d1 d2 q
    · rw [wzot_o hg ht hk (by omega) ⟨k1, k2⟩ ⟨d1, d2⟩ c] at q ⊢
      exact Or.inr ⟨q, rfl⟩
  · by_cases c : (1 : Int) = t ∧ k' = k
    · rw [c.2] at q ⊢
      exact b c.1.symm d d1 d2 q
    · rw [wzot_o hg ht hk (by omega) ⟨k1, k2⟩ ⟨d1, d2⟩ c]
      exact q
theorem wzst_add {P P' : wzP} {f f' : Nat → Int32} {t k v a b : Int} (h : wzRH P f) (ht : 0 ≤ t ∧ t ≤ 1) (hk : 0 ≤ k ∧ k ≤ 9) (hv : 0 ≤ v ∧ v ≤ 99) (hp : 0 ≤ a ∧ a < b ∧ b ≤ 100) (c : wzCadd t k v a b P P') (d : wzFadd t k v a b f f') : wzRH P' f' := by
  obtain ⟨s1, s2⟩ := wzRL_s h.1 ht
  have e := wzno_rn s1 (by omega) hk hp
  rcases c with ⟨c1, c2⟩ | ⟨c1, n, c2, c3, c4⟩ <;> rcases d with ⟨d1, d2⟩ | ⟨d1, g, d2, d3⟩
  · rw [c2]; exact wzRH_i h d2
  · exact absurd (e.mpr d1) c1
  · exact absurd (e.mp c1) d1
  · have hx : wzvd (k, v, a, b, 10) := ⟨hk, hv, hp, by show (0 : Int) ≤ 10 ∧ (10 : Int) ≤ 10; decide⟩
    have hX := wzRel_add s1 (by omega) hx ((wzno_m (by omega)).mp c1) c3 ht d2
    obtain ⟨u1, u2, u3⟩ := wzRL_u h.1 ht hk d2.1 hX
    refine wzRH_t h u1 u2 u3 (wzFhd_k ht hk d2.1 h.2 (fun t0 d9 e1 e2 q => ?_) (fun t1 d9 e1 e2 q => ?_)) c4 d3
    · subst t0
      have h3 := d2.2 d9 e1 e2
      by_cases z : a ≤ d9 ∧ d9 < b
      · refine Or.inl ?_
        rw [h3.1 z]
        split <;> omega
      · rw [h3.2 z] at q ⊢
        exact Or.inr ⟨q, rfl⟩
    · subst t1
      have h3 := d2.2 d9 e1 e2
      by_cases z : a ≤ d9 ∧ d9 < b
      · rw [h3.1 z]
        split <;> omega
      · rw [h3.2 z]
        exact q
theorem wzTn_k {f g : Nat → Int32} {t k v a b : Int} {j : Nat} (hv : wzvr j v) (hg : wzFtn f g t k j v a b) (d : Int) (d1 : 0 ≤ d) (d2 : d ≤ 99) (hx : 0 ≤ (f (wzjx t k d)).toInt ∧ (f (wzjx t k d)).toInt ≤ 2200) : (0 < (g (wzjx t k d)).toInt ↔ 0 < (f (wzjx t k d)).toInt) ∧ (j = 1 → 0 < (f (wzjx t k d)).toInt → ((g (wzjx t k d)).toInt - 1) / 2 % 11 = ((f (wzjx t k d)).toInt - 1) / 2 % 11) := by
  have h3 := hg.2 d d1 d2
  by_cases z : a ≤ d ∧ d < b ∧ 0 < (f (wzjx t k d)).toInt ∧ ¬ wzdc j (f (wzjx t k d)).toInt = v
  · have h4 := h3.1 z
    have h5 := wzdn_b (x := (f (wzjx t k d)).toInt) hv ⟨z.2.2.1, hx.2⟩
    refine ⟨⟨fun _ => z.2.2.1, fun _ => by split at h4 <;> omega⟩, fun j1 q => ?_⟩
    have h6 : wzdn9 j (f (wzjx t k d)).toInt v = 11 * v + ((f (wzjx t k d)).toInt - 1) / 2 % 11 := if_pos j1
    rw [h6] at h4
    rw [h4]
    split <;> omega
  · by_cases z2 : d = b ∧ 0 < (f (wzjx t k b)).toInt ∧ 0 < (f (wzjx t k (b - 1))).toInt ∧ ¬ wzdc j (f (wzjx t k (b - 1))).toInt = v
    · have h4 := h3.2.1 z2
      have h5 := z2.2.1
      rw [← z2.1] at h4 h5
      rw [h4]
      exact ⟨⟨fun _ => h5, fun _ => by omega⟩, fun _ _ => by omega⟩
    · rw [h3.2.2 z z2]
      exact ⟨Iff.rfl, fun _ _ => rfl⟩
theorem wzRL_b {P : wzP} {f : Nat → Int32} {t k d : Int} (h : wzRL P f) (ht : 0 ≤ t ∧ t ≤ 1) (hk : 0 ≤ k ∧ k ≤ 9) (hd : 0 ≤ d ∧ d ≤ 99) : 0 ≤ (f (wzjx t k d)).toInt ∧ (f (wzjx t k d)).toInt ≤ 2200 := by
  rcases wzRel_c (wzRL_s h ht).1 hk hd with ⟨c, -⟩ | ⟨r, hr, -, -, -, c⟩
  · omega
  · obtain ⟨v0, v1, v2, v3⟩ := (wzRL_s h ht).1.1.1 r hr
    rw [c]
    unfold wzenc
    split <;> omega
theorem wzst_set {P P' : wzP} {f f' : Nat → Int32} {t k v a b : Int} (h : wzRH P f) (ht : 0 ≤ t ∧ t ≤ 1) (hk : 0 ≤ k ∧ k ≤ 9) (hv : 0 ≤ v ∧ v ≤ 99) (hp : 0 ≤ a ∧ a < b ∧ b ≤ 100) (c : wzCset t k 1 v a b P P') (d : wzFset t k 1 v a b f f') : wzRH P' f' := by
  obtain ⟨s1, s2⟩ := wzRL_s h.1 ht
  have e := wzno_rn s1 (by omega) hk hp
  rcases c with ⟨c1, c2⟩ | ⟨c1, c2⟩ <;> rcases d with ⟨d1, d2⟩ | ⟨d1, g, d2, d3⟩
  · rw [c2]; exact wzRH_i h d2
  · exact absurd (e.mp c1) d1
  · exact absurd (e.mpr d1) c1
  · have hX := wzRel_set s1 hk hp (Or.inl ⟨rfl, hv⟩) ht d2
    obtain ⟨u1, u2, u3⟩ := wzRL_u h.1 ht hk d2.1 hX
    have key := fun d9 e1 e2 => wzTn_k (Or.inl ⟨rfl, hv⟩) d2 d9 e1 e2 (wzRL_b h.1 ht hk ⟨e1, e2⟩)
    refine wzRH_t h u1 u2 u3 (wzFhd_k ht hk d2.1 h.2 (fun t0 d9 e1 e2 q => ?_) (fun t1 d9 e1 e2 q => ?_)) c2 d3
    · subst t0
      have h3 := key d9 e1 e2
      exact Or.inr ⟨h3.1.mp q, h3.2 rfl (h3.1.mp q)⟩
    · subst t1
      exact (key d9 e1 e2).1.mpr q
theorem wzst_ref {P P' : wzP} {f f' : Nat → Int32} {k v a b : Int} (h : wzRH P f) (hk : 0 ≤ k ∧ k ≤ 9) (hv : 0 ≤ v ∧ v ≤ 10) (hp : 0 ≤ a ∧ a < b ∧ b ≤ 100) (c : wzCref k v a b P P') (d : wzFref k v a b f f') : wzRH P' f' := by
  have e := wzno_rn h.1.1.1 (by have := h.1.2.1.1; omega) hk hp
  rcases c with ⟨c1, c2⟩ | ⟨c1, c2⟩ <;> rcases d with ⟨d1, d2⟩ | ⟨d1, g, d2, d3⟩
  · rw [c2]; exact wzRH_i h d2
  · exact absurd (e.mp c1) d1
  · exact absurd (e.mpr d1) c1
  · have hX := wzRel_set h.1.1.1 hk hp (Or.inr ⟨rfl, hv⟩) (by omega) d2
    have hY := wzRel_o h.1.1.2 d2.1 (by omega) hk (t' := 1) (by omega) (by decide)
    have hw : g 2000 = 0 := by rw [wzot_w (by omega) hk d2.1]; exact h.1.2.2
    have n0 : zcn g 0 = (P.1.flatMap (wzfc k a b 4 v)).length := wzRel_n (t := 0) hX
    have n1 : zcn g 1 = P.2.length := wzRel_n (t := 1) hY
    by_cases z : (P.1.flatMap (wzfc k a b 4 v)).length ≤ 20 ∧ P.2.length ≤ 20
    · have hh := wzhd_r (D := (P.1.flatMap (wzfc k a b 4 v), P.2)) hX hY (by show (P.1.flatMap (wzfc k a b 4 v)).length ≤ 24; omega) (by show P.2.length ≤ 24; omega)
      rcases c2 with ⟨c3, c4⟩ | ⟨c3, c4⟩ <;> rcases d3 with ⟨d4, d5⟩ | ⟨d4, d5⟩
      · rw [c4]; exact wzRH_i h d5
      · exact absurd (hh.mpr d4) c3
      · exact absurd (hh.mp c3) d4
      · exact wzRH_t (D := (P.1.flatMap (wzfc k a b 4 v), P.2)) h hX hY hw d4 c4 d5
    · have e1 : P' = P := by
        rcases c2 with ⟨-, c4⟩ | ⟨-, c4⟩
        · exact c4
        · exact c4.2 z
      have e2 : ∀ i, i < 2001 → f' i = f i := by
        rcases d3 with ⟨-, d5⟩ | ⟨-, d5⟩
        · exact d5
        · exact d5.2 (by rw [n0, n1]; exact z)
      rw [e1]; exact wzRH_i h e2
theorem wzst_cut {P P' : wzP} {f f' : Nat → Int32} {t k a b : Int} (h : wzRH P f) (ht : 0 ≤ t ∧ t ≤ 1) (hk : 0 ≤ k ∧ k ≤ 9) (hp : 0 ≤ a ∧ a < b ∧ b ≤ 100) (c : wzCcut t k a b P P') (d : wzFcut t k a b f f') : wzRH P' f' := by
  obtain ⟨s1, s2⟩ := wzRL_s h.1 ht
  have e := wzno_rn s1 (by omega) hk hp
  rcases c with ⟨c1, c2⟩ | ⟨c1, c2⟩ <;> rcases d with ⟨d1, d2⟩ | ⟨d1, g, d2, d3⟩
  · rw [c2]; exact wzRH_i h d2
  · exact absurd (e.mp c1) d1
  · exact absurd (e.mpr d1) c1
  · rcases c2 with ⟨t0, c3⟩ | ⟨t1, c3⟩
    · subst t0
      have hX := wzRel_cut h.1.1.1 hk hp (by omega) d2
      have hY := wzRel_o h.1.1.2 d2.1 (by omega) hk (t' := 1) (by omega) (by decide)
      have hw : g 2000 = 0 := by rw [wzot_w (by omega) hk d2.1]; exact h.1.2.2
      have hh : wzFhd g := wzFhd_k (by omega) hk d2.1 h.2 (fun _ d9 e1 e2 q => by
        have h3 := d2.2 d9 e1 e2
        by_cases z : a ≤ d9 ∧ d9 < b
        · rw [h3.1 z] at q; omega
        · by_cases z2 : d9 = b ∧ 0 < (f (wzjx 0 k b)).toInt ∧ 0 < (f (wzjx 0 k (b - 1))).toInt
          · have h4 := h3.2.1 z2
            have h5 := z2.2.1
            rw [← z2.1] at h4 h5
            exact Or.inr ⟨h5, by rw [h4]; omega⟩
          · rw [h3.2.2 z z2] at q ⊢
            exact Or.inr ⟨q, rfl⟩) (fun q => absurd q (by decide))
      rcases d3 with ⟨d4, -⟩ | ⟨-, d5⟩
      · exact absurd hh d4
      · exact wzRH_t (D := (P.1.flatMap (wzfk k a b), P.2)) h hX hY hw hh c3 d5
    · subst t1
      have hX := wzRel_cut h.1.1.2 hk hp (by omega) d2
      have hY := wzRel_o h.1.1.1 d2.1 (by omega) hk (t' := 0) (by omega) (by decide)
      have hw : g 2000 = 0 := by rw [wzot_w (by omega) hk d2.1]; exact h.1.2.2
      have n0 : zcn g 0 = P.1.length := wzRel_n (t := 0) hY
      have n1 : zcn g 1 = (P.2.flatMap (wzfk k a b)).length := wzRel_n (t := 1) hX
      have ew : P.1.flatMap (fun r => wzpt r 0 100) = P.1 := wzfm_w h.1.1.1.1.1
      rw [ew] at c3
      by_cases z : P.1.length ≤ 20 ∧ (P.2.flatMap (wzfk k a b)).length ≤ 20
      · have hh := wzhd_r (D := (P.1, P.2.flatMap (wzfk k a b))) hY hX (by show P.1.length ≤ 24; omega) (by show (P.2.flatMap (wzfk k a b)).length ≤ 24; omega)
        rcases c3 with ⟨c3, c4⟩ | ⟨c3, c4⟩ <;> rcases d3 with ⟨d4, d5⟩ | ⟨d4, d5⟩
        · rw [c4]; exact wzRH_i h d5
        · exact absurd (hh.mpr d4) c3
        · exact absurd (hh.mp c3) d4
        · exact wzRH_t (D := (P.1, P.2.flatMap (wzfk k a b))) h hY hX hw d4 c4 d5
      · have e1 : P' = P := by
          rcases c3 with ⟨-, c4⟩ | ⟨-, c4⟩
          · exact c4
          · exact c4.2 z
        have e2 : ∀ i, i < 2001 → f' i = f i := by
          rcases d3 with ⟨-, d5⟩ | ⟨-, d5⟩
          · exact d5
          · exact d5.2 (by rw [n0, n1]; exact z)
        rw [e1]; exact wzRH_i h e2
theorem wzJo_o {f g : Nat → Int32} {t t' k d : Int} (h : wzFjo f g t) (ht : 0 ≤ t ∧ t ≤ 1) (ht' : 0 ≤ t' ∧ t' ≤ 1) (hk : 0 ≤ k ∧ k ≤ 9) (hd : 0 ≤ d ∧ d ≤ 99) (c : ¬ t' = t) : g (wzjx t' k d) = f (wzjx t' k d) := h.1 _ (by unfold wzjx; omega) (fun k' d' k1 k2 d1 d2 => by unfold wzjx; omega)
theorem wzst_join {P P' : wzP} {f f' : Nat → Int32} {t : Int} (h : wzRH P f) (ht : 0 ≤ t ∧ t ≤ 1) (c : wzCjoin t P P') (d : wzFjo f f' t) : wzRH P' f' := by
  obtain ⟨s1, s2⟩ := wzRL_s h.1 ht
  have hX := wzRel_join s1 (by omega) d
  have hl := wzjl_len (wzsl P t) (wzsl P t).length
  have hw : f' 2000 = 0 := by rw [d.1 2000 (by decide) (fun k d h1 h2 h3 h4 => by unfold wzjx; omega)]; exact h.1.2.2
  have key : ∀ k d9, 0 ≤ k → k ≤ 9 → 0 ≤ d9 → d9 ≤ 99 → (0 < (f' (wzjx t k d9)).toInt → 0 < (f (wzjx t k d9)).toInt ∧ ((f' (wzjx t k d9)).toInt - 1) / 2 % 11 = ((f (wzjx t k d9)).toInt - 1) / 2 % 11) ∧ (0 < (f (wzjx t k d9)).toInt → 0 < (f' (wzjx t k d9)).toInt) := fun k d9 k1 k2 d1 d2 => by
    have h3 := d.2 k d9 k1 k2 d1 d2
    by_cases z2 : 1 ≤ d9 ∧ (0 < (f (wzjx t k d9)).toInt ∧ ((f (wzjx t k d9)).toInt - 1) % 2 = 1) ∧ 0 < (f (wzjx t k (d9 - 1))).toInt ∧ ((f (wzjx t k d9)).toInt - 1) / 2 = ((f (wzjx t k (d9 - 1))).toInt - 1) / 2
    · have h4 := h3.1 z2
      have h5 := z2.2.1.1
      rw [h4]
      exact ⟨fun _ => ⟨h5, by omega⟩, fun _ => by omega⟩
    · rw [h3.2 z2]
      exact ⟨fun q => ⟨q, rfl⟩, fun q => q⟩
  have hh : wzFhd f' := by
    refine wzFhd_m h.2 (fun k d9 k1 k2 d1 d2 q => ?_) (fun k d9 k1 k2 d1 d2 q => ?_)
    · by_cases z : (0 : Int) = t
      · subst z
        exact Or.inr ((key k d9 k1 k2 d1 d2).1 q)
      · rw [wzJo_o d ht (by omega) ⟨k1, k2⟩ ⟨d1, d2⟩ z] at q ⊢
        exact Or.inr ⟨q, rfl⟩
    · by_cases z : (1 : Int) = t
      · subst z
        exact (key k d9 k1 k2 d1 d2).2 q
      · rw [wzJo_o d ht (by omega) ⟨k1, k2⟩ ⟨d1, d2⟩ z]
        exact q
  have h20 := h.1.2.1
  refine ⟨?_, hh⟩
  unfold wzCjoin wzCtk wzpu at c
  unfold wzsl at s2 hX hl c
  by_cases z : t = 0
  · rw [if_pos z] at s2 hX hl
    rw [if_pos z, if_pos z] at c
    subst z
    have e := c.1 ⟨by show (wzjl P.1 P.1.length).length ≤ 20; omega, h20.2⟩
    rw [e]
    exact ⟨⟨hX, wzRel_f h.1.1.2 (fun k d9 k1 k2 d1 d2 => by rw [wzJo_o d (by omega) (by omega) ⟨k1, k2⟩ ⟨d1, d2⟩ (by decide)])⟩, ⟨by show (wzjl P.1 P.1.length).length ≤ 20; omega, h20.2⟩, hw⟩
  · rw [if_neg z] at s2 hX hl
    rw [if_neg z, if_neg z] at c
    have z1 : t = 1 := by omega
    subst z1
    have e := c.1 ⟨h20.1, by show (wzjl P.2 P.2.length).length ≤ 20; omega⟩
    rw [e]
    exact ⟨⟨wzRel_f h.1.1.1 (fun k d9 k1 k2 d1 d2 => by rw [wzJo_o d (by omega) (by omega) ⟨k1, k2⟩ ⟨d1, d2⟩ (by decide)]), hX⟩, ⟨h20.1, by show (wzjl P.2 P.2.length).length ≤ 20; omega⟩, hw⟩
theorem wzstep {P P' : wzP} {f f' : Nat → Int32} {R R1 R2 : Int32} (h : wzRH P f) (c : wzsC R P R1 P') (d : wzsF R f R2 f') : R1 = R2 ∧ wzRH P' f' := by
  obtain ⟨r1, r2, r3, r4, r5⟩ := wzdr9 R
  obtain ⟨c2, c3, c4, c5, c6⟩ := c
  obtain ⟨d2, d3, d4, d5, d6⟩ := d
  by_cases z2 : wzdd R 6 = 2
  · exact ⟨(c2 z2).1.trans (d2 z2).1.symm, wzst_set h r1 r2 r4 r3 (c2 z2).2 (d2 z2).2⟩
  · by_cases z3 : wzdd R 6 = 3
    · exact ⟨(c3 z3).1.trans (d3 z3).1.symm, wzst_ref h r2 r5 r3 (c3 z3).2 (d3 z3).2⟩
    · by_cases z4 : wzdd R 6 = 4
      · exact ⟨(c4 z4).1.trans (d4 z4).1.symm, wzst_cut h r1 r2 r3 (c4 z4).2 (d4 z4).2⟩
      · by_cases z5 : wzdd R 6 = 5
        · exact ⟨(c5 z5).1.trans (d5 z5).1.symm, wzst_join h r1 (c5 z5).2 (d5 z5).2⟩
        · exact ⟨(c6 z2 z3 z4 z5).1.trans (d6 z2 z3 z4 z5).1.symm, wzst_add h r1 r2 r4 r3 (c6 z2 z3 z4 z5).2 (d6 z2 z3 z4 z5).2⟩
theorem wzrun {P0 : wzP} {f0 : Nat → Int32} {R : Int32} (h : wzRH P0 f0) : ∀ (n : Nat) {P : wzP} {f : Nat → Int32} {R1 R2 : Int32}, wzRun wzsC n R P0 R1 P → wzRun wzsF n R f0 R2 f → R1 = R2 ∧ wzRH P f
  | 0, P, f, R1, R2, c, d => by
    obtain ⟨c1, c2⟩ := c
    obtain ⟨d1, d2⟩ := d
    subst c2; subst d2
    exact ⟨c1.trans d1.symm, h⟩
  | n + 1, P, f, R1, R2, c, d => by
    obtain ⟨Ra, Pa, c1, c2⟩ := c
    obtain ⟨Rb, fb, d1, d2⟩ := d
    obtain ⟨e, hh⟩ := wzrun h n c1 d1
    subst e
    exact wzstep hh c2 d2
theorem wzRH_0 {f : Nat → Int32} (h : ∀ i, i < 2001 → f i = 0) : wzRH ([], []) f := by
  have hz : ∀ t k d : Int, 0 ≤ t ∧ t ≤ 1 → 0 ≤ k → k ≤ 9 → 0 ≤ d → d ≤ 99 → (f (wzjx t k d)).toInt = 0 := fun t k d ht k1 k2 d1 d2 => by
    rw [h _ (by unfold wzjx; omega)]
    rfl
  have hr : ∀ t : Int, 0 ≤ t ∧ t ≤ 1 → wzRel [] f t := fun t ht => ⟨⟨fun r h => (nomatch h), List.Pairwise.nil⟩, fun r h => (nomatch h), fun k d k1 k2 d1 d2 q => absurd (hz t k d ht k1 k2 d1 d2) q⟩
  exact ⟨⟨⟨hr 0 (by omega), hr 1 (by omega)⟩, ⟨Nat.zero_le _, Nat.zero_le _⟩, h 2000 (by decide)⟩, fun k d k1 k2 d1 d2 q => by rw [hz 0 k d (by omega) k1 k2 d1 d2] at q; omega⟩
/-- what years() of the reference answers -/
def wzyF (n seed : Int32) (r : Int) : Prop := (¬ (1 ≤ n.toInt ∧ n.toInt ≤ 40) ∧ r = -1) ∨ ((1 ≤ n.toInt ∧ n.toInt ≤ 40) ∧ ∃ R' f0 f, (∀ i, i < 2001 → f0 i = 0) ∧ wzRun wzsF n.toInt.toNat seed f0 R' f ∧ r = (zcn f 0 : Nat) + (zcn f 1 : Nat))
theorem wzyears {n seed : Int32} {r s : Int} (h : wzyr n seed r) (k : wzyF n seed s) : r = s := by
  rcases h with ⟨h1, h2⟩ | ⟨h1, R1, P, h2, h3⟩ <;> rcases k with ⟨k1, k2⟩ | ⟨k1, R2, f0, f, k2, k3, k4⟩
  · rw [h2, k2]
  · exact absurd k1 h1
  · exact absurd h1 k1
  · have hh := (wzrun (wzRH_0 k2) _ h2 k3).2
    have e0 : zcn f 0 = P.1.length := wzRel_n (t := 0) hh.1.1.1
    have e1 : zcn f 1 = P.2.length := wzRel_n (t := 1) hh.1.1.2
    rw [h3, k4, e0, e1]
def wzYl (seed : Int32) (n : Nat) (σ0 σ : za_S) : Prop := ∃ R' f0, (∀ i, i < 2001 → f0 i = 0) ∧ wzRun wzsF n seed f0 R' (σ.1 100) ∧ σ.1 93 35 = R' ∧ wzFv (σ.1 100)
theorem wzYl_0 {seed : Int32} {σ0 σ σ' : za_S} (h0 : ∀ i, i < 2001 → σ.1 99 i = 0) (hs : σ.1 93 35 = seed) (e : σ' = zcp σ 99 100 2001) : wzYl seed 0 σ0 σ' := by
  have h1 : ∀ i, i < 2001 → σ'.1 100 i = 0 := fun i hi => by rw [e, zcp_w hi]; exact h0 i hi
  refine ⟨seed, σ'.1 100, h1, ⟨rfl, rfl⟩, ?_, fun i hi => by rw [h1 i (by omega)]; decide, h1 2000 (by decide)⟩
  rw [e, zcp_o (by decide)]
  exact hs
theorem wzYl_s {seed : Int32} {n : Nat} {σ0 σ1 σ : za_S} (h : wzYl seed n σ0 σ1) (k : ∃ R2, wzsF (σ1.1 93 35) (σ1.1 100) R2 (σ.1 100) ∧ σ.1 93 35 = R2 ∧ wzFv (σ.1 100)) : wzYl seed (n + 1) σ0 σ := by
  obtain ⟨R', f0, h1, h2, h3, h4⟩ := h
  obtain ⟨R2, k1, k2, k3⟩ := k
  rw [h3] at k1
  exact ⟨R2, f0, h1, ⟨R', _, h2, k1⟩, k2, k3⟩
theorem wzYl_e {seed : Int32} {n : Nat} {σ0 σ σ' : za_S} (h : wzYl seed n σ0 σ) (e : σ'.1 100 = σ.1 100) (e2 : σ'.1 93 35 = σ.1 93 35) : wzYl seed n σ0 σ' := by
  unfold wzYl
  rw [e, e2]
  exact h
theorem wzYl_f {seed n y a b : Int32} {σ0 σ : za_S} (hn : 1 ≤ n.toInt ∧ n.toInt ≤ 40) (e : y.toInt.toNat = n.toInt.toNat) (h : wzYl seed y.toInt.toNat σ0 σ) (ha : a.toInt = (zcn (σ.1 100) (0 : Int32).toInt.toNat : Nat)) (hb : b.toInt = (zcn (σ.1 100) (1 : Int32).toInt.toNat : Nat)) : wzyF n seed (a + b).toInt := by
  obtain ⟨R', f0, h1, h2, h3, h4⟩ := h
  have e0 : (0 : Int32).toInt.toNat = 0 := by decide
  have e1 : (1 : Int32).toInt.toNat = 1 := by decide
  rw [e0] at ha
  rw [e1] at hb
  have c0 : zcn (σ.1 100) 0 ≤ 1000 := fb_ct_le _ _
  have c1 : zcn (σ.1 100) 1 ≤ 1000 := fb_ct_le _ _
  rw [e] at h2
  refine Or.inr ⟨hn, R', f0, _, h1, h2, ?_⟩
  rw [z_add (by omega) (by omega), ha, hb]
theorem wzye_1 {seed : Int32} {n : Nat} {v : Int64} {σ0 σ σ' : za_S} (h : wzYl seed n σ0 σ ∧ σ.1 93 1 = 0) (e : σ' = za_si (za_sl σ 94 (σ.1 93 1).toNatClampNeg v) 93 1 (σ.1 93 1 + 1)) : wzYl seed n σ0 σ' ∧ σ'.1 93 1 = 1 := by
  subst e
  refine ⟨wzYl_e h.1 ?_ ?_, ?_⟩
  · rw [(za_si_off 100 (by decide)).1]; rfl
  · rw [za_si_ne _ _ (Or.inr (by decide))]; rfl
  · rw [za_si_same, h.2]; rfl
theorem wzye_2 {seed : Int32} {n : Nat} {v : Int64} {σ0 σ σ' : za_S} (h : wzYl seed n σ0 σ ∧ σ.1 93 1 = 1) (e : σ' = za_si (za_sl σ 94 (σ.1 93 1).toNatClampNeg v) 93 1 (σ.1 93 1 + 1)) : wzYl seed n σ0 σ' ∧ True := by
  subst e
  refine ⟨wzYl_e h.1 ?_ ?_, trivial⟩
  · rw [(za_si_off 100 (by decide)).1]; rfl
  · rw [za_si_ne _ _ (Or.inr (by decide))]; rfl
set_option maxHeartbeats 4000000 in
set_option maxRecDepth 100000 in
theorem zc_X10_drawnAct_atx (l : Launch) (E : za_E)  (σ0 : za_S) (hV : wzFv (σ0.1 100)) : zMv l E yX10_drawnAct cX10_drawnAct 6 (Option.none : Option Jvm.ClassFile.FieldType) 8 197 [za_O 19 93] σ0 (fun σ' => ∃ R2, wzsF (σ0.1 93 35) (σ0.1 100) R2 (σ'.1 100) ∧ σ'.1 93 35 = R2 ∧ wzFv (σ'.1 100)) := by
  refine zMv_of [(0, za_O 19 93)] (by decide) rfl rfl (Nat.le_of_ble_eq_true rfl) ?_
  intro ho p e s m args below meth c G hr
  refine zv_gen (R9 := (wzfd9 (σ0.1 93 35) σ0)) ⟨rfl, rfl⟩ (fun σ hz => ?_)
  refine zv_aload_n (j := 0) G dX10_drawnAct_0 rfl rfl ?_
  refine zv_bipush (v := 6) G dX10_drawnAct_1 (by decide) ?_
  refine zv_callVi (as := [za_I 6]) G (by decide) rfl rfl (zc_X10_draws_atx l E (6 : Int32) σ (by decide)) zk_X10_draws zm_1718 rfl ⟨(Nat.le_of_ble_eq_true rfl), (Nat.le_of_ble_eq_true rfl)⟩ ⟨Nat.zero_le _, Nat.zero_le _⟩ (Nat.le_of_ble_eq_true rfl) dX10_drawnAct_3 (fun r_3 σ h_3 => ?_)
  have d_3 := h_3.1
  rw [hz.2] at d_3
  have q_3 : 0 ≤ r_3.toInt ∧ r_3.toInt < 6 := by rw [d_3]; exact wzdd_r _ rfl (by decide)
  have hz := wzfd9_d hz h_3.2
  refine zv_istore_n (lv' := [(1, za_I r_3), (0, za_O 19 93)]) G dX10_drawnAct_6 rfl (by decide) rfl ?_
  refine zv_aload_n (j := 1) G dX10_drawnAct_7 rfl rfl ?_
  refine zv_iconst (v := 2) G dX10_drawnAct_8 (by decide) ?_
  refine zv_callVi (as := [za_I 2]) G (by decide) rfl rfl (zc_X10_draws_atx l E (2 : Int32) σ (by decide)) zk_X10_draws zm_1718 rfl ⟨(Nat.le_of_ble_eq_true rfl), (Nat.le_of_ble_eq_true rfl)⟩ ⟨Nat.zero_le _, Nat.zero_le _⟩ (Nat.le_of_ble_eq_true rfl) dX10_drawnAct_9 (fun r_9 σ h_9 => ?_)
  have d_9 := h_9.1
  rw [hz.2] at d_9
  have q_9 : 0 ≤ r_9.toInt ∧ r_9.toInt < 2 := by rw [d_9]; exact wzdd_r _ rfl (by decide)
  have hz := wzfd9_d hz h_9.2
  refine zv_istore_n (lv' := [(2, za_I r_9), (1, za_I r_3), (0, za_O 19 93)]) G dX10_drawnAct_12 rfl (by decide) rfl ?_
  refine zv_aload_n (j := 2) G dX10_drawnAct_13 rfl rfl ?_
  refine zv_bipush (v := 10) G dX10_drawnAct_14 (by decide) ?_
  refine zv_callVi (as := [za_I 10]) G (by decide) rfl rfl (zc_X10_draws_atx l E (10 : Int32) σ (by decide)) zk_X10_draws zm_1718 rfl ⟨(Nat.le_of_ble_eq_true rfl), (Nat.le_of_ble_eq_true rfl)⟩ ⟨Nat.zero_le _, Nat.zero_le _⟩ (Nat.le_of_ble_eq_true rfl) dX10_drawnAct_16 (fun r_16 σ h_16 => ?_)
  have d_16 := h_16.1
  rw [hz.2] at d_16
  have q_16 : 0 ≤ r_16.toInt ∧ r_16.toInt < 10 := by rw [d_16]; exact wzdd_r _ rfl (by decide)
  have hz := wzfd9_d hz h_16.2
  refine zv_istore_n (lv' := [(3, za_I r_16), (2, za_I r_9), (1, za_I r_3), (0, za_O 19 93)]) G dX10_drawnAct_19 rfl (by decide) rfl ?_
  refine zv_aload_n (j := 3) G dX10_drawnAct_20 rfl rfl ?_
  refine zv_bipush (v := 100) G dX10_drawnAct_21 (by decide) ?_
  refine zv_callVi (as := [za_I 100]) G (by decide) rfl rfl (zc_X10_draws_atx l E (100 : Int32) σ (by decide)) zk_X10_draws zm_1718 rfl ⟨(Nat.le_of_ble_eq_true rfl), (Nat.le_of_ble_eq_true rfl)⟩ ⟨Nat.zero_le _, Nat.zero_le _⟩ (Nat.le_of_ble_eq_true rfl) dX10_drawnAct_23 (fun r_23 σ h_23 => ?_)
  have d_23 := h_23.1
  rw [hz.2] at d_23
  have q_23 : 0 ≤ r_23.toInt ∧ r_23.toInt < 100 := by rw [d_23]; exact wzdd_r _ rfl (by decide)
  have hz := wzfd9_d hz h_23.2
  refine zv_istore (lv' := [(4, za_I r_23), (3, za_I r_16), (2, za_I r_9), (1, za_I r_3), (0, za_O 19 93)]) G dX10_drawnAct_26 (by decide) rfl ?_
  refine zv_bipush (v := 100) G dX10_drawnAct_28 (by decide) ?_
  refine zv_iload (j := 0) G dX10_drawnAct_30 rfl ?_
  refine zv_aload_n (j := 4) G dX10_drawnAct_32 rfl rfl ?_
  refine zv_bipush (v := 20) G dX10_drawnAct_33 (by decide) ?_
  refine zv_callVi (as := [za_I 20]) G (by decide) rfl rfl (zc_X10_draws_atx l E (20 : Int32) σ (by decide)) zk_X10_draws zm_1718 rfl ⟨(Nat.le_of_ble_eq_true rfl), (Nat.le_of_ble_eq_true rfl)⟩ ⟨Nat.zero_le _, Nat.zero_le _⟩ (Nat.le_of_ble_eq_true rfl) dX10_drawnAct_35 (fun r_35 σ h_35 => ?_)
  have d_35 := h_35.1
  rw [hz.2] at d_35
  have q_35 : 0 ≤ r_35.toInt ∧ r_35.toInt < 20 := by rw [d_35]; exact wzdd_r _ rfl (by decide)
  have hz := wzfd9_d hz h_35.2
  refine zv_iadd G dX10_drawnAct_38 ?_
  refine zv_iconst (v := 1) G dX10_drawnAct_39 (by decide) ?_
  refine zv_iadd G dX10_drawnAct_40 ?_
  refine zv_mmin G zm_1358 zm_392 zm_147 zm_393 (Nat.le_of_ble_eq_true rfl) (Nat.le_of_ble_eq_true rfl) (Nat.zero_le _) (Nat.zero_le _) dX10_drawnAct_41 ?_
  refine zv_top (fun x_41 e_41 => ?_)
  have p_41 := wzde_T q_23 q_35 e_41
  refine zv_istore (lv' := [(5, za_I x_41), (4, za_I r_23), (3, za_I r_16), (2, za_I r_9), (1, za_I r_3), (0, za_O 19 93)]) G dX10_drawnAct_44 (by decide) rfl ?_
  refine zv_iload_n (j := 4) G dX10_drawnAct_46 rfl rfl ?_
  rcases Decidable.em (r_3 = 2) with q_47_2 | q_47_2
  · refine zv_tabIn (off := 29) (tgt := 76) G dX10_drawnAct_47 (by rw [q_47_2]; decide) (by rw [q_47_2]; decide) (by rw [q_47_2]; rfl) (by decide) ?_
    refine zv_aload_n (j := 5) G dX10_drawnAct_76 rfl rfl ?_
    refine zv_aload_n (j := 5) G dX10_drawnAct_77 rfl rfl ?_
    refine zg_X10_121 G dX10_drawnAct_78 ?_
    refine zv_iload_n (j := 3) G dX10_drawnAct_81 rfl rfl ?_
    refine zv_iload_n (j := 2) G dX10_drawnAct_82 rfl rfl ?_
    refine zv_aload_n (j := 5) G dX10_drawnAct_83 rfl rfl ?_
    refine zv_bipush (v := 100) G dX10_drawnAct_84 (by decide) ?_
    refine zv_callVi (as := [za_I 100]) G (by decide) rfl rfl (zc_X10_draws_atx l E (100 : Int32) σ (by decide)) zk_X10_draws zm_1718 rfl ⟨(Nat.le_of_ble_eq_true rfl), (Nat.le_of_ble_eq_true rfl)⟩ ⟨Nat.zero_le _, Nat.zero_le _⟩ (Nat.le_of_ble_eq_true rfl) dX10_drawnAct_86 (fun r_86 σ h_86 => ?_)
    have d_86 := h_86.1
    rw [hz.2] at d_86
    have q_86 : 0 ≤ r_86.toInt ∧ r_86.toInt < 100 := by rw [d_86]; exact wzdd_r _ rfl (by decide)
    have hz := wzfd9_d hz h_86.2
    refine zv_iload (j := 1) G dX10_drawnAct_89 rfl ?_
    refine zv_iload (j := 0) G dX10_drawnAct_91 rfl ?_
    refine zv_callVi (as := [za_O 22 100, za_I r_9, za_I r_16, za_I r_86, za_I r_23, za_I x_41]) G (by decide) rfl rfl (zc_X10_setsOne_atx l E 100 r_9 r_16 r_86 r_23 x_41 σ (by decide) (by omega) (by omega) (by rw [hz.1]; exact hV.1) (by omega) (by rw [p_41]; have m_41 := wzmn_b 100 (r_23.toInt + r_35.toInt + 1); omega)) zk_X10_setsOne zm_1407 rfl ⟨(Nat.le_of_ble_eq_true rfl), (Nat.le_of_ble_eq_true rfl)⟩ ⟨Nat.zero_le _, Nat.zero_le _⟩ (Nat.le_of_ble_eq_true rfl) dX10_drawnAct_93 (fun r_93 σ h_93 => ?_)
    obtain ⟨e9, c9⟩ := wzfd9_a (X := wzFset r_9.toInt r_16.toInt 1 r_86.toInt r_23.toInt x_41.toInt) hz h_93
    have v9 := wzFv_set (by omega) (by omega) (Or.inl ⟨rfl, by omega⟩) (by rw [p_41]; have m_41 := wzmn_b 100 (r_23.toInt + r_35.toInt + 1); omega) hV c9
    refine zv_popI G dX10_drawnAct_96 ?_
    refine zv_goto (tgt := 174) G dX10_drawnAct_97 (by decide) ?_
    exact zv_vret G hr dX10_drawnAct_174 (by first | exact ⟨_, wzDw_2 (d_3.symm.trans q_47_2) rfl (by rw [p_41, d_9, d_16, d_23, d_35, d_86] at c9; exact c9), e9, v9⟩ | exact ⟨_, wzDw_3 (d_3.symm.trans q_47_3) rfl (by rw [p_41, d_16, d_23, d_35, d_109] at c9; exact c9), e9, v9⟩ | exact ⟨_, wzDw_4 (d_3.symm.trans q_47_4) rfl (by rw [p_41, d_9, d_16, d_23, d_35] at c9; exact c9), e9, v9⟩ | exact ⟨_, wzDw_5 (d_3.symm.trans q_47_5) rfl (by rw [d_9] at c9; exact c9), e9, v9⟩ | exact ⟨_, wzDw_d (fun z => q_47_2 (d_3.trans z)) (fun z => q_47_3 (d_3.trans z)) (fun z => q_47_4 (d_3.trans z)) (fun z => q_47_5 (d_3.trans z)) rfl (by rw [p_41, d_9, d_16, d_23, d_35, d_163] at c9; exact c9), e9, v9⟩)
  rcases Decidable.em (r_3 = 3) with q_47_3 | q_47_3
  · refine zv_tabIn (off := 53) (tgt := 100) G dX10_drawnAct_47 (by rw [q_47_3]; decide) (by rw [q_47_3]; decide) (by rw [q_47_3]; rfl) (by decide) ?_
    refine zv_aload_n (j := 5) G dX10_drawnAct_100 rfl rfl ?_
    refine zv_aload_n (j := 5) G dX10_drawnAct_101 rfl rfl ?_
    refine zg_X10_121 G dX10_drawnAct_102 ?_
    refine zv_iload_n (j := 2) G dX10_drawnAct_105 rfl rfl ?_
    refine zv_aload_n (j := 5) G dX10_drawnAct_106 rfl rfl ?_
    refine zv_bipush (v := 11) G dX10_drawnAct_107 (by decide) ?_
    refine zv_callVi (as := [za_I 11]) G (by decide) rfl rfl (zc_X10_draws_atx l E (11 : Int32) σ (by decide)) zk_X10_draws zm_1718 rfl ⟨(Nat.le_of_ble_eq_true rfl), (Nat.le_of_ble_eq_true rfl)⟩ ⟨Nat.zero_le _, Nat.zero_le _⟩ (Nat.le_of_ble_eq_true rfl) dX10_drawnAct_109 (fun r_109 σ h_109 => ?_)
    have d_109 := h_109.1
    rw [hz.2] at d_109
    have q_109 : 0 ≤ r_109.toInt ∧ r_109.toInt < 11 := by rw [d_109]; exact wzdd_r _ rfl (by decide)
    have hz := wzfd9_d hz h_109.2
    refine zv_iload (j := 1) G dX10_drawnAct_112 rfl ?_
    refine zv_iload (j := 0) G dX10_drawnAct_114 rfl ?_
    refine zv_callVi (as := [za_O 22 100, za_I r_16, za_I r_109, za_I r_23, za_I x_41]) G (by decide) rfl rfl (zc_X10_refersOne_atx l E 100 r_16 r_109 r_23 x_41 σ (by decide) (by omega) (by rw [hz.1]; exact hV.1) (by omega) (by rw [p_41]; have m_41 := wzmn_b 100 (r_23.toInt + r_35.toInt + 1); omega)) zk_X10_refersOne zm_1430 rfl ⟨(Nat.le_of_ble_eq_true rfl), (Nat.le_of_ble_eq_true rfl)⟩ ⟨Nat.zero_le _, Nat.zero_le _⟩ (Nat.le_of_ble_eq_true rfl) dX10_drawnAct_116 (fun r_116 σ h_116 => ?_)
    obtain ⟨e9, c9⟩ := wzfd9_a (X := wzFref r_16.toInt r_109.toInt r_23.toInt x_41.toInt) hz h_116
    have v9 := wzFv_ref (by omega) (by omega) (by rw [p_41]; have m_41 := wzmn_b 100 (r_23.toInt + r_35.toInt + 1); omega) hV c9
    refine zv_popI G dX10_drawnAct_119 ?_
    refine zv_goto (tgt := 174) G dX10_drawnAct_120 (by decide) ?_
    exact zv_vret G hr dX10_drawnAct_174 (by first | exact ⟨_, wzDw_2 (d_3.symm.trans q_47_2) rfl (by rw [p_41, d_9, d_16, d_23, d_35, d_86] at c9; exact c9), e9, v9⟩ | exact ⟨_, wzDw_3 (d_3.symm.trans q_47_3) rfl (by rw [p_41, d_16, d_23, d_35, d_109] at c9; exact c9), e9, v9⟩ | exact ⟨_, wzDw_4 (d_3.symm.trans q_47_4) rfl (by rw [p_41, d_9, d_16, d_23, d_35] at c9; exact c9), e9, v9⟩ | exact ⟨_, wzDw_5 (d_3.symm.trans q_47_5) rfl (by rw [d_9] at c9; exact c9), e9, v9⟩ | exact ⟨_, wzDw_d (fun z => q_47_2 (d_3.trans z)) (fun z => q_47_3 (d_3.trans z)) (fun z => q_47_4 (d_3.trans z)) (fun z => q_47_5 (d_3.trans z)) rfl (by rw [p_41, d_9, d_16, d_23, d_35, d_163] at c9; exact c9), e9, v9⟩)
  rcases Decidable.em (r_3 = 4) with q_47_4 | q_47_4
  · refine zv_tabIn (off := 76) (tgt := 123) G dX10_drawnAct_47 (by rw [q_47_4]; decide) (by rw [q_47_4]; decide) (by rw [q_47_4]; rfl) (by decide) ?_
    refine zv_aload_n (j := 5) G dX10_drawnAct_123 rfl rfl ?_
    refine zv_aload_n (j := 5) G dX10_drawnAct_124 rfl rfl ?_
    refine zg_X10_121 G dX10_drawnAct_125 ?_
    refine zv_iload_n (j := 3) G dX10_drawnAct_128 rfl rfl ?_
    refine zv_iload_n (j := 2) G dX10_drawnAct_129 rfl rfl ?_
    refine zv_iload (j := 1) G dX10_drawnAct_130 rfl ?_
    refine zv_iload (j := 0) G dX10_drawnAct_132 rfl ?_
    refine zv_callVi (as := [za_O 22 100, za_I r_9, za_I r_16, za_I r_23, za_I x_41]) G (by decide) rfl rfl (zc_X10_cutsOne_atx l E 100 r_9 r_16 r_23 x_41 σ (by decide) (by omega) (by omega) (by rw [hz.1]; exact hV.1) (by rw [p_41]; have m_41 := wzmn_b 100 (r_23.toInt + r_35.toInt + 1); omega) (by rw [hz.1]; exact hV.2)) zk_X10_cutsOne zm_1442 rfl ⟨(Nat.le_of_ble_eq_true rfl), (Nat.le_of_ble_eq_true rfl)⟩ ⟨Nat.zero_le _, Nat.zero_le _⟩ (Nat.le_of_ble_eq_true rfl) dX10_drawnAct_134 (fun r_134 σ h_134 => ?_)
    obtain ⟨e9, c9⟩ := wzfd9_a (X := wzFcut r_9.toInt r_16.toInt r_23.toInt x_41.toInt) hz h_134
    have v9 := wzFv_cut (by omega) (by omega) hV c9
    refine zv_popI G dX10_drawnAct_137 ?_
    refine zv_goto (tgt := 174) G dX10_drawnAct_138 (by decide) ?_
    exact zv_vret G hr dX10_drawnAct_174 (by first | exact ⟨_, wzDw_2 (d_3.symm.trans q_47_2) rfl (by rw [p_41, d_9, d_16, d_23, d_35, d_86] at c9; exact c9), e9, v9⟩ | exact ⟨_, wzDw_3 (d_3.symm.trans q_47_3) rfl (by rw [p_41, d_16, d_23, d_35, d_109] at c9; exact c9), e9, v9⟩ | exact ⟨_, wzDw_4 (d_3.symm.trans q_47_4) rfl (by rw [p_41, d_9, d_16, d_23, d_35] at c9; exact c9), e9, v9⟩ | exact ⟨_, wzDw_5 (d_3.symm.trans q_47_5) rfl (by rw [d_9] at c9; exact c9), e9, v9⟩ | exact ⟨_, wzDw_d (fun z => q_47_2 (d_3.trans z)) (fun z => q_47_3 (d_3.trans z)) (fun z => q_47_4 (d_3.trans z)) (fun z => q_47_5 (d_3.trans z)) rfl (by rw [p_41, d_9, d_16, d_23, d_35, d_163] at c9; exact c9), e9, v9⟩)
  rcases Decidable.em (r_3 = 5) with q_47_5 | q_47_5
  · refine zv_tabIn (off := 94) (tgt := 141) G dX10_drawnAct_47 (by rw [q_47_5]; decide) (by rw [q_47_5]; decide) (by rw [q_47_5]; rfl) (by decide) ?_
    refine zv_aload_n (j := 5) G dX10_drawnAct_141 rfl rfl ?_
    refine zg_X10_121 G dX10_drawnAct_142 ?_
    refine zv_iload_n (j := 3) G dX10_drawnAct_145 rfl rfl ?_
    refine zv_callSi (as := [za_O 22 100, za_I r_9]) G (zc_X10_joinsAll_atx l E 100 r_9 σ (by decide) (by omega) (by rw [hz.1]; exact hV.1)) zk_X10_joinsAll zm_1467 rfl ⟨(Nat.le_of_ble_eq_true rfl), (Nat.le_of_ble_eq_true rfl)⟩ ⟨Nat.zero_le _, Nat.zero_le _⟩ (Nat.le_of_ble_eq_true rfl) dX10_drawnAct_146 (fun r_146 σ h_146 => ?_)
    obtain ⟨e9, c9⟩ := wzfd9_j hz h_146
    have v9 := wzFv_jo (by omega) hV c9
    refine zv_popI G dX10_drawnAct_149 ?_
    refine zv_goto (tgt := 174) G dX10_drawnAct_150 (by decide) ?_
    exact zv_vret G hr dX10_drawnAct_174 (by first | exact ⟨_, wzDw_2 (d_3.symm.trans q_47_2) rfl (by rw [p_41, d_9, d_16, d_23, d_35, d_86] at c9; exact c9), e9, v9⟩ | exact ⟨_, wzDw_3 (d_3.symm.trans q_47_3) rfl (by rw [p_41, d_16, d_23, d_35, d_109] at c9; exact c9), e9, v9⟩ | exact ⟨_, wzDw_4 (d_3.symm.trans q_47_4) rfl (by rw [p_41, d_9, d_16, d_23, d_35] at c9; exact c9), e9, v9⟩ | exact ⟨_, wzDw_5 (d_3.symm.trans q_47_5) rfl (by rw [d_9] at c9; exact c9), e9, v9⟩ | exact ⟨_, wzDw_d (fun z => q_47_2 (d_3.trans z)) (fun z => q_47_3 (d_3.trans z)) (fun z => q_47_4 (d_3.trans z)) (fun z => q_47_5 (d_3.trans z)) rfl (by rw [p_41, d_9, d_16, d_23, d_35, d_163] at c9; exact c9), e9, v9⟩)
  have n_47_0 := lv_neT q_47_2 (a := 2) rfl
  have n_47_1 := lv_neT q_47_3 (a := 3) rfl
  have n_47_2 := lv_neT q_47_4 (a := 4) rfl
  have n_47_3 := lv_neT q_47_5 (a := 5) rfl
  refine zv_tabOut (tgt := 153) G dX10_drawnAct_47 (by omega) (by decide) ?_
  refine zv_aload_n (j := 5) G dX10_drawnAct_153 rfl rfl ?_
  refine zv_aload_n (j := 5) G dX10_drawnAct_154 rfl rfl ?_
  refine zg_X10_121 G dX10_drawnAct_155 ?_
  refine zv_iload_n (j := 3) G dX10_drawnAct_158 rfl rfl ?_
  refine zv_iload_n (j := 2) G dX10_drawnAct_159 rfl rfl ?_
  refine zv_aload_n (j := 5) G dX10_drawnAct_160 rfl rfl ?_
  refine zv_bipush (v := 100) G dX10_drawnAct_161 (by decide) ?_
  refine zv_callVi (as := [za_I 100]) G (by decide) rfl rfl (zc_X10_draws_atx l E (100 : Int32) σ (by decide)) zk_X10_draws zm_1718 rfl ⟨(Nat.le_of_ble_eq_true rfl), (Nat.le_of_ble_eq_true rfl)⟩ ⟨Nat.zero_le _, Nat.zero_le _⟩ (Nat.le_of_ble_eq_true rfl) dX10_drawnAct_163 (fun r_163 σ h_163 => ?_)
  have d_163 := h_163.1
  rw [hz.2] at d_163
  have q_163 : 0 ≤ r_163.toInt ∧ r_163.toInt < 100 := by rw [d_163]; exact wzdd_r _ rfl (by decide)
  have hz := wzfd9_d hz h_163.2
  refine zv_iload (j := 1) G dX10_drawnAct_166 rfl ?_
  refine zv_iload (j := 0) G dX10_drawnAct_168 rfl ?_
  refine zv_callVi (as := [za_O 22 100, za_I r_9, za_I r_16, za_I r_163, za_I r_23, za_I x_41]) G (by decide) rfl rfl (zc_X10_addsOne_atx l E 100 r_9 r_16 r_163 r_23 x_41 σ (by decide) (by omega) (by omega) (by omega) (by rw [p_41]; have m_41 := wzmn_b 100 (r_23.toInt + r_35.toInt + 1); omega)) zk_X10_addsOne zm_1371 rfl ⟨(Nat.le_of_ble_eq_true rfl), (Nat.le_of_ble_eq_true rfl)⟩ ⟨Nat.zero_le _, Nat.zero_le _⟩ (Nat.le_of_ble_eq_true rfl) dX10_drawnAct_170 (fun r_170 σ h_170 => ?_)
  obtain ⟨e9, c9⟩ := wzfd9_a (X := wzFadd r_9.toInt r_16.toInt r_163.toInt r_23.toInt x_41.toInt) hz h_170
  have v9 := wzFv_add (by omega) (by omega) (by omega) hV c9
  refine zv_popI G dX10_drawnAct_173 ?_
  exact zv_vret G hr dX10_drawnAct_174 (by first | exact ⟨_, wzDw_2 (d_3.symm.trans q_47_2) rfl (by rw [p_41, d_9, d_16, d_23, d_35, d_86] at c9; exact c9), e9, v9⟩ | exact ⟨_, wzDw_3 (d_3.symm.trans q_47_3) rfl (by rw [p_41, d_16, d_23, d_35, d_109] at c9; exact c9), e9, v9⟩ | exact ⟨_, wzDw_4 (d_3.symm.trans q_47_4) rfl (by rw [p_41, d_9, d_16, d_23, d_35] at c9; exact c9), e9, v9⟩ | exact ⟨_, wzDw_5 (d_3.symm.trans q_47_5) rfl (by rw [d_9] at c9; exact c9), e9, v9⟩ | exact ⟨_, wzDw_d (fun z => q_47_2 (d_3.trans z)) (fun z => q_47_3 (d_3.trans z)) (fun z => q_47_4 (d_3.trans z)) (fun z => q_47_5 (d_3.trans z)) rfl (by rw [p_41, d_9, d_16, d_23, d_35, d_163] at c9; exact c9), e9, v9⟩)
set_option maxHeartbeats 4000000 in
set_option maxRecDepth 100000 in
theorem zc_X10_years_atx (l : Launch) (E : za_E) (sd : Int32) (nn : Int32) (σ0 : za_S) (h0 : ∀ i, i < 2001 → σ0.1 99 i = 0) : zMi l E yX10_years cX10_years 8 (Option.some Jvm.ClassFile.FieldType.int) 9 222 [za_O 19 93, za_I sd, za_I nn] σ0 (fun r σ' => wzyF nn sd r.toInt) := by
  refine zMi_of [(0, za_O 19 93), (1, za_I sd), (2, za_I nn)] (by decide) rfl rfl (Nat.le_of_ble_eq_true rfl) ?_
  intro ho p e s m args below meth c G hr
  refine zv_gen (R9 := (fun σ => σ = σ0)) rfl (fun σ hz => ?_)
  refine zv_aload_n (j := 0) G dX10_years_0 rfl rfl ?_
  refine zv_iconst (v := 0) G dX10_years_1 (by decide) ?_
  refine zp_X10_3 G dX10_years_2 ?_
  refine zv_gen (R9 := (fun σ => σ.1 99 = σ0.1 99)) (by rw [hz]; exact (za_si_off 99 (by decide)).1) (fun σ hz => ?_)
  refine zv_iload_n (j := 2) G dX10_years_5 rfl rfl ?_
  refine zv_i2l G dX10_years_6 ?_
  refine zv_lconst (v := 1) G dX10_years_7 (by decide) ?_
  refine zv_ldc2 (v := 40) G dX10_years_8 zm_1713 ?_
  refine zv_callSi (as := [za_L nn.toInt64, za_L 1, za_L 40]) G (zc_X10_in l E nn.toInt64 1 40 σ ) zk_X10_in zm_1184 rfl ⟨(Nat.le_of_ble_eq_true rfl), (Nat.le_of_ble_eq_true rfl)⟩ ⟨Nat.zero_le _, Nat.zero_le _⟩ (Nat.le_of_ble_eq_true rfl) dX10_years_11 (fun r_11 σ h_11 => ?_)
  obtain ⟨h_11, rfl⟩ := h_11
  refine zv_if_ne (tgt := 19) G dX10_years_14 (by decide) (fun c_14 => ?_) (fun c_14 => ?_)
  · have t_11 := h_11.2.mp c_14
    have r_14 : 1 ≤ nn.toInt ∧ nn.toInt ≤ 40 := by have h9 := t_11; rw [z_w] at h9; have hL := z_lL; omega
    refine zv_aload_n (j := 0) G dX10_years_19 rfl rfl ?_
    refine zv_iload_n (j := 1) G dX10_years_20 rfl rfl ?_
    refine zp_X10_419 G dX10_years_21 ?_
    refine zv_gen (R9 := (fun σ => σ.1 99 = σ0.1 99 ∧ σ.1 93 35 = sd)) ⟨by rw [(za_si_off 99 (by decide)).1]; exact hz, za_si_same _ _ _ _⟩ (fun σ hz => ?_)
    refine zv_aload_n (j := 0) G dX10_years_24 rfl rfl ?_
    refine zv_callVv (as := []) G (by decide) rfl rfl (zc_X10_copies l E  σ ) zk_X10_copies zm_1560 rfl ⟨(Nat.le_of_ble_eq_true rfl), (Nat.le_of_ble_eq_true rfl)⟩ ⟨Nat.zero_le _, Nat.zero_le _⟩ (Nat.le_of_ble_eq_true rfl) dX10_years_25 (fun σ h_25 => ?_)
    have hz : wzYl sd 0 σ0 σ := wzYl_0 (fun i hi => by rw [hz.1]; exact h0 i hi) hz.2 h_25
    refine zv_iconst (v := 0) G dX10_years_28 (by decide) ?_
    have J_30 : ∀ (n : Nat) (y3_30 : Int32) (σ : za_S) (hz : wzYl sd y3_30.toInt.toNat σ0 σ) (g_30 : y3_30.toInt ≤ nn.toInt) (i3_30 : 0 ≤ y3_30.toInt) (hn_30 : (2147483648 - y3_30.toInt).toNat < n), zV p l e (zRm 9 222) s m args below meth c E (za_A E) 8 0 0 (MQ below (va_Qi (fun r σ' => wzyF nn sd r.toInt) (zB E) (za_A E)) args s 0 0 (za_A E)) 30 [(0, za_O 19 93), (2, za_I nn), (3, za_I y3_30)] [] σ := by
      intro n
      induction n with
      | zero => intro y3_30 σ hz g_30 i3_30 hn; exact absurd hn (Nat.not_lt_zero _)
      | succ n ih_30 =>
        intro y3_30 σ hz g_30 i3_30 hn_30
        refine zv_iload_n (j := 2) G dX10_years_30 rfl rfl ?_
        refine zv_iload_n (j := 1) G dX10_years_31 rfl rfl ?_
        refine zv_icmp_ge (tgt := 45) G dX10_years_32 (by decide) (fun c_32 => ?_) (fun c_32 => ?_)
        · have k_32 := z_cle c_32 (a := nn.toInt) (b := y3_30.toInt) rfl rfl
          refine zv_lconst (v := 0) G dX10_years_45 (by decide) ?_
          refine zv_lstore_n (lv' := [(3, za_L 0), (0, za_O 19 93), (2, za_I nn)]) G dX10_years_46 rfl (by decide) rfl ?_
          refine zv_iconst (v := 0) G dX10_years_47 (by decide) ?_
          have J_50 : ∀ (n : Nat) (y3_50 : Int64) (y5_50 : Int32) (σ : za_S) (hz : wzYl sd y3_30.toInt.toNat σ0 σ) (i5_50 : 0 ≤ y5_50.toInt) (u5_50 : y5_50.toInt ≤ 2) (hn_50 : (2147483648 - y5_50.toInt).toNat < n), zV p l e (zRm 9 222) s m args below meth c E (za_A E) 8 0 0 (MQ below (va_Qi (fun r σ' => wzyF nn sd r.toInt) (zB E) (za_A E)) args s 0 0 (za_A E)) 50 [(0, za_O 19 93), (3, za_L y3_50), (5, za_I y5_50)] [] σ := by
            intro n
            induction n with
            | zero => intro y3_50 y5_50 σ hz i5_50 u5_50 hn; exact absurd hn (Nat.not_lt_zero _)
            | succ n ih_50 =>
              intro y3_50 y5_50 σ hz i5_50 u5_50 hn_50
              refine zv_iload (j := 2) G dX10_years_50 rfl ?_
              refine zv_iconst (v := 2) G dX10_years_52 (by decide) ?_
              refine zv_icmp_ge (tgt := 134) G dX10_years_53 (by decide) (fun c_53 => ?_) (fun c_53 => ?_)
              · have k_53 := z_cle c_53 (a := 2) (b := y5_50.toInt) rfl rfl
                refine zv_aload_n (j := 0) G dX10_years_134 rfl rfl ?_
                refine zv_iconst (v := 0) G dX10_years_135 (by decide) ?_
                refine zp_X10_15 G dX10_years_136 ?_
                refine zv_gen (R9 := (fun σ => wzYl sd y3_30.toInt.toNat σ0 σ ∧ σ.1 93 1 = 0)) ⟨wzYl_e hz (za_si_off 100 (by decide)).1 (za_si_ne _ _ (Or.inr (by decide))), za_si_same _ _ _ _⟩ (fun σ hz => ?_)
                refine zv_aload_n (j := 0) G dX10_years_139 rfl rfl ?_
                refine zv_aload_n (j := 0) G dX10_years_140 rfl rfl ?_
                refine zg_X10_121 G dX10_years_141 ?_
                refine zv_iconst (v := 0) G dX10_years_144 (by decide) ?_
                refine zv_callSi (as := [za_O 22 100, za_I 0]) G (zc_X10_daysOf l E 100 (0 : Int32) σ (by first | assumption | decide | omega)) zk_X10_daysOf zm_1564 rfl ⟨(Nat.le_of_ble_eq_true rfl), (Nat.le_of_ble_eq_true rfl)⟩ ⟨Nat.zero_le _, Nat.zero_le _⟩ (Nat.le_of_ble_eq_true rfl) dX10_years_145 (fun r_145 σ h_145 => ?_)
                subst h_145
                refine zv_aload_n (j := 0) G dX10_years_148 rfl rfl ?_
                refine zg_X10_121 G dX10_years_149 ?_
                refine zv_iconst (v := 1) G dX10_years_152 (by decide) ?_
                refine zv_callSi (as := [za_O 22 100, za_I 1]) G (zc_X10_daysOf l E 100 (1 : Int32) σ (by first | assumption | decide | omega)) zk_X10_daysOf zm_1564 rfl ⟨(Nat.le_of_ble_eq_true rfl), (Nat.le_of_ble_eq_true rfl)⟩ ⟨Nat.zero_le _, Nat.zero_le _⟩ (Nat.le_of_ble_eq_true rfl) dX10_years_153 (fun r_153 σ h_153 => ?_)
                subst h_153
                refine zv_iadd G dX10_years_156 ?_
                refine zv_i2l G dX10_years_157 ?_
                refine zv_callVv (as := [za_L ((r_145 + r_153).toInt64)]) G (by decide) rfl rfl (zc_X10_enters l E ((r_145 + r_153).toInt64) σ (by rw [hz.2]; decide)) zk_X10_enters zm_1422 rfl ⟨(Nat.le_of_ble_eq_true rfl), (Nat.le_of_ble_eq_true rfl)⟩ ⟨Nat.zero_le _, Nat.zero_le _⟩ (Nat.le_of_ble_eq_true rfl) dX10_years_158 (fun σ h_158 => ?_)
                have hz := wzye_1 hz h_158
                refine zv_aload_n (j := 0) G dX10_years_161 rfl rfl ?_
                refine zv_lload_n (j := 1) G dX10_years_162 rfl rfl ?_
                refine zv_callVv (as := [za_L y3_50]) G (by decide) rfl rfl (zc_X10_enters l E y3_50 σ (by rw [hz.2]; decide)) zk_X10_enters zm_1422 rfl ⟨(Nat.le_of_ble_eq_true rfl), (Nat.le_of_ble_eq_true rfl)⟩ ⟨Nat.zero_le _, Nat.zero_le _⟩ (Nat.le_of_ble_eq_true rfl) dX10_years_163 (fun σ h_163 => ?_)
                have hz := wzye_2 hz h_163
                refine zv_aload_n (j := 0) G dX10_years_166 rfl rfl ?_
                refine zg_X10_121 G dX10_years_167 ?_
                refine zv_iconst (v := 0) G dX10_years_170 (by decide) ?_
                refine zv_callSi (as := [za_O 22 100, za_I 0]) G (zc_X10_rowsOf l E 100 (0 : Int32) σ (by first | assumption | decide | omega)) zk_X10_rowsOf zm_1352 rfl ⟨(Nat.le_of_ble_eq_true rfl), (Nat.le_of_ble_eq_true rfl)⟩ ⟨Nat.zero_le _, Nat.zero_le _⟩ (Nat.le_of_ble_eq_true rfl) dX10_years_171 (fun r_171 σ h_171 => ?_)
                obtain ⟨h_171, rfl⟩ := h_171
                refine zv_aload_n (j := 0) G dX10_years_174 rfl rfl ?_
                refine zg_X10_121 G dX10_years_175 ?_
                refine zv_iconst (v := 1) G dX10_years_178 (by decide) ?_
                refine zv_callSi (as := [za_O 22 100, za_I 1]) G (zc_X10_rowsOf l E 100 (1 : Int32) σ (by first | assumption | decide | omega)) zk_X10_rowsOf zm_1352 rfl ⟨(Nat.le_of_ble_eq_true rfl), (Nat.le_of_ble_eq_true rfl)⟩ ⟨Nat.zero_le _, Nat.zero_le _⟩ (Nat.le_of_ble_eq_true rfl) dX10_years_179 (fun r_179 σ h_179 => ?_)
                obtain ⟨h_179, rfl⟩ := h_179
                refine zv_iadd G dX10_years_182 ?_
                exact zv_iret G hr dX10_years_183 (wzYl_f r_14 (by omega) hz.1 h_171 h_179)
              · have b_53 : 0 ≤ y5_50.toInt ∧ y5_50.toInt < 2 := ⟨i5_50, z_ltk c_53 rfl⟩
                have k_53 := z_cnle c_53 (a := 2) (b := y5_50.toInt) rfl rfl
                refine zv_iconst (v := 0) G dX10_years_56 (by decide) ?_
                have J_59 : ∀ (n : Nat) (y3_59 : Int64) (y6_59 : Int32) (σ : za_S) (hz : wzYl sd y3_30.toInt.toNat σ0 σ) (i6_59 : 0 ≤ y6_59.toInt) (u6_59 : y6_59.toInt ≤ 10) (hn_59 : (2147483648 - y6_59.toInt).toNat < n), zV p l e (zRm 9 222) s m args below meth c E (za_A E) 8 0 0 (MQ below (va_Qi (fun r σ' => wzyF nn sd r.toInt) (zB E) (za_A E)) args s 0 0 (za_A E)) 59 [(0, za_O 19 93), (3, za_L y3_59), (5, za_I y5_50), (6, za_I y6_59)] [] σ := by
                  intro n
                  induction n with
                  | zero => intro y3_59 y6_59 σ hz i6_59 u6_59 hn; exact absurd hn (Nat.not_lt_zero _)
                  | succ n ih_59 =>
                    intro y3_59 y6_59 σ hz i6_59 u6_59 hn_59
                    refine zv_iload (j := 3) G dX10_years_59 rfl ?_
                    refine zv_bipush (v := 10) G dX10_years_61 (by decide) ?_
                    refine zv_icmp_ge (tgt := 128) G dX10_years_63 (by decide) (fun c_63 => ?_) (fun c_63 => ?_)
                    · have k_63 := z_cle c_63 (a := 10) (b := y6_59.toInt) rfl rfl
                      obtain ⟨x_128, e_128⟩ : ∃ y : Int32, y = y5_50 + 1 := ⟨_, rfl⟩
                      refine zv_iinc (j := 2) (v := x_128) (lv' := [(5, za_I x_128), (0, za_O 19 93), (3, za_L y3_59), (6, za_I y6_59)]) G dX10_years_128 rfl (by rw [e_128]; rfl) (by decide) rfl ?_
                      first | have q_128 := z_inc9 (by omega) e_128 | skip
                      refine zv_goto (tgt := 50) G dX10_years_131 (by decide) ?_
                      refine zv_sub [1, 2, 0] (lv' := [(0, za_O 19 93), (3, za_L y3_59), (5, za_I x_128)]) rfl ?_
                      exact ih_50 y3_59 x_128 σ hz (by have := z_inc c_53 e_128; omega) (by have := z_inc9 (by omega) e_128; omega) (z_meas c_53 e_128 hn_50)
                    · have b_63 : 0 ≤ y6_59.toInt ∧ y6_59.toInt < 10 := ⟨i6_59, z_ltk c_63 rfl⟩
                      have k_63 := z_cnle c_63 (a := 10) (b := y6_59.toInt) rfl rfl
                      refine zv_iconst (v := 0) G dX10_years_66 (by decide) ?_
                      have J_69 : ∀ (n : Nat) (y3_69 : Int64) (y7_69 : Int32) (σ : za_S) (hz : wzYl sd y3_30.toInt.toNat σ0 σ) (i7_69 : 0 ≤ y7_69.toInt) (u7_69 : y7_69.toInt ≤ 100) (hn_69 : (2147483648 - y7_69.toInt).toNat < n), zV p l e (zRm 9 222) s m args below meth c E (za_A E) 8 0 0 (MQ below (va_Qi (fun r σ' => wzyF nn sd r.toInt) (zB E) (za_A E)) args s 0 0 (za_A E)) 69 [(0, za_O 19 93), (3, za_L y3_69), (5, za_I y5_50), (6, za_I y6_59), (7, za_I y7_69)] [] σ := by
                        intro n
                        induction n with
                        | zero => intro y3_69 y7_69 σ hz i7_69 u7_69 hn; exact absurd hn (Nat.not_lt_zero _)
                        | succ n ih_69 =>
                          intro y3_69 y7_69 σ hz i7_69 u7_69 hn_69
                          refine zv_iload (j := 4) G dX10_years_69 rfl ?_
                          refine zv_bipush (v := 100) G dX10_years_71 (by decide) ?_
                          refine zv_icmp_ge (tgt := 122) G dX10_years_73 (by decide) (fun c_73 => ?_) (fun c_73 => ?_)
                          · have k_73 := z_cle c_73 (a := 100) (b := y7_69.toInt) rfl rfl
                            obtain ⟨x_122, e_122⟩ : ∃ y : Int32, y = y6_59 + 1 := ⟨_, rfl⟩
                            refine zv_iinc (j := 3) (v := x_122) (lv' := [(6, za_I x_122), (0, za_O 19 93), (3, za_L y3_69), (5, za_I y5_50), (7, za_I y7_69)]) G dX10_years_122 rfl (by rw [e_122]; rfl) (by decide) rfl ?_
                            first | have q_122 := z_inc9 (by omega) e_122 | skip
                            refine zv_goto (tgt := 59) G dX10_years_125 (by decide) ?_
                            refine zv_sub [1, 2, 3, 0] (lv' := [(0, za_O 19 93), (3, za_L y3_69), (5, za_I y5_50), (6, za_I x_122)]) rfl ?_
                            exact ih_59 y3_69 x_122 σ hz (by have := z_inc c_63 e_122; omega) (by have := z_inc9 (by omega) e_122; omega) (z_meas c_63 e_122 hn_59)
                          · have b_73 : 0 ≤ y7_69.toInt ∧ y7_69.toInt < 100 := ⟨i7_69, z_ltk c_73 rfl⟩
                            have k_73 := z_cnle c_73 (a := 100) (b := y7_69.toInt) rfl rfl
                            refine zv_lload_n (j := 1) G dX10_years_76 rfl rfl ?_
                            refine zv_aload_n (j := 0) G dX10_years_77 rfl rfl ?_
                            refine zg_X10_121 G dX10_years_78 ?_
                            refine zv_iload (j := 2) G dX10_years_81 rfl ?_
                            refine zv_iload (j := 3) G dX10_years_83 rfl ?_
                            refine zv_iload (j := 4) G dX10_years_85 rfl ?_
                            refine zv_callSi (as := [za_O 22 100, za_I y5_50, za_I y6_59, za_I y7_69]) G (zc_X10_begins l E 100 y5_50 y6_59 y7_69 σ (by first | assumption | decide | omega) (by first | assumption | decide | omega)) zk_X10_begins zm_1321 rfl ⟨(Nat.le_of_ble_eq_true rfl), (Nat.le_of_ble_eq_true rfl)⟩ ⟨Nat.zero_le _, Nat.zero_le _⟩ (Nat.le_of_ble_eq_true rfl) dX10_years_87 (fun r_87 σ h_87 => ?_)
                            obtain ⟨h_87, rfl⟩ := h_87
                            refine zv_if_eq (tgt := 113) G dX10_years_90 (by decide) (fun c_90 => ?_) (fun c_90 => ?_)
                            · have f_87 := fun q9 => (h_87.2.mpr q9) c_90
                              refine zv_lconst (v := 0) G dX10_years_113 (by decide) ?_
                              refine zv_ladd G dX10_years_114 ?_
                              refine zv_topl (fun x_115 e_115 => ?_)
                              refine zv_lstore_n (lv' := [(3, za_L x_115), (0, za_O 19 93), (5, za_I y5_50), (6, za_I y6_59), (7, za_I y7_69)]) G dX10_years_115 rfl (by decide) rfl ?_
                              obtain ⟨x_116, e_116⟩ : ∃ y : Int32, y = y7_69 + 1 := ⟨_, rfl⟩
                              refine zv_iinc (j := 4) (v := x_116) (lv' := [(7, za_I x_116), (3, za_L x_115), (0, za_O 19 93), (5, za_I y5_50), (6, za_I y6_59)]) G dX10_years_116 rfl (by rw [e_116]; rfl) (by decide) rfl ?_
                              first | have q_116 := z_inc9 (by omega) e_116 | skip
                              refine zv_goto (tgt := 69) G dX10_years_119 (by decide) ?_
                              refine zv_sub [2, 1, 3, 4, 0] (lv' := [(0, za_O 19 93), (3, za_L x_115), (5, za_I y5_50), (6, za_I y6_59), (7, za_I x_116)]) rfl ?_
                              exact ih_69 x_115 x_116 σ hz (by have := z_inc c_73 e_116; omega) (by have := z_inc9 (by omega) e_116; omega) (z_meas c_73 e_116 hn_69)
                            · have t_87 := h_87.2.mp c_90
                              refine zv_iload (j := 4) G dX10_years_93 rfl ?_
                              refine zv_aload_n (j := 0) G dX10_years_95 rfl rfl ?_
                              refine zg_X10_121 G dX10_years_96 ?_
                              refine zv_iload (j := 2) G dX10_years_99 rfl ?_
                              refine zv_iload (j := 3) G dX10_years_101 rfl ?_
                              refine zv_iload (j := 4) G dX10_years_103 rfl ?_
                              refine zv_callSi (as := [za_O 22 100, za_I y5_50, za_I y6_59, za_I y7_69]) G (zc_X10_valueOn l E 100 y5_50 y6_59 y7_69 σ (by omega) (by omega) (by omega)) zk_X10_valueOn zm_1338 rfl ⟨(Nat.le_of_ble_eq_true rfl), (Nat.le_of_ble_eq_true rfl)⟩ ⟨Nat.zero_le _, Nat.zero_le _⟩ (Nat.le_of_ble_eq_true rfl) dX10_years_105 (fun r_105 σ h_105 => ?_)
                              obtain ⟨h_105, rfl⟩ := h_105
                              refine zv_imul G dX10_years_108 ?_
                              refine zv_i2l G dX10_years_109 ?_
                              refine zv_goto (tgt := 114) G dX10_years_110 (by decide) ?_
                              refine zv_ladd G dX10_years_114 ?_
                              refine zv_topl (fun x_115 e_115 => ?_)
                              refine zv_lstore_n (lv' := [(3, za_L x_115), (0, za_O 19 93), (5, za_I y5_50), (6, za_I y6_59), (7, za_I y7_69)]) G dX10_years_115 rfl (by decide) rfl ?_
                              obtain ⟨x_116, e_116⟩ : ∃ y : Int32, y = y7_69 + 1 := ⟨_, rfl⟩
                              refine zv_iinc (j := 4) (v := x_116) (lv' := [(7, za_I x_116), (3, za_L x_115), (0, za_O 19 93), (5, za_I y5_50), (6, za_I y6_59)]) G dX10_years_116 rfl (by rw [e_116]; rfl) (by decide) rfl ?_
                              first | have q_116 := z_inc9 (by omega) e_116 | skip
                              refine zv_goto (tgt := 69) G dX10_years_119 (by decide) ?_
                              refine zv_sub [2, 1, 3, 4, 0] (lv' := [(0, za_O 19 93), (3, za_L x_115), (5, za_I y5_50), (6, za_I y6_59), (7, za_I x_116)]) rfl ?_
                              exact ih_69 x_115 x_116 σ hz (by have := z_inc c_73 e_116; omega) (by have := z_inc9 (by omega) e_116; omega) (z_meas c_73 e_116 hn_69)
                      refine zv_istore (lv' := [(7, za_I 0), (0, za_O 19 93), (3, za_L y3_59), (5, za_I y5_50), (6, za_I y6_59)]) G dX10_years_67 (by decide) rfl ?_
                      refine zv_sub [1, 2, 3, 4, 0] (lv' := [(0, za_O 19 93), (3, za_L y3_59), (5, za_I y5_50), (6, za_I y6_59), (7, za_I 0)]) rfl ?_
                      exact J_69 _ y3_59 (0 : Int32) σ hz (by decide) (by decide) (Nat.lt_succ_self _)
                refine zv_istore (lv' := [(6, za_I 0), (0, za_O 19 93), (3, za_L y3_50), (5, za_I y5_50)]) G dX10_years_57 (by decide) rfl ?_
                refine zv_sub [1, 2, 3, 0] (lv' := [(0, za_O 19 93), (3, za_L y3_50), (5, za_I y5_50), (6, za_I 0)]) rfl ?_
                exact J_59 _ y3_50 (0 : Int32) σ hz (by decide) (by decide) (Nat.lt_succ_self _)
          refine zv_istore (lv' := [(5, za_I 0), (3, za_L 0), (0, za_O 19 93), (2, za_I nn)]) G dX10_years_48 (by decide) rfl ?_
          refine zv_sub [2, 1, 0] (lv' := [(0, za_O 19 93), (3, za_L 0), (5, za_I 0)]) rfl ?_
          exact J_50 _ 0 (0 : Int32) σ hz (by decide) (by decide) (Nat.lt_succ_self _)
        · have k_32 := z_cnle c_32 (a := nn.toInt) (b := y3_30.toInt) rfl rfl
          refine zv_aload_n (j := 0) G dX10_years_35 rfl rfl ?_
          obtain ⟨R9, f9, z1, z2, z3, z4⟩ := hz
          have hz : wzYl sd y3_30.toInt.toNat σ0 σ ∧ wzFv (σ.1 100) := ⟨⟨R9, f9, z1, z2, z3, z4⟩, z4⟩
          refine zv_callVv (as := []) G (by decide) rfl rfl (zc_X10_drawnAct_atx l E  σ hz.2) zk_X10_drawnAct zm_1714 rfl ⟨(Nat.le_of_ble_eq_true rfl), (Nat.le_of_ble_eq_true rfl)⟩ ⟨Nat.zero_le _, Nat.zero_le _⟩ (Nat.le_of_ble_eq_true rfl) dX10_years_36 (fun σ h_36 => ?_)
          have hz := wzYl_s hz.1 h_36
          obtain ⟨x_39, e_39⟩ : ∃ y : Int32, y = y3_30 + 1 := ⟨_, rfl⟩
          refine zv_iinc (j := 2) (v := x_39) (lv' := [(3, za_I x_39), (0, za_O 19 93), (2, za_I nn)]) G dX10_years_39 rfl (by rw [e_39]; rfl) (by decide) rfl ?_
          first | have q_39 := z_inc9 (by omega) e_39 | skip
          refine zv_goto (tgt := 30) G dX10_years_42 (by decide) ?_
          refine zv_sub [1, 2, 0] (lv' := [(0, za_O 19 93), (2, za_I nn), (3, za_I x_39)]) rfl ?_
          exact ih_30 x_39 σ (by rw [show x_39.toInt.toNat = y3_30.toInt.toNat + 1 by omega]; exact hz) (by omega) (by have := z_inc c_32 e_39; omega) (z_meas c_32 e_39 hn_30)
    refine zv_istore_n (lv' := [(3, za_I 0), (0, za_O 19 93), (1, za_I sd), (2, za_I nn)]) G dX10_years_29 rfl (by decide) rfl ?_
    refine zv_sub [1, 3, 0] (lv' := [(0, za_O 19 93), (2, za_I nn), (3, za_I 0)]) rfl ?_
    exact J_30 _ (0 : Int32) σ hz (by have h0 : (0 : Int32).toInt = 0 := (by decide); omega) (by decide) (Nat.lt_succ_self _)
  · have f_11 := fun q9 => (h_11.2.mpr q9) c_14
    have r_14 : ¬ (1 ≤ nn.toInt ∧ nn.toInt ≤ 40) := fun q => f_11 (by rw [z_w]; have hL := z_lL; omega)
    refine zv_iconst (v := (-1)) G dX10_years_17 (by decide) ?_
    exact zv_iret G hr dX10_years_18 (Or.inl ⟨r_14, by decide⟩)
