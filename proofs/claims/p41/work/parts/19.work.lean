/-! ===== a formula's worth, rows found by it, a day of acts ===== -/
def zcd (σ : za_S) : Prop := (0 ≤ (σ.1 93 9).toInt ∧ (σ.1 93 9).toInt ≤ 80) ∧ zsq (σ.1 96) 0 (σ.1 93 9).toInt.toNat 0 1
def zwo (σ0 σ : za_S) : Prop := (∀ w, w ≠ 97 → σ.1 w = σ0.1 w) ∧ σ.2 = σ0.2
theorem zwo_w {σ0 σ : za_S} {j : Nat} {x : Int32} (h : zwo σ0 σ) : zwo σ0 (za_si σ 97 j x) := ⟨fun w hw => by rw [(za_si_off w hw).1]; exact h.1 w hw, h.2⟩
theorem z_idm {y : Int32} (h1 : 1 ≤ y.toInt) (h2 : y.toInt ≤ 80) : vp_in (y - 1) 80 := by
  have h3 : (y - 1).toInt = y.toInt - 1 := by rw [z_sub (by rw [z_one]; omega) (by rw [z_one]; omega), z_one]
  exact z_in (by omega) (by omega)
theorem z_idk {y : Int32} (h1 : 1000 ≤ y.toInt) (h2 : y.toInt ≤ 1006) : vp_in (y - 1000) 7 := by
  have h9 : (1000 : Int32).toInt = 1000 := by decide
  have h3 : (y - 1000).toInt = y.toInt - 1000 := by rw [z_sub (by rw [h9]; omega) (by rw [h9]; omega), h9]
  exact z_in (by omega) (by omega)
theorem zsq_step {f : Nat → Int32} {n n' d d' : Nat} (h : zsq f 0 n 0 d) (ok : zcok (f n) d) (en : n' = n + 1) (e : d' = zstp (f n) d) : zsq f 0 n' 0 d' := by
  rw [en]
  refine ⟨d, h, ?_, ?_⟩
  · rw [Nat.zero_add]; exact ok
  · rw [Nat.zero_add]; exact e
theorem zst_l {c : Int32} {d d' : Nat} (h : c.toInt = 3000) (e : d' = d) : d' = zstp c d := by unfold zstp; rw [if_pos h]; exact e
theorem zst_a {c : Int32} {d d' : Nat} (h : ¬ c.toInt = 3000) (h2 : 2000 ≤ c.toInt) (e : d' = d - 1) : d' = zstp c d := by unfold zstp; rw [if_neg h, if_pos h2]; exact e
theorem zst_p {c : Int32} {d d' : Nat} (h : ¬ c.toInt = 3000) (h2 : c.toInt < 2000) (e : d' = d + 1) : d' = zstp c d := by unfold zstp; rw [if_neg h, if_neg (by omega)]; exact e
/-! where -/
def zwb (σ0 σ : za_S) : Prop := (∀ w, (w < 93 ∨ 189 ≤ w) → σ.1 w = σ0.1 w ∧ σ.2 w = σ0.2 w) ∧ σ.1 93 32 = σ0.1 93 32 ∧ σ.1 93 4 = 0
def zwx (σ0 σ : za_S) : Prop := zwb σ0 σ ∧ zJ σ
theorem zwx_of {σ0 σ1 σ : za_S} (hb : zwb σ0 σ1) (hJ : zJ σ1) (h : zq 12 σ1 σ) : zwx σ0 σ := by
  refine ⟨⟨fun w hw => ?_, ?_, ?_⟩, zq_J hJ h⟩
  · have h1 := h.1.1 w (by omega)
    have h2 := hb.1 w hw
    exact ⟨h1.1.trans h2.1, h1.2.trans h2.2⟩
  · rw [h.1.2.2.2]; exact hb.2.1
  · rw [h.1.2.1]; exact hb.2.2
theorem zwx_m {σ0 σ1 σ : za_S} (hb : zwb σ0 σ1) (hJ : zJ σ1) (h : zm 12 10 σ1 σ) : zwx σ0 σ := by
  refine ⟨⟨fun w hw => ?_, ?_, ?_⟩, zm_J hJ h⟩
  · have h1 := h.1.1.1 w hw
    have h2 := hb.1 w hw
    exact ⟨h1.1.trans h2.1, h1.2.trans h2.2⟩
  · rw [h.1.1.2.2]; exact hb.2.1
  · rw [h.1.1.2.1]; exact hb.2.2
theorem zrd_J {σ0 σ σ' : za_S} {x : Int32} {n : Int} (hJ : zJ σ0) (h : zq 12 σ0 σ) (hx : 0 ≤ x.toInt ∧ x.toInt ≤ n) (hn : n ≤ 80) (e : σ' = za_si (za_si (za_si (za_si σ 93 4 0) 93 5 0) 93 7 0) 93 6 x) : zJ σ' ∧ zwb σ0 σ' ∧ zpo σ' ∧ (σ'.1 93 5).toInt = 0 ∧ (σ'.1 93 6).toInt ≤ n := by
  have hJ1 := zq_J hJ h
  have ej : ∀ j, j ≠ 4 → j ≠ 5 → j ≠ 7 → j ≠ 6 → σ'.1 93 j = σ.1 93 j := fun j h1 h2 h3 h4 => by rw [e, za_si_ne _ _ (Or.inr h4), za_si_ne _ _ (Or.inr h3), za_si_ne _ _ (Or.inr h2), za_si_ne _ _ (Or.inr h1)]
  have ew : ∀ w, w ≠ 93 → σ'.1 w = σ.1 w := fun w hw => by rw [e, (za_si_off w hw).1, (za_si_off w hw).1, (za_si_off w hw).1, (za_si_off w hw).1]
  have e2 : σ'.2 = σ.2 := by rw [e]; rfl
  have e4 : σ'.1 93 4 = 0 := by rw [e, za_si_ne _ _ (Or.inr (by decide)), za_si_ne _ _ (Or.inr (by decide)), za_si_ne _ _ (Or.inr (by decide)), za_si_same]
  have e5 : σ'.1 93 5 = 0 := by rw [e, za_si_ne _ _ (Or.inr (by decide)), za_si_ne _ _ (Or.inr (by decide)), za_si_same]
  have e6 : σ'.1 93 6 = x := by rw [e, za_si_same]
  have h0 : (0 : Int32).toInt = 0 := by decide
  obtain ⟨j1, j2, j3, j4, j5, j6, j7, j8, j9⟩ := hJ1
  refine ⟨⟨?_, ?_, ?_, ?_, ?_, ?_, ?_, ?_, ?_⟩, ⟨fun w hw => ?_, ?_, e4⟩, ⟨?_, ?_, ?_⟩, by rw [e5]; exact h0, by rw [e6]; exact hx.2⟩
  · unfold zkr
    rw [ej 15 (by decide) (by decide) (by decide) (by decide), ej 16 (by decide) (by decide) (by decide) (by decide)]
    exact j1
  · unfold zch
    rw [ew 188 (by decide)]
    exact j2
  · rw [ej 1 (by decide) (by decide) (by decide) (by decide)]; exact j3
  · rw [ej 17 (by decide) (by decide) (by decide) (by decide)]; exact j4
  · rw [ej 32 (by decide) (by decide) (by decide) (by decide)]; exact j5
  · rw [e4]; decide
  · rw [ew 99 (by decide)]; exact j7
  · rw [ew 102 (by decide)]; exact j8
  · rw [ew 190 (by decide)]; exact j9
  · have h1 := h.1.1 w (by omega)
    exact ⟨(ew w (by omega)).trans h1.1, by rw [e2]; exact h1.2⟩
  · rw [ej 32 (by decide) (by decide) (by decide) (by decide)]; exact h.1.2.2.2
  · rw [e5, h0]; omega
  · rw [e5, e6, h0]; exact hx.1
  · rw [e6]; omega
def zst (σ1 σ : za_S) : Prop := zq 12 σ1 σ ∧ zpq σ ∧ (σ.1 93 6).toInt ≤ 40 ∧ (σ.1 93 9).toInt = 0
theorem zst_0 {σ1 σ : za_S} (h : zq 12 σ1 σ ∧ zpo σ ∧ (σ.1 93 6).toInt ≤ 40) : zst σ1 (za_si σ 93 9 0) := by
  obtain ⟨h1, ⟨o1, o2, o3⟩, h3⟩ := h
  have h0 : (0 : Int32).toInt = 0 := by decide
  refine ⟨zq_93 h1 (by decide), ⟨⟨?_, ?_, ?_⟩, ?_, ?_⟩, ?_, ?_⟩
  · rw [za_si_ne _ _ (Or.inr (by decide))]; exact o1
  · rw [za_si_ne _ _ (Or.inr (by decide)), za_si_ne _ _ (Or.inr (by decide))]; exact o2
  · rw [za_si_ne _ _ (Or.inr (by decide))]; exact o3
  · rw [za_si_same]; decide
  · rw [za_si_same, za_si_ne _ _ (Or.inr (by decide)), h0]; exact o1
  · rw [za_si_ne _ _ (Or.inr (by decide))]; exact h3
  · rw [za_si_same]; exact h0
theorem zq_pk {b k : Int} {σ1 σ σ' : za_S} (h : zq b σ1 σ) (q : zpr σ σ') : zq b σ1 σ' := by
  obtain ⟨hf, a1, a2, a3⟩ := h
  refine ⟨⟨fun w hw => ⟨?_, ?_⟩, ?_, ?_, ?_⟩, ?_, fun i hi => ?_, ?_⟩
  · rw [q.1 w (by omega) (by omega)]; exact (hf.1 w hw).1
  · rw [q.2.1]; exact (hf.1 w hw).2
  · rw [q.2.2 4 (by decide) (by decide) (by decide)]; exact hf.2.1
  · rw [q.2.2 17 (by decide) (by decide) (by decide)]; exact hf.2.2.1
  · rw [q.2.2 32 (by decide) (by decide) (by decide)]; exact hf.2.2.2
  · unfold zkr
    rw [q.2.2 15 (by decide) (by decide) (by decide), q.2.2 16 (by decide) (by decide) (by decide)]
    exact a1
  · rw [q.1 188 (by decide) (by decide)]; exact a2 i hi
  · rw [q.2.2 1 (by decide) (by decide) (by decide)]; exact a3
theorem zwh_1 {σ1 σ σ' : za_S} {r : Int32} (h : zst σ1 σ) (q : zpt r σ σ') : zq 12 σ1 σ' ∧ zpq σ' ∧ (¬ r = 0 → zcd σ') := by
  have hq := zpk_q h.2.1 q.2.1 (by decide)
  refine ⟨zq_pk (k := 0) h.1 q.2.1.1, hq, fun c => ⟨⟨hq.2.1, ?_⟩, ?_⟩⟩
  · have h1 := hq.2.2
    have h2 := hq.1.2
    omega
  · have h1 := q.2.2 c 0
    rw [h.2.2.2] at h1
    exact h1
def zwq (b : Int) (σ1 σ : za_S) : Prop := zq b σ1 σ ∧ zcd σ
theorem zcd_w {σ σ' : za_S} (h : zcd σ) (e1 : σ'.1 93 9 = σ.1 93 9) (e2 : σ'.1 96 = σ.1 96) : zcd σ' := by
  unfold zcd
  rw [e1, e2]
  exact h
theorem zwq_w {b : Int} {σ1 σ : za_S} {j : Nat} {x : Int32} (h : zwq b σ1 σ) : zwq b σ1 (za_si σ 98 j x) := ⟨zq_w h.1 (by decide), zcd_w h.2 (za_si_ne _ _ (Or.inl (by decide))) (za_si_off 96 (by decide)).1⟩
theorem zwq_s {b : Int} {σ0 σ σ' : za_S} {t i r : Int32} (h : zwq b σ0 σ) (k : (r = 1 ∧ i.toInt < (zcn (σ.1 99) t.toInt.toNat : Nat) ∧ ∃ k d, zsk (σ.1 99) t i k d ∧ σ' = za_si (za_si σ 93 15 k) 93 16 d) ∨ (r = 0 ∧ ¬ i.toInt < (zcn (σ.1 99) t.toInt.toNat : Nat) ∧ σ' = σ)) : zwq b σ0 σ' := by
  refine ⟨zq_s h.1 k, ?_⟩
  rcases k with ⟨-, -, k, d, -, h2⟩ | ⟨-, -, h2⟩
  · rw [h2]
    exact zcd_w h.2 (by rw [za_si_ne _ _ (Or.inr (by decide)), za_si_ne _ _ (Or.inr (by decide))]) (by rw [(za_si_off 96 (by decide)).1, (za_si_off 96 (by decide)).1])
  · rw [h2]; exact h.2
theorem zwq_o {b : Int} {σ1 σ σ' : za_S} (h : zwq b σ1 σ) (k : zwo σ σ') : zwq b σ1 σ' := by
  refine ⟨?_, zcd_w h.2 (by rw [k.1 93 (by decide)]) (k.1 96 (by decide))⟩
  obtain ⟨hf, a1, a2, a3⟩ := h.1
  have e93 := k.1 93 (by decide)
  refine ⟨⟨fun w hw => ⟨?_, ?_⟩, ?_, ?_, ?_⟩, ?_, fun i hi => ?_, ?_⟩
  · rw [k.1 w (by omega)]; exact (hf.1 w hw).1
  · rw [k.2]; exact (hf.1 w hw).2
  · rw [e93]; exact hf.2.1
  · rw [e93]; exact hf.2.2.1
  · rw [e93]; exact hf.2.2.2
  · unfold zkr
    rw [e93]
    exact a1
  · rw [k.1 188 (by decide)]; exact a2 i hi
  · rw [e93]; exact a3
/-! acts told as a text -/
def zao (σ : za_S) (i : Nat) : Prop := σ.1 103 i = 4 → 0 ≤ (σ.1 (105 + i) 0).toInt ∧ (σ.1 (105 + i) 0).toInt ≤ 1
def zra (n : Nat) (σ0 σ : za_S) : Prop := (∀ w, w ≠ 93 → w ≠ 103 → w ≠ 105 + n → σ.1 w = σ0.1 w) ∧ σ.2 = σ0.2 ∧ (∀ j, j ≠ 5 → j ≠ 23 → σ.1 93 j = σ0.1 93 j) ∧ (∀ i, i ≠ n → σ.1 103 i = σ0.1 103 i) ∧ (σ0.1 93 5).toInt ≤ (σ.1 93 5).toInt ∧ (σ.1 93 5).toInt ≤ (σ0.1 93 6).toInt
theorem zra_r {n : Nat} {σ : za_S} (h : zpo σ) : zra n σ σ := ⟨fun _ _ _ _ => rfl, rfl, fun _ _ _ => rfl, fun _ _ => rfl, by omega, h.2.1⟩
theorem zra_a {n : Nat} {k : Int} {σ0 σ σ' : za_S} (h : zra n σ0 σ) (q : zat k σ σ') (hk : 0 ≤ k) : zra n σ0 σ' := by
  obtain ⟨h1, h2, h3, h4, h5, h6⟩ := h
  obtain ⟨⟨q1, q2, q3⟩, q4, q5⟩ := q
  rw [h3 6 (by decide) (by decide)] at q5
  exact ⟨fun w w1 w2 w3 => (q1 w w1).trans (h1 w w1 w2 w3), q2.trans h2, fun j j1 j2 => (q3 j j1).trans (h3 j j1 j2), fun i hi => by rw [q1 103 (by decide)]; exact h4 i hi, by omega, q5⟩
theorem zra_o {n : Nat} {σ0 σ : za_S} (h : zra n σ0 σ) (ho : zpo σ0) : zpo σ := by
  obtain ⟨o1, o2, o3⟩ := ho
  obtain ⟨-, -, h3, -, h5, h6⟩ := h
  unfold zpo
  rw [h3 6 (by decide) (by decide)]
  omega
theorem zra_s {n : Nat} {σ0 σ : za_S} {x : Int32} (h : zra n σ0 σ) : zra n σ0 (za_si σ 103 n x) := by
  obtain ⟨h1, h2, h3, h4, h5, h6⟩ := h
  refine ⟨fun w w1 w2 w3 => by rw [(za_si_off w w2).1]; exact h1 w w1 w2 w3, h2, fun j j1 j2 => by rw [za_si_ne _ _ (Or.inl (by decide))]; exact h3 j j1 j2, fun i hi => by rw [za_si_ne _ _ (Or.inr hi)]; exact h4 i hi, ?_⟩
  rw [za_si_ne _ _ (Or.inl (by decide))]
  exact ⟨h5, h6⟩
theorem zra_n {n : Nat} {σ0 σ : za_S} {x : Int32} (h : zra n σ0 σ) : zra n σ0 (za_si σ 93 23 x) := by
  obtain ⟨h1, h2, h3, h4, h5, h6⟩ := h
  refine ⟨fun w w1 w2 w3 => by rw [(za_si_off w w1).1]; exact h1 w w1 w2 w3, h2, fun j j1 j2 => by rw [za_si_ne _ _ (Or.inr j2)]; exact h3 j j1 j2, fun i hi => by rw [(za_si_off 103 (by decide)).1]; exact h4 i hi, ?_⟩
  rw [za_si_ne _ _ (Or.inr (by decide))]
  exact ⟨h5, h6⟩
theorem zra_v {n j : Nat} {σ0 σ : za_S} {x : Int32} (h : zra n σ0 σ) : zra n σ0 (za_si σ (105 + n) j x) := by
  obtain ⟨h1, h2, h3, h4, h5, h6⟩ := h
  refine ⟨fun w w1 w2 w3 => by rw [(za_si_off w w3).1]; exact h1 w w1 w2 w3, h2, fun j j1 j2 => by rw [za_si_ne _ _ (Or.inl (by omega))]; exact h3 j j1 j2, fun i hi => by rw [(za_si_off 103 (by omega)).1]; exact h4 i hi, ?_⟩
  rw [za_si_ne _ _ (Or.inl (by omega))]
  exact ⟨h5, h6⟩
def zrb (n : Nat) (s : Int32) (σ0 σ : za_S) : Prop := zra n σ0 σ ∧ ((σ0.1 93 5).toInt + 1 ≤ (σ.1 93 5).toInt ∨ s = -1) ∧ σ.1 103 n = s ∧ (σ.1 93 23).toInt = (σ0.1 93 23).toInt + 1
theorem zrb_a {n : Nat} {k : Int} {s : Int32} {σ0 σ σ' : za_S} (h : zrb n s σ0 σ) (q : zat k σ σ') (hk : 0 ≤ k) : zrb n s σ0 σ' := by
  refine ⟨zra_a h.1 q hk, ?_, ?_, ?_⟩
  · rcases h.2.1 with h1 | h1
    · exact Or.inl (by have := q.2.1; omega)
    · exact Or.inr h1
  · rw [q.1.1 103 (by decide)]; exact h.2.2.1
  · rw [q.1.2.2 23 (by decide)]; exact h.2.2.2
theorem zrb_v {n j : Nat} {s x : Int32} {σ0 σ : za_S} (h : zrb n s σ0 σ) : zrb n s σ0 (za_si σ (105 + n) j x) := by
  refine ⟨zra_v h.1, ?_, ?_, ?_⟩
  · rw [za_si_ne _ _ (Or.inl (by omega))]; exact h.2.1
  · rw [za_si_ne _ _ (Or.inl (by omega))]; exact h.2.2.1
  · rw [za_si_ne _ _ (Or.inl (by omega))]; exact h.2.2.2
theorem z_len5 {q : Nat} (h : 8 ≤ q ∧ q ≤ 12) : za_len.getD q 0 ≤ 5 := (by decide +kernel : ∀ q, q < 13 → 8 ≤ q → za_len.getD q 0 ≤ 5) q (by omega) h.1
def zrA (r : Int32) (σ0 σ : za_S) : Prop := zra (σ0.1 93 23).toInt.toNat σ0 σ ∧ (¬ r = 0 → (σ0.1 93 5).toInt + 1 ≤ (σ.1 93 5).toInt ∧ (σ.1 93 23).toInt = (σ0.1 93 23).toInt + 1 ∧ zao σ (σ0.1 93 23).toInt.toNat)
/-! a day of acts -/
def zac (σ : za_S) : Prop := 0 ≤ (σ.1 93 23).toInt ∧ ∀ i, i < (σ.1 93 23).toInt.toNat → zao σ i
def zwk (σ1 σ : za_S) : Prop := zq 12 σ1 σ ∧ zpo σ ∧ (σ.1 93 23).toInt ≤ (σ.1 93 5).toInt ∧ zac σ
theorem zwk_0 {σ1 σ : za_S} (h : zq 12 σ1 σ ∧ zpo σ) : zwk σ1 (za_si σ 93 23 0) := by
  obtain ⟨h1, o1, o2, o3⟩ := h
  have h0 : (0 : Int32).toInt = 0 := by decide
  refine ⟨zq_93 h1 (by decide), ⟨?_, ?_, ?_⟩, ?_, ?_, ?_⟩
  · rw [za_si_ne _ _ (Or.inr (by decide))]; exact o1
  · rw [za_si_ne _ _ (Or.inr (by decide)), za_si_ne _ _ (Or.inr (by decide))]; exact o2
  · rw [za_si_ne _ _ (Or.inr (by decide))]; exact o3
  · rw [za_si_same, za_si_ne _ _ (Or.inr (by decide)), h0]; exact o1
  · rw [za_si_same]; decide
  · rw [za_si_same, h0]
    intro i hi
    exact absurd hi (Nat.not_lt_zero i)
theorem zq_ra {b : Int} {n : Nat} {σ1 σ σ' : za_S} (h : zq b σ1 σ) (q : zra n σ σ') (hn : n < 80) : zq b σ1 σ' := by
  obtain ⟨hf, a1, a2, a3⟩ := h
  obtain ⟨q1, q2, q3, -, -⟩ := q
  refine ⟨⟨fun w hw => ⟨?_, ?_⟩, ?_, ?_, ?_⟩, ?_, fun i hi => ?_, ?_⟩
  · rw [q1 w (by omega) (by omega) (by omega)]; exact (hf.1 w hw).1
  · rw [q2]; exact (hf.1 w hw).2
  · rw [q3 4 (by decide) (by decide)]; exact hf.2.1
  · rw [q3 17 (by decide) (by decide)]; exact hf.2.2.1
  · rw [q3 32 (by decide) (by decide)]; exact hf.2.2.2
  · unfold zkr
    rw [q3 15 (by decide) (by decide), q3 16 (by decide) (by decide)]
    exact a1
  · rw [q1 188 (by decide) (by decide) (by omega)]; exact a2 i hi
  · rw [q3 1 (by decide) (by decide)]; exact a3
theorem zwk_s {σ1 σ σ' : za_S} {r : Int32} (h : zwk σ1 σ) (hl : (σ.1 93 5).toInt < (σ.1 93 6).toInt) (q : (r = 0 ∨ r = 1) ∧ zrA r σ σ') : zq 12 σ1 σ' ∧ (¬ r = 0 → zwk σ1 σ') := by
  obtain ⟨h1, ho, h3, h4, h5⟩ := h
  have o := ho
  unfold zpo at o
  have hq := zq_ra h1 q.2.1 (by omega)
  refine ⟨hq, fun c => ?_⟩
  obtain ⟨c1, c2, c3⟩ := q.2.2 c
  refine ⟨hq, zra_o q.2.1 ho, by omega, by omega, fun i hi => ?_⟩
  by_cases ci : i = (σ.1 93 23).toInt.toNat
  · rw [ci]; exact c3
  · have h8 := h5 i (by omega)
    unfold zao at h8 ⊢
    rw [q.2.1.2.2.2.1 i ci, q.2.1.1 (105 + i) (by omega) (by omega) (by omega)]
    exact h8
def zwm (σ1 σ : za_S) : Prop := zm 12 10 σ1 σ ∧ (σ.1 93 23).toInt ≤ 80 ∧ zac σ
theorem zac_f {σ σ' : za_S} (h : zac σ) (e1 : σ'.1 93 23 = σ.1 93 23) (e2 : ∀ w, 103 ≤ w → w < 185 → σ'.1 w = σ.1 w) (h8 : (σ.1 93 23).toInt ≤ 80) : zac σ' := by
  unfold zac
  rw [e1]
  refine ⟨h.1, fun i hi => ?_⟩
  have h9 := h.2 i hi
  unfold zao at h9 ⊢
  rw [e2 103 (by decide) (by decide), e2 (105 + i) (by omega) (by omega)]
  exact h9
theorem zwm_p {σ1 σ σ' : za_S} (hJ : zJ σ1) (h : zwk σ1 σ) (e : σ' = zrw σ 102 (2001 * (σ.1 93 17).toInt.toNat) 2001 (σ.1 99)) : zwm σ1 σ' := by
  have hm := zm_q (zmz hJ) h.1
  have h8 : (σ.1 93 23).toInt ≤ 80 := by
    have h1 := h.2.2.1
    have h2 := h.2.1.2
    omega
  refine ⟨zm_pb hm (by decide) e, ?_, zac_f h.2.2.2 ?_ (fun w h1 h2 => ?_) h8⟩
  · rw [e, zrw_o (by decide)]; exact h8
  · rw [e, zrw_o (by decide)]
  · rw [e, zrw_o (by omega)]
theorem zwm_f {σ1 σ σ' : za_S} (h : zwm σ1 σ) (k : zfa 99 σ σ') : zwm σ1 σ' := by
  have e1 := k.2.2.1 23 (by decide) (by decide)
  exact ⟨zm_fa h.1 k, by rw [e1]; exact h.2.1, zac_f h.2.2 e1 (fun w h1 h2 => k.1 w (by omega) (by omega) (by omega)) h.2.1⟩
theorem zwm_a {σ1 σ : za_S} {y : Int32} (h : zwm σ1 σ) (h0 : 0 ≤ y.toInt) (h1 : y.toInt < (σ.1 93 23).toInt) : σ.1 103 y.toNatClampNeg = 4 → 0 ≤ (σ.1 (105 + 1 * y.toNatClampNeg) 0).toInt ∧ (σ.1 (105 + 1 * y.toNatClampNeg) 0).toInt ≤ 1 := by
  rw [Nat.one_mul]
  exact h.2.2.2 y.toNatClampNeg (show y.toInt.toNat < _ by omega)
theorem z_act {σ : za_S} {w q : Nat} {y r53 r ch : Int32} (e : w = 11) (h0 : 0 ≤ y.toInt) (h53 : r53 = Int32.ofNat (za_len.getD w 0)) (h56 : y.toInt < r53.toInt) (hv : σ.1 q y.toNatClampNeg = r) (hr : 0 ≤ r.toInt) (hw : ch = 116 → r.toInt ≤ 1) (hc : ch = (za_byt.getD w []).getD y.toNatClampNeg 0) : 0 ≤ (σ.1 q 0).toInt ∧ (σ.1 q 0).toInt ≤ 1 := by
  subst e
  have e1 : (Int32.ofNat (za_len.getD 11 0)).toInt = 1 := by decide
  rw [h53, e1] at h56
  have e2 : y.toNatClampNeg = 0 := by
    show y.toInt.toNat = 0
    omega
  rw [e2] at hv hc
  rw [hv]
  exact ⟨hr, hw (hc.trans (by decide))⟩
theorem z_act2 {w : Nat} {y r53 : Int32} (e : w = 11) (h53 : r53 = Int32.ofNat (za_len.getD w 0)) (h56 : r53.toInt ≤ y.toInt) : ¬ y.toInt = 0 := by
  subst e
  have e1 : (Int32.ofNat (za_len.getD 11 0)).toInt = 1 := by decide
  rw [h53, e1] at h56
  omega
set_option maxHeartbeats 4000000 in
set_option maxRecDepth 100000 in
theorem zc_X10_worth (l : Launch) (E : za_E)  (σ0 : za_S) (hw : zcd σ0) : zMi l E yX10_worth cX10_worth 4 (Option.some Jvm.ClassFile.FieldType.int) 3 63 [za_O 19 93] σ0 (fun r σ' => zwo σ0 σ') := by
  refine zMi_of [(0, za_O 19 93)] (by decide) rfl rfl (Nat.le_of_ble_eq_true rfl) ?_
  intro ho p e s m args below meth c G hr
  refine zv_gen (R9 := zwo σ0) ⟨fun _ _ => rfl, rfl⟩ (fun σ hz => ?_)
  refine zv_iconst (v := 0) G dX10_worth_0 (by decide) ?_
  refine zv_istore_n (lv' := [(1, za_I 0), (0, za_O 19 93)]) G dX10_worth_1 rfl (by decide) rfl ?_
  refine zv_iconst (v := 0) G dX10_worth_2 (by decide) ?_
  have J_4 : ∀ (n : Nat) (y1_4 : Int32) (y2_4 : Int32) (σ : za_S) (hz : zwo σ0 σ) (g_4 : 0 ≤ y2_4.toInt ∧ y2_4.toInt ≤ (σ0.1 93 9).toInt ∧ 0 ≤ y1_4.toInt) (z_4 : zsq (σ0.1 96) 0 y2_4.toInt.toNat 0 y1_4.toInt.toNat) (i2_4 : 0 ≤ y2_4.toInt) (hn_4 : (2147483648 - y2_4.toInt).toNat < n), zV p l e (zRm 3 63) s m args below meth c E (za_A E) 4 0 0 (MQ below (va_Qi (fun r σ' => zwo σ0 σ') (zB E) (za_A E)) args s 0 0 (za_A E)) 4 [(0, za_O 19 93), (1, za_I y1_4), (2, za_I y2_4)] [] σ := by
    intro n
    induction n with
    | zero => intro y1_4 y2_4 σ hz g_4 z_4 i2_4 hn; exact absurd hn (Nat.not_lt_zero _)
    | succ n ih_4 =>
      intro y1_4 y2_4 σ hz g_4 z_4 i2_4 hn_4
      refine zv_iload_n (j := 2) G dX10_worth_4 rfl rfl ?_
      refine zv_aload_n (j := 0) G dX10_worth_5 rfl rfl ?_
      refine zg_X10_73 G dX10_worth_6 ?_
      refine zv_icmp_ge (tgt := 125) G dX10_worth_9 (by decide) (fun c_9 => ?_) (fun c_9 => ?_)
      · have k_9 := z_cle c_9 (a := (σ.1 93 9).toInt) (b := y2_4.toInt) rfl rfl
        refine zv_aload_n (j := 0) G dX10_worth_125 rfl rfl ?_
        refine zg_X10_102 G dX10_worth_126 ?_
        refine zv_iconst (v := 0) G dX10_worth_129 (by decide) ?_
        refine zv_iald G (by decide) rfl (z_in (by decide) (by decide)) dX10_worth_130 ?_
        exact zv_iret G hr dX10_worth_131 hz
      · have k_9 := z_cnle c_9 (a := (σ.1 93 9).toInt) (b := y2_4.toInt) rfl rfl
        have e9 : σ.1 93 9 = σ0.1 93 9 := by rw [hz.1 93 (by decide)]
        rw [e9] at k_9
        have w_9 := hw.1
        have o_9 := zsq_at _ _ _ _ hw.2 (show y2_4.toInt.toNat < (σ0.1 93 9).toInt.toNat by omega) z_4
        have l_9 := zsq_le _ _ _ z_4
        refine zv_aload_n (j := 0) G dX10_worth_12 rfl rfl ?_
        refine zg_X10_70 G dX10_worth_13 ?_
        refine zv_iload_n (j := 2) G dX10_worth_16 rfl rfl ?_
        refine zv_iald G (by decide) rfl (z_in (by omega) (by omega)) dX10_worth_17 ?_
        refine zv_top (fun x_18 e_18 => ?_)
        refine zv_istore_n (lv' := [(3, za_I x_18), (0, za_O 19 93), (1, za_I y1_4), (2, za_I y2_4)]) G dX10_worth_18 rfl (by decide) rfl ?_
        have e18 : x_18 = σ0.1 96 y2_4.toInt.toNat := by rw [e_18, hz.1 96 (by decide)]; rfl
        have u_9 := o_9
        rw [← e18] at u_9
        unfold zcok at u_9
        refine zv_iload_n (j := 0) G dX10_worth_19 rfl rfl ?_
        refine zv_sipush (v := 3000) G dX10_worth_20 (by decide) ?_
        refine zv_icmp_ne (tgt := 46) G dX10_worth_23 (by decide) (fun c_23 => ?_) (fun c_23 => ?_)
        · have k_23 := z_cne c_23 (a := x_18.toInt) (b := 3000) rfl rfl
          refine zv_iload_n (j := 0) G dX10_worth_46 rfl rfl ?_
          refine zv_sipush (v := 2000) G dX10_worth_47 (by decide) ?_
          refine zv_icmp_lt (tgt := 89) G dX10_worth_50 (by decide) (fun c_50 => ?_) (fun c_50 => ?_)
          · have k_50 := z_clt c_50 (a := x_18.toInt) (b := 2000) rfl rfl
            refine zv_aload_n (j := 1) G dX10_worth_89 rfl rfl ?_
            refine zg_X10_102 G dX10_worth_90 ?_
            refine zv_iload_n (j := 2) G dX10_worth_93 rfl rfl ?_
            refine zv_iload_n (j := 0) G dX10_worth_94 rfl rfl ?_
            refine zv_sipush (v := 1000) G dX10_worth_95 (by decide) ?_
            refine zv_icmp_lt (tgt := 114) G dX10_worth_98 (by decide) (fun c_98 => ?_) (fun c_98 => ?_)
            · have k_98 := z_clt c_98 (a := x_18.toInt) (b := 1000) rfl rfl
              refine zv_iload_n (j := 0) G dX10_worth_114 rfl rfl ?_
              refine zv_iast G (by decide) rfl (fun _ => rfl) (z_in (by omega) (by omega)) dX10_worth_115 ?_
              refine zv_gen (R9 := zwo σ0) (zwo_w hz) (fun σ hz => ?_)
              obtain ⟨x_116, e_116⟩ : ∃ y : Int32, y = y1_4 + 1 := ⟨_, rfl⟩
              refine zv_iinc (j := 2) (v := x_116) (lv' := [(1, za_I x_116), (3, za_I x_18), (0, za_O 19 93), (2, za_I y2_4)]) G dX10_worth_116 rfl (by rw [e_116]; rfl) (by decide) rfl ?_
              first | have q_116 := z_inc9 (by omega) e_116 | skip
              obtain ⟨x_119, e_119⟩ : ∃ y : Int32, y = y2_4 + 1 := ⟨_, rfl⟩
              refine zv_iinc (j := 3) (v := x_119) (lv' := [(2, za_I x_119), (1, za_I x_116), (3, za_I x_18), (0, za_O 19 93)]) G dX10_worth_119 rfl (by rw [e_119]; rfl) (by decide) rfl ?_
              first | have q_119 := z_inc9 (by omega) e_119 | skip
              refine zv_goto (tgt := 4) G dX10_worth_122 (by decide) ?_
              refine zv_sub [3, 1, 0] (lv' := [(0, za_O 19 93), (1, za_I x_116), (2, za_I x_119)]) rfl ?_
              exact ih_4 x_116 x_119 σ hz (by omega) (zsq_step z_4 o_9 (by omega) (by rw [← e18]; exact zst_p (by omega) (by omega) (by omega))) (by have := z_inc c_9 e_119; omega) (z_meas c_9 e_119 hn_4)
            · have k_98 := z_cnlt c_98 (a := x_18.toInt) (b := 1000) rfl rfl
              refine zv_aload_n (j := 1) G dX10_worth_101 rfl rfl ?_
              refine zg_X10_109 G dX10_worth_102 ?_
              refine zv_iload_n (j := 0) G dX10_worth_105 rfl rfl ?_
              refine zv_sipush (v := 1000) G dX10_worth_106 (by decide) ?_
              refine zv_isub G dX10_worth_109 ?_
              refine zv_iald G (by decide) rfl (z_idk (by omega) (by omega)) dX10_worth_110 ?_
              refine zv_goto (tgt := 115) G dX10_worth_111 (by decide) ?_
              refine zv_iast G (by decide) rfl (fun _ => rfl) (z_in (by omega) (by omega)) dX10_worth_115 ?_
              refine zv_gen (R9 := zwo σ0) (zwo_w hz) (fun σ hz => ?_)
              obtain ⟨x_116, e_116⟩ : ∃ y : Int32, y = y1_4 + 1 := ⟨_, rfl⟩
              refine zv_iinc (j := 2) (v := x_116) (lv' := [(1, za_I x_116), (3, za_I x_18), (0, za_O 19 93), (2, za_I y2_4)]) G dX10_worth_116 rfl (by rw [e_116]; rfl) (by decide) rfl ?_
              first | have q_116 := z_inc9 (by omega) e_116 | skip
              obtain ⟨x_119, e_119⟩ : ∃ y : Int32, y = y2_4 + 1 := ⟨_, rfl⟩
              refine zv_iinc (j := 3) (v := x_119) (lv' := [(2, za_I x_119), (1, za_I x_116), (3, za_I x_18), (0, za_O 19 93)]) G dX10_worth_119 rfl (by rw [e_119]; rfl) (by decide) rfl ?_
              first | have q_119 := z_inc9 (by omega) e_119 | skip
              refine zv_goto (tgt := 4) G dX10_worth_122 (by decide) ?_
              refine zv_sub [3, 1, 0] (lv' := [(0, za_O 19 93), (1, za_I x_116), (2, za_I x_119)]) rfl ?_
              exact ih_4 x_116 x_119 σ hz (by omega) (zsq_step z_4 o_9 (by omega) (by rw [← e18]; exact zst_p (by omega) (by omega) (by omega))) (by have := z_inc c_9 e_119; omega) (z_meas c_9 e_119 hn_4)
          · have k_50 := z_cnlt c_50 (a := x_18.toInt) (b := 2000) rfl rfl
            obtain ⟨x_53, e_53⟩ : ∃ y : Int32, y = y1_4 + (-1) := ⟨_, rfl⟩
            refine zv_iinc (j := 2) (v := x_53) (lv' := [(1, za_I x_53), (3, za_I x_18), (0, za_O 19 93), (2, za_I y2_4)]) G dX10_worth_53 rfl (by rw [e_53]; rfl) (by decide) rfl ?_
            first | have q_53 := z_dec9 (by omega) e_53 | skip
            refine zv_aload_n (j := 2) G dX10_worth_56 rfl rfl ?_
            refine zg_X10_102 G dX10_worth_57 ?_
            refine zv_iload_n (j := 0) G dX10_worth_60 rfl rfl ?_
            refine zv_iconst (v := 1) G dX10_worth_61 (by decide) ?_
            refine zv_isub G dX10_worth_62 ?_
            refine zv_iload_n (j := 1) G dX10_worth_63 rfl rfl ?_
            refine zv_sipush (v := 2000) G dX10_worth_64 (by decide) ?_
            refine zv_isub G dX10_worth_67 ?_
            refine zv_aload_n (j := 2) G dX10_worth_68 rfl rfl ?_
            refine zg_X10_102 G dX10_worth_69 ?_
            refine zv_iload_n (j := 0) G dX10_worth_72 rfl rfl ?_
            refine zv_iconst (v := 1) G dX10_worth_73 (by decide) ?_
            refine zv_isub G dX10_worth_74 ?_
            refine zv_iald G (by decide) rfl (z_idm (by omega) (by omega)) dX10_worth_75 ?_
            refine zv_aload_n (j := 2) G dX10_worth_76 rfl rfl ?_
            refine zg_X10_102 G dX10_worth_77 ?_
            refine zv_iload_n (j := 0) G dX10_worth_80 rfl rfl ?_
            refine zv_iald G (by decide) rfl (z_in (by omega) (by omega)) dX10_worth_81 ?_
            refine zv_callSi (as := [za_I (x_18 - 2000), za_I (σ.1 97 (x_53 - 1).toNatClampNeg), za_I (σ.1 97 x_53.toNatClampNeg)]) G (zc_X10_worked l E (x_18 - 2000) (σ.1 97 (x_53 - 1).toNatClampNeg) (σ.1 97 x_53.toNatClampNeg) σ ) zk_X10_worked zm_1666 rfl ⟨(Nat.le_of_ble_eq_true rfl), (Nat.le_of_ble_eq_true rfl)⟩ ⟨Nat.zero_le _, Nat.zero_le _⟩ (Nat.le_of_ble_eq_true rfl) dX10_worth_82 (fun r_82 σ h_82 => ?_)
            subst h_82
            refine zv_iast G (by decide) rfl (fun _ => rfl) (z_idm (by omega) (by omega)) dX10_worth_85 ?_
            refine zv_gen (R9 := zwo σ0) (zwo_w hz) (fun σ hz => ?_)
            refine zv_goto (tgt := 119) G dX10_worth_86 (by decide) ?_
            obtain ⟨x_119, e_119⟩ : ∃ y : Int32, y = y2_4 + 1 := ⟨_, rfl⟩
            refine zv_iinc (j := 3) (v := x_119) (lv' := [(2, za_I x_119), (1, za_I x_53), (3, za_I x_18), (0, za_O 19 93)]) G dX10_worth_119 rfl (by rw [e_119]; rfl) (by decide) rfl ?_
            first | have q_119 := z_inc9 (by omega) e_119 | skip
            refine zv_goto (tgt := 4) G dX10_worth_122 (by decide) ?_
            refine zv_sub [3, 1, 0] (lv' := [(0, za_O 19 93), (1, za_I x_53), (2, za_I x_119)]) rfl ?_
            exact ih_4 x_53 x_119 σ hz (by omega) (zsq_step z_4 o_9 (by omega) (by rw [← e18]; exact zst_a (by omega) (by omega) (by omega))) (by have := z_inc c_9 e_119; omega) (z_meas c_9 e_119 hn_4)
        · have k_23 := z_ceq c_23 (a := x_18.toInt) (b := 3000) rfl rfl
          refine zv_aload_n (j := 1) G dX10_worth_26 rfl rfl ?_
          refine zg_X10_102 G dX10_worth_27 ?_
          refine zv_iload_n (j := 2) G dX10_worth_30 rfl rfl ?_
          refine zv_iconst (v := 1) G dX10_worth_31 (by decide) ?_
          refine zv_isub G dX10_worth_32 ?_
          refine zv_aload_n (j := 1) G dX10_worth_33 rfl rfl ?_
          refine zg_X10_102 G dX10_worth_34 ?_
          refine zv_iload_n (j := 2) G dX10_worth_37 rfl rfl ?_
          refine zv_iconst (v := 1) G dX10_worth_38 (by decide) ?_
          refine zv_isub G dX10_worth_39 ?_
          refine zv_iald G (by decide) rfl (z_idm (by omega) (by omega)) dX10_worth_40 ?_
          refine zv_ineg G dX10_worth_41 ?_
          refine zv_iast G (by decide) rfl (fun _ => rfl) (z_idm (by omega) (by omega)) dX10_worth_42 ?_
          refine zv_gen (R9 := zwo σ0) (zwo_w hz) (fun σ hz => ?_)
          refine zv_goto (tgt := 119) G dX10_worth_43 (by decide) ?_
          obtain ⟨x_119, e_119⟩ : ∃ y : Int32, y = y2_4 + 1 := ⟨_, rfl⟩
          refine zv_iinc (j := 3) (v := x_119) (lv' := [(2, za_I x_119), (3, za_I x_18), (0, za_O 19 93), (1, za_I y1_4)]) G dX10_worth_119 rfl (by rw [e_119]; rfl) (by decide) rfl ?_
          first | have q_119 := z_inc9 (by omega) e_119 | skip
          refine zv_goto (tgt := 4) G dX10_worth_122 (by decide) ?_
          refine zv_sub [2, 3, 0] (lv' := [(0, za_O 19 93), (1, za_I y1_4), (2, za_I x_119)]) rfl ?_
          exact ih_4 y1_4 x_119 σ hz (by omega) (zsq_step z_4 o_9 (by omega) (by rw [← e18]; exact zst_l (by omega) (by omega))) (by have := z_inc c_9 e_119; omega) (z_meas c_9 e_119 hn_4)
  refine zv_istore_n (lv' := [(2, za_I 0), (1, za_I 0), (0, za_O 19 93)]) G dX10_worth_3 rfl (by decide) rfl ?_
  refine zv_sub [2, 1, 0] (lv' := [(0, za_O 19 93), (1, za_I 0), (2, za_I 0)]) rfl ?_
  exact J_4 _ (0 : Int32) (0 : Int32) σ hz (by have w9 := hw.1; have hL := z_lits; omega) (show zsq (σ0.1 96) 0 0 0 0 from rfl) (by decide) (Nat.lt_succ_self _)
set_option maxHeartbeats 4000000 in
set_option maxRecDepth 100000 in
theorem zc_X10_where (l : Launch) (E : za_E) (t : Int32) (σ0 : za_S) (hJ : zJ σ0) : zMi l E yX10_where cX10_where 11 (Option.some Jvm.ClassFile.FieldType.int) 215 6343 [za_O 19 93, za_I t] σ0 (fun r σ' => zwx σ0 σ') := by
  refine zMi_of [(0, za_O 19 93), (1, za_I t)] (by decide) rfl rfl (Nat.le_of_ble_eq_true rfl) ?_
  intro ho p e s m args below meth c G hr
  refine zv_gen (R9 := zq 12 σ0) (zq_0 hJ) (fun σ hz => ?_)
  refine zv_aload_n (j := 0) G dX10_where_0 rfl rfl ?_
  refine zv_iconst (v := 0) G dX10_where_1 (by decide) ?_
  refine zp_X10_3 G dX10_where_2 ?_
  refine zv_gen (R9 := zq 12 σ0) (zq_93 hz (by decide)) (fun σ hz => ?_)
  refine zv_aload_n (j := 0) G dX10_where_5 rfl rfl ?_
  refine zv_bipush (v := 40) G dX10_where_6 (by decide) ?_
  refine zv_callVi (as := [za_I 40]) G (by decide) rfl rfl (zc_X10_reads l E (40 : Int32) σ (by rw [hz.1.2.1]; exact hJ.2.2.2.2.2.1.1) (by decide)) zk_X10_reads zm_1478 rfl ⟨(Nat.le_of_ble_eq_true rfl), (Nat.le_of_ble_eq_true rfl)⟩ ⟨Nat.zero_le _, Nat.zero_le _⟩ (Nat.le_of_ble_eq_true rfl) dX10_where_8 (fun r_8 σ h_8 => ?_)
  obtain ⟨e_8, x8, hx8, h_8⟩ := h_8
  obtain ⟨hJ1, hb, ho1, e51, e61⟩ := zrd_J hJ hz hx8 (by decide) h_8
  obtain ⟨σ1, rfl⟩ : ∃ q, q = σ := ⟨_, rfl⟩
  refine zv_gen (R9 := (fun σ => zq 12 σ1 σ ∧ zpo σ ∧ (σ.1 93 6).toInt ≤ 40)) ⟨zq_0 hJ1, ho1, e61⟩ (fun σ hz => ?_)
  refine zv_istore_n (lv' := [(2, za_I r_8), (0, za_O 19 93), (1, za_I t)]) G dX10_where_11 rfl (by decide) rfl ?_
  refine zv_aload_n (j := 1) G dX10_where_12 rfl rfl ?_
  refine zv_iconst (v := 0) G dX10_where_13 (by decide) ?_
  refine zp_X10_73 G dX10_where_14 ?_
  refine zv_gen (R9 := zst σ1) (zst_0 hz) (fun σ hz => ?_)
  refine zv_aload_n (j := 1) G dX10_where_17 rfl rfl ?_
  refine zv_iconst (v := 0) G dX10_where_18 (by decide) ?_
  refine zv_callVi (as := [za_I 0]) G (by decide) rfl rfl ((zTR 40).2 l E  σ hz.2.1 (by have u9 := hz.2.1.1; unfold zpo at u9; have u8 := hz.2.2.1; omega)) zk_X10_readsRank zm_1638 rfl ⟨(Nat.le_of_ble_eq_true rfl), (Nat.le_of_ble_eq_true rfl)⟩ ⟨Nat.zero_le _, Nat.zero_le _⟩ (Nat.le_of_ble_eq_true rfl) dX10_where_19 (fun r_19 σ h_19 => ?_)
  have hz := zwh_1 hz h_19
  refine zv_istore_n (lv' := [(3, za_I r_19), (2, za_I r_8), (0, za_O 19 93), (1, za_I t)]) G dX10_where_22 rfl (by decide) rfl ?_
  refine zv_aload_n (j := 2) G dX10_where_23 rfl rfl ?_
  refine zv_iload_n (j := 1) G dX10_where_24 rfl rfl ?_
  refine zv_bipush (v := 40) G dX10_where_25 (by decide) ?_
  refine zv_iload_n (j := 0) G dX10_where_27 rfl rfl ?_
  refine zv_callVi (as := [za_I r_8, za_I 40, za_I r_19]) G (by decide) rfl rfl (zc_X10_faultOf l E r_8 (40 : Int32) r_19 σ hz.2.1.1 (by decide)) zk_X10_faultOf zm_1658 rfl ⟨(Nat.le_of_ble_eq_true rfl), (Nat.le_of_ble_eq_true rfl)⟩ ⟨Nat.zero_le _, Nat.zero_le _⟩ (Nat.le_of_ble_eq_true rfl) dX10_where_28 (fun r_28 σ h_28 => ?_)
  obtain ⟨h_28, rfl⟩ := h_28
  refine zv_istore (lv' := [(4, za_I r_28), (3, za_I r_19), (2, za_I r_8), (0, za_O 19 93), (1, za_I t)]) G dX10_where_31 (by decide) rfl ?_
  refine zv_iload (j := 0) G dX10_where_33 rfl ?_
  refine zv_if_ge (tgt := 47) G dX10_where_35 (by decide) (fun c_35 => ?_) (fun c_35 => ?_)
  · have k_35 := z_cle c_35 (a := 0) (b := r_28.toInt) rfl rfl
    have hz : zwq 12 σ1 σ := ⟨hz.1, hz.2.2 (h_28 (by omega))⟩
    refine zv_iload_n (j := 4) G dX10_where_47 rfl rfl ?_
    refine zv_callSi (as := [za_I t]) G (zc_X10_isTable l E t σ ) zk_X10_isTable zm_1309 rfl ⟨(Nat.le_of_ble_eq_true rfl), (Nat.le_of_ble_eq_true rfl)⟩ ⟨Nat.zero_le _, Nat.zero_le _⟩ (Nat.le_of_ble_eq_true rfl) dX10_where_48 (fun r_48 σ h_48 => ?_)
    obtain ⟨h_48, rfl⟩ := h_48
    refine zv_if_ne (tgt := 56) G dX10_where_51 (by decide) (fun c_51 => ?_) (fun c_51 => ?_)
    · have t_48 := h_48.2.mp c_51
      refine zv_iconst (v := 0) G dX10_where_56 (by decide) ?_
      refine zv_istore (lv' := [(5, za_I 0), (4, za_I r_28), (3, za_I r_19), (2, za_I r_8), (0, za_O 19 93), (1, za_I t)]) G dX10_where_57 (by decide) rfl ?_
      refine zv_iconst (v := 0) G dX10_where_59 (by decide) ?_
      refine zv_istore (lv' := [(6, za_I 0), (5, za_I 0), (4, za_I r_28), (3, za_I r_19), (2, za_I r_8), (0, za_O 19 93), (1, za_I t)]) G dX10_where_60 (by decide) rfl ?_
      refine zv_iconst (v := 0) G dX10_where_62 (by decide) ?_
      refine zv_istore (lv' := [(7, za_I 0), (6, za_I 0), (5, za_I 0), (4, za_I r_28), (3, za_I r_19), (2, za_I r_8), (0, za_O 19 93), (1, za_I t)]) G dX10_where_63 (by decide) rfl ?_
      refine zv_iconst (v := 0) G dX10_where_65 (by decide) ?_
      have J_68 : ∀ (n : Nat) (y5_68 : Int32) (y6_68 : Int32) (y7_68 : Int32) (y8_68 : Int32) (σ : za_S) (hz : zwq 12 σ1 σ) (l_68 : y8_68.toInt ≤ 20) (i8_68 : 0 ≤ y8_68.toInt) (hn_68 : (20 - y8_68.toInt).toNat < n), zV p l e (zRm 215 6343) s m args below meth c E (za_A E) 11 0 0 (MQ below (va_Qi (fun r σ' => zwx σ0 σ') (zB E) (za_A E)) args s 0 0 (za_A E)) 68 [(0, za_O 19 93), (1, za_I t), (5, za_I y5_68), (6, za_I y6_68), (7, za_I y7_68), (8, za_I y8_68)] [] σ := by
        intro n
        induction n with
        | zero => intro y5_68 y6_68 y7_68 y8_68 σ hz l_68 i8_68 hn; exact absurd hn (Nat.not_lt_zero _)
        | succ n ih_68 =>
          intro y5_68 y6_68 y7_68 y8_68 σ hz l_68 i8_68 hn_68
          refine zv_aload_n (j := 0) G dX10_where_68 rfl rfl ?_
          refine zv_aload_n (j := 0) G dX10_where_69 rfl rfl ?_
          refine zg_X10_118 G dX10_where_70 ?_
          refine zv_iload_n (j := 1) G dX10_where_73 rfl rfl ?_
          refine zv_iload (j := 5) G dX10_where_74 rfl ?_
          refine zv_callVi (as := [za_O 22 99, za_I t, za_I y8_68]) G (by decide) rfl rfl (zc_X10_seeks l E 99 t y8_68 σ t_48 (by omega)) zk_X10_seeks zm_1313 rfl ⟨(Nat.le_of_ble_eq_true rfl), (Nat.le_of_ble_eq_true rfl)⟩ ⟨Nat.zero_le _, Nat.zero_le _⟩ (Nat.le_of_ble_eq_true rfl) dX10_where_76 (fun r_76 σ h_76 => ?_)
          obtain ⟨h_76, s_76⟩ := h_76
          have n_76 := zq_n hz.1 s_76
          have hz := zwq_s hz s_76
          refine zv_if_eq (tgt := 252) G dX10_where_79 (by decide) (fun c_79 => ?_) (fun c_79 => ?_)
          · refine zv_aload_n (j := 0) G dX10_where_252 rfl rfl ?_
            refine zv_iconst (v := 0) G dX10_where_253 (by decide) ?_
            refine zp_X10_15 G dX10_where_254 ?_
            refine zv_gen (R9 := zq 0 σ1) (zq_t0 hz.1) (fun σ hz => ?_)
            refine zv_aload_n (j := 0) G dX10_where_257 rfl rfl ?_
            refine zv_iload (j := 2) G dX10_where_258 rfl ?_
            refine zv_callSi (as := [za_I y5_68]) G (zc_J6_bitCount_0f7a4 l E y5_68 σ ) zk_J6_bitCount_0f7a4 zm_1669 rfl ⟨(Nat.le_of_ble_eq_true rfl), (Nat.le_of_ble_eq_true rfl)⟩ ⟨Nat.zero_le _, Nat.zero_le _⟩ (Nat.le_of_ble_eq_true rfl) dX10_where_260 (fun r_260 σ h_260 => ?_)
            subst h_260
            refine zv_i2l G dX10_where_263 ?_
            refine zv_callVv (as := [za_L r_260.toInt64]) G (by decide) rfl rfl (zc_X10_enters l E r_260.toInt64 σ (zq_p hz (by decide))) zk_X10_enters zm_1418 rfl ⟨(Nat.le_of_ble_eq_true rfl), (Nat.le_of_ble_eq_true rfl)⟩ ⟨Nat.zero_le _, Nat.zero_le _⟩ (Nat.le_of_ble_eq_true rfl) dX10_where_264 (fun σ h_264 => ?_)
            have hz := zq_e hz h_264
            refine zv_aload_n (j := 0) G dX10_where_267 rfl rfl ?_
            refine zv_iload (j := 3) G dX10_where_268 rfl ?_
            refine zv_i2l G dX10_where_270 ?_
            refine zv_callVv (as := [za_L y6_68.toInt64]) G (by decide) rfl rfl (zc_X10_enters l E y6_68.toInt64 σ (zq_p hz (by decide))) zk_X10_enters zm_1418 rfl ⟨(Nat.le_of_ble_eq_true rfl), (Nat.le_of_ble_eq_true rfl)⟩ ⟨Nat.zero_le _, Nat.zero_le _⟩ (Nat.le_of_ble_eq_true rfl) dX10_where_271 (fun σ h_271 => ?_)
            have hz := zq_e hz h_271
            refine zv_aload_n (j := 0) G dX10_where_274 rfl rfl ?_
            refine zv_iload (j := 4) G dX10_where_275 rfl ?_
            refine zv_i2l G dX10_where_277 ?_
            refine zv_callVv (as := [za_L y7_68.toInt64]) G (by decide) rfl rfl (zc_X10_enters l E y7_68.toInt64 σ (zq_p hz (by decide))) zk_X10_enters zm_1418 rfl ⟨(Nat.le_of_ble_eq_true rfl), (Nat.le_of_ble_eq_true rfl)⟩ ⟨Nat.zero_le _, Nat.zero_le _⟩ (Nat.le_of_ble_eq_true rfl) dX10_where_278 (fun σ h_278 => ?_)
            have hz := zq_e hz h_278
            refine zv_iload (j := 2) G dX10_where_281 rfl ?_
            exact zv_iret G hr dX10_where_283 (zwx_of hb hJ1 (zq_m hz (by decide)))
          · have h8 := zsn_20 hJ1 t_48 n_76 c_79
            refine zv_aload_n (j := 0) G dX10_where_82 rfl rfl ?_
            refine zg_X10_118 G dX10_where_83 ?_
            refine zv_iload_n (j := 1) G dX10_where_86 rfl rfl ?_
            refine zv_aload_n (j := 0) G dX10_where_87 rfl rfl ?_
            refine zg_X10_191 G dX10_where_88 ?_
            refine zv_aload_n (j := 0) G dX10_where_91 rfl rfl ?_
            refine zg_X10_194 G dX10_where_92 ?_
            refine zv_callSi (as := [za_O 22 99, za_I t, za_I (σ.1 93 15), za_I (σ.1 93 16)]) G (zc_X10_toOf l E 99 t (σ.1 93 15) (σ.1 93 16) σ t_48 hz.1.2.1.1 hz.1.2.1.2) zk_X10_toOf zm_1337 rfl ⟨(Nat.le_of_ble_eq_true rfl), (Nat.le_of_ble_eq_true rfl)⟩ ⟨Nat.zero_le _, Nat.zero_le _⟩ (Nat.le_of_ble_eq_true rfl) dX10_where_95 (fun r_95 σ h_95 => ?_)
            obtain ⟨h_95, rfl⟩ := h_95
            refine zv_istore (lv' := [(9, za_I r_95), (0, za_O 19 93), (1, za_I t), (5, za_I y5_68), (6, za_I y6_68), (7, za_I y7_68), (8, za_I y8_68)]) G dX10_where_98 (by decide) rfl ?_
            refine zv_aload_n (j := 1) G dX10_where_100 rfl rfl ?_
            refine zg_X10_109 G dX10_where_101 ?_
            refine zv_iconst (v := 0) G dX10_where_104 (by decide) ?_
            refine zv_aload_n (j := 1) G dX10_where_105 rfl rfl ?_
            refine zg_X10_191 G dX10_where_106 ?_
            refine zv_iast G (by decide) rfl (fun _ => rfl) (z_in (by decide) (by decide)) dX10_where_109 ?_
            refine zv_gen (R9 := zwq 12 σ1) (zwq_w hz) (fun σ hz => ?_)
            refine zv_aload_n (j := 1) G dX10_where_110 rfl rfl ?_
            refine zg_X10_109 G dX10_where_111 ?_
            refine zv_iconst (v := 1) G dX10_where_114 (by decide) ?_
            refine zv_aload_n (j := 1) G dX10_where_115 rfl rfl ?_
            refine zg_X10_118 G dX10_where_116 ?_
            refine zv_iload_n (j := 2) G dX10_where_119 rfl rfl ?_
            refine zv_aload_n (j := 1) G dX10_where_120 rfl rfl ?_
            refine zg_X10_191 G dX10_where_121 ?_
            refine zv_aload_n (j := 1) G dX10_where_124 rfl rfl ?_
            refine zg_X10_194 G dX10_where_125 ?_
            refine zv_callSi (as := [za_O 22 99, za_I t, za_I (σ.1 93 15), za_I (σ.1 93 16)]) G (zc_X10_valueOn l E 99 t (σ.1 93 15) (σ.1 93 16) σ t_48 hz.1.2.1.1 hz.1.2.1.2) zk_X10_valueOn zm_1334 rfl ⟨(Nat.le_of_ble_eq_true rfl), (Nat.le_of_ble_eq_true rfl)⟩ ⟨Nat.zero_le _, Nat.zero_le _⟩ (Nat.le_of_ble_eq_true rfl) dX10_where_128 (fun r_128 σ h_128 => ?_)
            obtain ⟨h_128, rfl⟩ := h_128
            refine zv_iast G (by decide) rfl (fun _ => rfl) (z_in (by decide) (by decide)) dX10_where_131 ?_
            refine zv_gen (R9 := zwq 12 σ1) (zwq_w hz) (fun σ hz => ?_)
            refine zv_aload_n (j := 1) G dX10_where_132 rfl rfl ?_
            refine zg_X10_109 G dX10_where_133 ?_
            refine zv_iconst (v := 2) G dX10_where_136 (by decide) ?_
            refine zv_aload_n (j := 1) G dX10_where_137 rfl rfl ?_
            refine zg_X10_118 G dX10_where_138 ?_
            refine zv_iload_n (j := 2) G dX10_where_141 rfl rfl ?_
            refine zv_aload_n (j := 1) G dX10_where_142 rfl rfl ?_
            refine zg_X10_191 G dX10_where_143 ?_
            refine zv_aload_n (j := 1) G dX10_where_146 rfl rfl ?_
            refine zg_X10_194 G dX10_where_147 ?_
            refine zv_callSi (as := [za_O 22 99, za_I t, za_I (σ.1 93 15), za_I (σ.1 93 16)]) G (zc_X10_refOn l E 99 t (σ.1 93 15) (σ.1 93 16) σ t_48 hz.1.2.1.1 hz.1.2.1.2) zk_X10_refOn zm_1340 rfl ⟨(Nat.le_of_ble_eq_true rfl), (Nat.le_of_ble_eq_true rfl)⟩ ⟨Nat.zero_le _, Nat.zero_le _⟩ (Nat.le_of_ble_eq_true rfl) dX10_where_150 (fun r_150 σ h_150 => ?_)
            obtain ⟨h_150, rfl⟩ := h_150
            refine zv_iast G (by decide) rfl (fun _ => rfl) (z_in (by decide) (by decide)) dX10_where_153 ?_
            refine zv_gen (R9 := zwq 12 σ1) (zwq_w hz) (fun σ hz => ?_)
            refine zv_aload_n (j := 1) G dX10_where_154 rfl rfl ?_
            refine zg_X10_109 G dX10_where_155 ?_
            refine zv_iconst (v := 3) G dX10_where_158 (by decide) ?_
            refine zv_aload_n (j := 1) G dX10_where_159 rfl rfl ?_
            refine zg_X10_194 G dX10_where_160 ?_
            refine zv_iast G (by decide) rfl (fun _ => rfl) (z_in (by decide) (by decide)) dX10_where_163 ?_
            refine zv_gen (R9 := zwq 12 σ1) (zwq_w hz) (fun σ hz => ?_)
            refine zv_aload_n (j := 1) G dX10_where_164 rfl rfl ?_
            refine zg_X10_109 G dX10_where_165 ?_
            refine zv_iconst (v := 4) G dX10_where_168 (by decide) ?_
            refine zv_iload (j := 0) G dX10_where_169 rfl ?_
            refine zv_iast G (by decide) rfl (fun _ => rfl) (z_in (by decide) (by decide)) dX10_where_171 ?_
            refine zv_gen (R9 := zwq 12 σ1) (zwq_w hz) (fun σ hz => ?_)
            refine zv_aload_n (j := 1) G dX10_where_172 rfl rfl ?_
            refine zg_X10_109 G dX10_where_173 ?_
            refine zv_iconst (v := 5) G dX10_where_176 (by decide) ?_
            refine zv_iload (j := 0) G dX10_where_177 rfl ?_
            refine zv_aload_n (j := 1) G dX10_where_179 rfl rfl ?_
            refine zg_X10_194 G dX10_where_180 ?_
            refine zv_isub G dX10_where_183 ?_
            refine zv_iast G (by decide) rfl (fun _ => rfl) (z_in (by decide) (by decide)) dX10_where_184 ?_
            refine zv_gen (R9 := zwq 12 σ1) (zwq_w hz) (fun σ hz => ?_)
            refine zv_aload_n (j := 1) G dX10_where_185 rfl rfl ?_
            refine zg_X10_109 G dX10_where_186 ?_
            refine zv_bipush (v := 6) G dX10_where_189 (by decide) ?_
            refine zv_iload (j := 6) G dX10_where_191 rfl ?_
            refine zv_iast G (by decide) rfl (fun _ => rfl) (z_in (by decide) (by decide)) dX10_where_193 ?_
            refine zv_gen (R9 := zwq 12 σ1) (zwq_w hz) (fun σ hz => ?_)
            refine zv_aload_n (j := 1) G dX10_where_194 rfl rfl ?_
            refine zv_callVi (as := []) G (by decide) rfl rfl (zc_X10_worth l E  σ hz.2) zk_X10_worth zm_1662 rfl ⟨(Nat.le_of_ble_eq_true rfl), (Nat.le_of_ble_eq_true rfl)⟩ ⟨Nat.zero_le _, Nat.zero_le _⟩ (Nat.le_of_ble_eq_true rfl) dX10_where_195 (fun r_195 σ h_195 => ?_)
            have hz := zwq_o hz h_195
            refine zv_istore (lv' := [(10, za_I r_195), (9, za_I r_95), (0, za_O 19 93), (1, za_I t), (5, za_I y5_68), (6, za_I y6_68), (7, za_I y7_68), (8, za_I y8_68)]) G dX10_where_198 (by decide) rfl ?_
            refine zv_iload (j := 4) G dX10_where_200 rfl ?_
            refine zv_iload (j := 0) G dX10_where_202 rfl ?_
            have J_215 : ∀ (s0_215 : Int32) (σ : za_S) (hz : zwq 12 σ1 σ), zV p l e (zRm 215 6343) s m args below meth c E (za_A E) 11 0 0 (MQ below (va_Qi (fun r σ' => zwx σ0 σ') (zB E) (za_A E)) args s 0 0 (za_A E)) 215 [(0, za_O 19 93), (1, za_I t), (6, za_I y6_68), (7, za_I y7_68), (8, za_I y8_68), (9, za_I r_95), (10, za_I r_195)] [za_I s0_215, za_I y5_68] σ := by
              intro s0_215 σ hz
              refine zv_ior G dX10_where_215 ?_
              refine zv_top (fun x_216 e_216 => ?_)
              refine zv_istore (lv' := [(5, za_I x_216), (0, za_O 19 93), (1, za_I t), (6, za_I y6_68), (7, za_I y7_68), (8, za_I y8_68), (9, za_I r_95), (10, za_I r_195)]) G dX10_where_216 (by decide) rfl ?_
              refine zv_iload (j := 3) G dX10_where_218 rfl ?_
              refine zv_iload (j := 7) G dX10_where_220 rfl ?_
              have J_236 : ∀ (s0_236 : Int32) (σ : za_S) (hz : zwq 12 σ1 σ), zV p l e (zRm 215 6343) s m args below meth c E (za_A E) 11 0 0 (MQ below (va_Qi (fun r σ' => zwx σ0 σ') (zB E) (za_A E)) args s 0 0 (za_A E)) 236 [(0, za_O 19 93), (1, za_I t), (5, za_I x_216), (7, za_I y7_68), (8, za_I y8_68), (10, za_I r_195)] [za_I s0_236, za_I y6_68] σ := by
                intro s0_236 σ hz
                refine zv_iadd G dX10_where_236 ?_
                refine zv_top (fun x_237 e_237 => ?_)
                first | have q_237 := z_addf e_237 (a := y6_68.toInt) (b := s0_236.toInt) rfl rfl (by omega) (by omega) | skip
                refine zv_istore (lv' := [(6, za_I x_237), (0, za_O 19 93), (1, za_I t), (5, za_I x_216), (7, za_I y7_68), (8, za_I y8_68), (10, za_I r_195)]) G dX10_where_237 (by decide) rfl ?_
                refine zv_iload (j := 4) G dX10_where_239 rfl ?_
                refine zv_iload (j := 6) G dX10_where_241 rfl ?_
                refine zv_iadd G dX10_where_243 ?_
                refine zv_top (fun x_244 e_244 => ?_)
                first | have q_244 := z_addf e_244 (a := y7_68.toInt) (b := r_195.toInt) rfl rfl (by omega) (by omega) | skip
                refine zv_istore (lv' := [(7, za_I x_244), (6, za_I x_237), (0, za_O 19 93), (1, za_I t), (5, za_I x_216), (8, za_I y8_68), (10, za_I r_195)]) G dX10_where_244 (by decide) rfl ?_
                obtain ⟨x_246, e_246⟩ : ∃ y : Int32, y = y8_68 + 1 := ⟨_, rfl⟩
                refine zv_iinc (j := 5) (v := x_246) (lv' := [(8, za_I x_246), (7, za_I x_244), (6, za_I x_237), (0, za_O 19 93), (1, za_I t), (5, za_I x_216), (10, za_I r_195)]) G dX10_where_246 rfl (by rw [e_246]; rfl) (by decide) rfl ?_
                first | have q_246 := z_inc9 (by omega) e_246 | skip
                refine zv_goto (tgt := 68) G dX10_where_249 (by decide) ?_
                refine zv_sub [3, 4, 5, 2, 1, 0] (lv' := [(0, za_O 19 93), (1, za_I t), (5, za_I x_216), (6, za_I x_237), (7, za_I x_244), (8, za_I x_246)]) rfl ?_
                exact ih_68 x_216 x_237 x_244 x_246 σ hz (by first | decide | omega) (by have := z_inc9 (by omega) e_246; omega) (by omega)
              refine zv_if_le (tgt := 235) G dX10_where_222 (by decide) (fun c_222 => ?_) (fun c_222 => ?_)
              · have k_222 := z_cle c_222 (a := r_195.toInt) (b := 0) rfl rfl
                refine zv_iconst (v := 0) G dX10_where_235 (by decide) ?_
                refine zv_sub [1, 2, 0, 4, 5, 7] (lv' := [(0, za_O 19 93), (1, za_I t), (5, za_I x_216), (7, za_I y7_68), (8, za_I y8_68), (10, za_I r_195)]) rfl ?_
                exact J_236 (0 : Int32) σ hz
              · have k_222 := z_cnle c_222 (a := r_195.toInt) (b := 0) rfl rfl
                refine zv_iload (j := 6) G dX10_where_225 rfl ?_
                refine zv_aload_n (j := 1) G dX10_where_227 rfl rfl ?_
                refine zg_X10_194 G dX10_where_228 ?_
                refine zv_isub G dX10_where_231 ?_
                refine zv_goto (tgt := 236) G dX10_where_232 (by decide) ?_
                refine zv_sub [1, 2, 0, 4, 5, 7] (lv' := [(0, za_O 19 93), (1, za_I t), (5, za_I x_216), (7, za_I y7_68), (8, za_I y8_68), (10, za_I r_195)]) rfl ?_
                exact J_236 (r_95 - (σ.1 93 16)) σ hz
            refine zv_if_le (tgt := 214) G dX10_where_204 (by decide) (fun c_204 => ?_) (fun c_204 => ?_)
            · have k_204 := z_cle c_204 (a := r_195.toInt) (b := 0) rfl rfl
              refine zv_iconst (v := 0) G dX10_where_214 (by decide) ?_
              refine zv_sub [2, 3, 5, 6, 7, 1, 0] (lv' := [(0, za_O 19 93), (1, za_I t), (6, za_I y6_68), (7, za_I y7_68), (8, za_I y8_68), (9, za_I r_95), (10, za_I r_195)]) rfl ?_
              exact J_215 (0 : Int32) σ hz
            · have k_204 := z_cnle c_204 (a := r_195.toInt) (b := 0) rfl rfl
              refine zv_iconst (v := 1) G dX10_where_207 (by decide) ?_
              refine zv_iload (j := 7) G dX10_where_208 rfl ?_
              refine zv_ishl G dX10_where_210 ?_
              refine zv_goto (tgt := 215) G dX10_where_211 (by decide) ?_
              refine zv_sub [2, 3, 5, 6, 7, 1, 0] (lv' := [(0, za_O 19 93), (1, za_I t), (6, za_I y6_68), (7, za_I y7_68), (8, za_I y8_68), (9, za_I r_95), (10, za_I r_195)]) rfl ?_
              exact J_215 (1 <<< (y8_68 &&& 31)) σ hz
      refine zv_istore (lv' := [(8, za_I 0), (7, za_I 0), (6, za_I 0), (5, za_I 0), (4, za_I r_28), (3, za_I r_19), (2, za_I r_8), (0, za_O 19 93), (1, za_I t)]) G dX10_where_66 (by decide) rfl ?_
      refine zv_sub [7, 8, 3, 2, 1, 0] (lv' := [(0, za_O 19 93), (1, za_I t), (5, za_I 0), (6, za_I 0), (7, za_I 0), (8, za_I 0)]) rfl ?_
      exact J_68 _ (0 : Int32) (0 : Int32) (0 : Int32) (0 : Int32) σ hz (by first | decide | omega) (by decide) (Nat.lt_succ_self _)
    · have f_48 := fun q9 => (h_48.2.mpr q9) c_51
      refine zv_iconst (v := (-1)) G dX10_where_54 (by decide) ?_
      exact zv_iret G hr dX10_where_55 (zwx_of hb hJ1 hz.1)
  · have k_35 := z_cnle c_35 (a := 0) (b := r_28.toInt) rfl rfl
    refine zv_iload (j := 0) G dX10_where_38 rfl ?_
    refine zv_iconst (v := 1) G dX10_where_40 (by decide) ?_
    refine zv_iadd G dX10_where_41 ?_
    refine zv_sipush (v := 1000) G dX10_where_42 (by decide) ?_
    refine zv_isub G dX10_where_45 ?_
    exact zv_iret G hr dX10_where_46 (zwx_of hb hJ1 hz.1)
set_option maxHeartbeats 4000000 in
set_option maxRecDepth 100000 in
theorem zc_X10_readsPart (l : Launch) (E : za_E) (hw : Int32) (σ0 : za_S) (hp : zpo σ0) : zMi l E yX10_readsPart cX10_readsPart 3 (Option.some Jvm.ClassFile.FieldType.int) 6 128 [za_O 19 93, za_I hw] σ0 (fun r σ' => zat 0 σ0 σ' ∧ (hw = 116 → r.toInt ≤ 1)) := by
  refine zMi_of [(0, za_O 19 93), (1, za_I hw)] (by decide) rfl rfl (Nat.le_of_ble_eq_true rfl) ?_
  intro ho p e s m args below meth c G hr
  refine zv_gen (R9 := zat 0 σ0) (zat_r hp) (fun σ hz => ?_)
  refine zv_iload_n (j := 1) G dX10_readsPart_0 rfl rfl ?_
  rcases Decidable.em (hw = 100) with q_1_100 | q_1_100
  · refine zv_look (off := 51) (tgt := 52) G dX10_readsPart_1 (by decide) (by rw [q_1_100]; decide) (by decide) ?_
    refine zv_aload_n (j := 0) G dX10_readsPart_52 rfl rfl ?_
    refine zv_iconst (v := 1) G dX10_readsPart_53 (by decide) ?_
    refine zv_callVi (as := [za_I 1]) G (by decide) rfl rfl (zc_X10_number l E (1 : Int32) σ (zat_o hz (by decide) hp) (by decide)) zk_X10_number zm_1506 rfl ⟨(Nat.le_of_ble_eq_true rfl), (Nat.le_of_ble_eq_true rfl)⟩ ⟨Nat.zero_le _, Nat.zero_le _⟩ (Nat.le_of_ble_eq_true rfl) dX10_readsPart_54 (fun r_54 σ h_54 => ?_)
    have hz : zat 0 σ0 σ := by rcases h_54 with ⟨-, -, k9⟩ | ⟨-, k9⟩ <;> exact zat_m (zat_t hz k9) (by decide)
    exact zv_iret G hr dX10_readsPart_57 ⟨hz, fun e9 => absurd e9 (by rw [q_1_100]; decide)⟩
  rcases Decidable.em (hw = 110) with q_1_110 | q_1_110
  · refine zv_look (off := 65) (tgt := 66) G dX10_readsPart_1 (by decide) (by rw [q_1_110]; decide) (by decide) ?_
    refine zv_aload_n (j := 0) G dX10_readsPart_66 rfl rfl ?_
    refine zv_callVi (as := []) G (by decide) rfl rfl (zc_X10_two l E  σ (zat_o hz (by decide) hp)) zk_X10_two zm_1517 rfl ⟨(Nat.le_of_ble_eq_true rfl), (Nat.le_of_ble_eq_true rfl)⟩ ⟨Nat.zero_le _, Nat.zero_le _⟩ (Nat.le_of_ble_eq_true rfl) dX10_readsPart_67 (fun r_67 σ h_67 => ?_)
    have hz := zat_m (zat_t hz h_67) (show (0 : Int) ≤ 0 + 0 by decide)
    exact zv_iret G hr dX10_readsPart_70 ⟨hz, fun e9 => absurd e9 (by rw [q_1_110]; decide)⟩
  rcases Decidable.em (hw = 116) with q_1_116 | q_1_116
  · refine zv_look (off := 43) (tgt := 44) G dX10_readsPart_1 (by decide) (by rw [q_1_116]; decide) (by decide) ?_
    refine zv_aload_n (j := 0) G dX10_readsPart_44 rfl rfl ?_
    refine zv_ldsW (q := 13) (tx := "01") G (by decide +kernel) (by decide) dX10_readsPart_45 ?_
    refine zv_callVi (as := [za_O 50 13]) G (by decide) rfl rfl (zc_X10_takesOf l E 13 σ (zat_o hz (by decide) hp)) zk_X10_takesOf zm_1487 rfl ⟨(Nat.le_of_ble_eq_true rfl), (Nat.le_of_ble_eq_true rfl)⟩ ⟨Nat.zero_le _, Nat.zero_le _⟩ (Nat.le_of_ble_eq_true rfl) dX10_readsPart_48 (fun r_48 σ h_48 => ?_)
    have hz : zat 0 σ0 σ := by rcases h_48 with ⟨-, k9⟩ | ⟨-, k9⟩ <;> exact zat_m (zat_t hz k9) (by decide)
    exact zv_iret G hr dX10_readsPart_51 ⟨hz, fun _ => by have u9 : ((za_len.getD 13 0 : Nat) : Int) = 2 := (by decide); rcases h_48 with ⟨k9, -⟩ | ⟨k9, -⟩; rw [k9]; decide; omega⟩
  rcases Decidable.em (hw = 119) with q_1_119 | q_1_119
  · refine zv_look (off := 57) (tgt := 58) G dX10_readsPart_1 (by decide) (by rw [q_1_119]; decide) (by decide) ?_
    refine zv_aload_n (j := 0) G dX10_readsPart_58 rfl rfl ?_
    refine zv_ldsW (q := 14) (tx := "012") G (by decide +kernel) (by decide) dX10_readsPart_59 ?_
    refine zv_callVi (as := [za_O 50 14]) G (by decide) rfl rfl (zc_X10_takesOf l E 14 σ (zat_o hz (by decide) hp)) zk_X10_takesOf zm_1487 rfl ⟨(Nat.le_of_ble_eq_true rfl), (Nat.le_of_ble_eq_true rfl)⟩ ⟨Nat.zero_le _, Nat.zero_le _⟩ (Nat.le_of_ble_eq_true rfl) dX10_readsPart_62 (fun r_62 σ h_62 => ?_)
    have hz : zat 0 σ0 σ := by rcases h_62 with ⟨-, k9⟩ | ⟨-, k9⟩ <;> exact zat_m (zat_t hz k9) (by decide)
    exact zv_iret G hr dX10_readsPart_65 ⟨hz, fun e9 => absurd e9 (by rw [q_1_119]; decide)⟩
  refine zv_look (off := 70) (tgt := 71) G dX10_readsPart_1 (by decide) (by show Op.lookupswitch.offset [(100, 51), (110, 65), (116, 43), (119, 57)] 70 hw.toInt = 70; rw [lv_osw (a := 100) q_1_100 rfl, lv_osw (a := 110) q_1_110 rfl, lv_osw (a := 116) q_1_116 rfl, lv_osw (a := 119) q_1_119 rfl]; rfl) (by decide) ?_
  refine zv_aload_n (j := 0) G dX10_readsPart_71 rfl rfl ?_
  refine zv_callVi (as := []) G (by decide) rfl rfl (zc_X10_two l E  σ (zat_o hz (by decide) hp)) zk_X10_two zm_1517 rfl ⟨(Nat.le_of_ble_eq_true rfl), (Nat.le_of_ble_eq_true rfl)⟩ ⟨Nat.zero_le _, Nat.zero_le _⟩ (Nat.le_of_ble_eq_true rfl) dX10_readsPart_72 (fun r_72 σ h_72 => ?_)
  have hz := zat_m (zat_t hz h_72) (show (0 : Int) ≤ 0 + 0 by decide)
  refine zv_istore_n (lv' := [(2, za_I r_72), (0, za_O 19 93), (1, za_I hw)]) G dX10_readsPart_75 rfl (by decide) rfl ?_
  refine zv_iload_n (j := 0) G dX10_readsPart_76 rfl rfl ?_
  refine zv_if_ne (tgt := 85) G dX10_readsPart_77 (by decide) (fun c_77 => ?_) (fun c_77 => ?_)
  · refine zv_iload_n (j := 0) G dX10_readsPart_85 rfl rfl ?_
    exact zv_iret G hr dX10_readsPart_86 ⟨hz, fun e9 => absurd e9 q_1_116⟩
  · refine zv_bipush (v := 100) G dX10_readsPart_80 (by decide) ?_
    refine zv_goto (tgt := 86) G dX10_readsPart_82 (by decide) ?_
    exact zv_iret G hr dX10_readsPart_86 ⟨hz, fun e9 => absurd e9 q_1_116⟩
set_option maxHeartbeats 4000000 in
set_option maxRecDepth 100000 in
theorem zc_X10_partsOf (l : Launch) (E : za_E) (sg : Int32) (σ : za_S)  : zMr l E yX10_partsOf cX10_partsOf 1 (Option.some (Jvm.ClassFile.FieldType.object "java/lang/String")) 1 21 [za_I sg] σ (fun r σ' => ∃ w', r = za_O 50 w' ∧ w' < 19 ∧ (8 ≤ w' ∧ w' ≤ 12 ∧ (sg = 4 → w' = 11)) ∧ σ' = σ) := by
  refine zMr_of [(0, za_I sg)] (by decide) rfl rfl (Nat.le_of_ble_eq_true rfl) ?_
  intro ho p e s m args below meth c G hr
  refine zv_iload_n (j := 0) G dX10_partsOf_0 rfl rfl ?_
  refine zv_iconst (v := 2) G dX10_partsOf_1 (by decide) ?_
  refine zv_icmp_ge (tgt := 11) G dX10_partsOf_2 (by decide) (fun c_2 => ?_) (fun c_2 => ?_)
  · refine zv_iload_n (j := 0) G dX10_partsOf_11 rfl rfl ?_
    refine zv_iconst (v := 2) G dX10_partsOf_12 (by decide) ?_
    refine zv_icmp_ne (tgt := 22) G dX10_partsOf_13 (by decide) (fun c_13 => ?_) (fun c_13 => ?_)
    · refine zv_iload_n (j := 0) G dX10_partsOf_22 rfl rfl ?_
      refine zv_iconst (v := 3) G dX10_partsOf_23 (by decide) ?_
      refine zv_icmp_ne (tgt := 33) G dX10_partsOf_24 (by decide) (fun c_24 => ?_) (fun c_24 => ?_)
      · refine zv_iload_n (j := 0) G dX10_partsOf_33 rfl rfl ?_
        refine zv_iconst (v := 4) G dX10_partsOf_34 (by decide) ?_
        refine zv_icmp_ne (tgt := 44) G dX10_partsOf_35 (by decide) (fun c_35 => ?_) (fun c_35 => ?_)
        · refine zv_ldsW (q := 12) (tx := "w") G (by decide +kernel) (by decide) dX10_partsOf_44 ?_
          exact zv_aret G hr dX10_partsOf_47 (Or.inl ⟨_, rfl⟩) ⟨12, rfl, by decide, ⟨by decide, by decide, fun e => absurd e c_35⟩, rfl⟩
        · refine zv_ldsW (q := 11) (tx := "t") G (by decide +kernel) (by decide) dX10_partsOf_38 ?_
          refine zv_goto (tgt := 47) G dX10_partsOf_41 (by decide) ?_
          exact zv_aret G hr dX10_partsOf_47 (Or.inl ⟨_, rfl⟩) ⟨11, rfl, by decide, ⟨by decide, by decide, fun _ => rfl⟩, rfl⟩
      · refine zv_ldsW (q := 10) (tx := "tdne") G (by decide +kernel) (by decide) dX10_partsOf_27 ?_
        refine zv_goto (tgt := 47) G dX10_partsOf_30 (by decide) ?_
        exact zv_aret G hr dX10_partsOf_47 (Or.inl ⟨_, rfl⟩) ⟨10, rfl, by decide, ⟨by decide, by decide, fun e => absurd c_24 (by rw [e]; decide)⟩, rfl⟩
    · refine zv_ldsW (q := 9) (tx := "dnne") G (by decide +kernel) (by decide) dX10_partsOf_16 ?_
      refine zv_goto (tgt := 47) G dX10_partsOf_19 (by decide) ?_
      exact zv_aret G hr dX10_partsOf_47 (Or.inl ⟨_, rfl⟩) ⟨9, rfl, by decide, ⟨by decide, by decide, fun e => absurd c_13 (by rw [e]; decide)⟩, rfl⟩
  · refine zv_ldsW (q := 8) (tx := "tdnne") G (by decide +kernel) (by decide) dX10_partsOf_5 ?_
    refine zv_goto (tgt := 47) G dX10_partsOf_8 (by decide) ?_
    exact zv_aret G hr dX10_partsOf_47 (Or.inl ⟨_, rfl⟩) ⟨8, rfl, by decide, ⟨by decide, by decide, fun e => absurd (by rw [e]; decide) c_2⟩, rfl⟩
set_option maxHeartbeats 4000000 in
set_option maxRecDepth 100000 in
theorem zc_X10_readsAct (l : Launch) (E : za_E)  (σ0 : za_S) (hp : zpo σ0) (hl : (σ0.1 93 5).toInt < (σ0.1 93 6).toInt) (hc : 0 ≤ (σ0.1 93 23).toInt ∧ (σ0.1 93 23).toInt ≤ (σ0.1 93 5).toInt) : zMi l E yX10_readsAct cX10_readsAct 4 (Option.some Jvm.ClassFile.FieldType.boolean) 7 150 [za_O 19 93] σ0 (fun r σ' => (r = 0 ∨ r = 1) ∧ zrA r σ0 σ') := by
  refine zMi_of [(0, za_O 19 93)] (by decide) rfl rfl (Nat.le_of_ble_eq_true rfl) ?_
  intro ho p e s m args below meth c G hr
  refine zv_gen (R9 := (fun σ => σ = σ0)) rfl (fun σ hz => ?_)
  refine zv_aload_n (j := 0) G dX10_readsAct_0 rfl rfl ?_
  refine zg_X10_332 G dX10_readsAct_1 ?_
  refine zv_top (fun x_4 e_4 => ?_)
  refine zv_istore_n (lv' := [(1, za_I x_4), (0, za_O 19 93)]) G dX10_readsAct_4 rfl (by decide) rfl ?_
  have k_4 : x_4.toNatClampNeg = (σ0.1 93 23).toInt.toNat := by rw [e_4, hz]; rfl
  have i_4 : vp_in x_4 80 := by rw [e_4, hz]; exact z_in hc.1 (by have u9 := hp; unfold zpo at u9; omega)
  refine zv_aload_n (j := 1) G dX10_readsAct_5 rfl rfl ?_
  refine zg_X10_130 G dX10_readsAct_6 ?_
  refine zv_iload_n (j := 0) G dX10_readsAct_9 rfl rfl ?_
  refine zv_aload_n (j := 1) G dX10_readsAct_10 rfl rfl ?_
  refine zv_ldsW (q := 7) (tx := "asrcjw") G (by decide +kernel) (by decide) dX10_readsAct_11 ?_
  refine zv_callVi (as := [za_O 50 7]) G (by decide) rfl rfl (zc_X10_takesOf l E 7 σ (by rw [hz]; exact hp)) zk_X10_takesOf zm_1487 rfl ⟨(Nat.le_of_ble_eq_true rfl), (Nat.le_of_ble_eq_true rfl)⟩ ⟨Nat.zero_le _, Nat.zero_le _⟩ (Nat.le_of_ble_eq_true rfl) dX10_readsAct_14 (fun r_14 σ h_14 => ?_)
  rw [hz] at h_14
  have hz : zra (σ0.1 93 23).toInt.toNat σ0 σ ∧ ((σ0.1 93 5).toInt + 1 ≤ (σ.1 93 5).toInt ∨ r_14 = -1) ∧ σ.1 93 23 = σ0.1 93 23 := by rcases h_14 with ⟨k8, k9⟩ | ⟨k8, k9⟩; exact ⟨zra_a (zra_r hp) k9 (by decide), Or.inr k8, k9.1.2.2 23 (by decide)⟩; exact ⟨zra_a (zra_r hp) k9 (by decide), Or.inl k9.2.1, k9.1.2.2 23 (by decide)⟩
  refine zv_iast G (by decide) rfl (fun _ => rfl) i_4 dX10_readsAct_17 ?_
  refine zv_gen (R9 := (fun σ => zra (σ0.1 93 23).toInt.toNat σ0 σ ∧ ((σ0.1 93 5).toInt + 1 ≤ (σ.1 93 5).toInt ∨ r_14 = -1) ∧ σ.1 93 23 = σ0.1 93 23 ∧ σ.1 103 (σ0.1 93 23).toInt.toNat = r_14)) (by rw [k_4]; exact ⟨zra_s hz.1, by rw [za_si_ne _ _ (Or.inl (by decide))]; exact hz.2.1, by rw [za_si_ne _ _ (Or.inl (by decide))]; exact hz.2.2, za_si_same _ _ _ _⟩) (fun σ hz => ?_)
  refine zv_aload_n (j := 1) G dX10_readsAct_18 rfl rfl ?_
  refine zv_dupO G dX10_readsAct_19 ?_
  refine zg_X10_332 G dX10_readsAct_20 ?_
  refine zv_iconst (v := 1) G dX10_readsAct_23 (by decide) ?_
  refine zv_iadd G dX10_readsAct_24 ?_
  refine zp_X10_332 G dX10_readsAct_25 ?_
  refine zv_gen (R9 := zrb (σ0.1 93 23).toInt.toNat r_14 σ0) ⟨zra_n hz.1, by rw [za_si_ne _ _ (Or.inr (by decide))]; exact hz.2.1, by rw [(za_si_off 103 (by decide)).1]; exact hz.2.2.2, by have u9 := hp; unfold zpo at u9; rw [za_si_same, hz.2.2.1, z_add (by rw [z_one]; omega) (by rw [z_one]; omega), z_one]⟩ (fun σ hz => ?_)
  refine zv_aload_n (j := 1) G dX10_readsAct_28 rfl rfl ?_
  refine zg_X10_130 G dX10_readsAct_29 ?_
  refine zv_iload_n (j := 0) G dX10_readsAct_32 rfl rfl ?_
  refine zv_iald G (by decide) rfl i_4 dX10_readsAct_33 ?_
  refine zv_if_ge (tgt := 39) G dX10_readsAct_34 (by decide) (fun c_34 => ?_) (fun c_34 => ?_)
  · have k_34 := z_cle c_34 (a := 0) (b := (σ.1 103 x_4.toNatClampNeg).toInt) rfl rfl
    have s_34 : ¬ r_14 = -1 := fun e9 => by rw [k_4, hz.2.2.1, e9] at k_34; exact absurd k_34 (by decide)
    refine zv_aload_n (j := 1) G dX10_readsAct_39 rfl rfl ?_
    refine zg_X10_130 G dX10_readsAct_40 ?_
    refine zv_iload_n (j := 0) G dX10_readsAct_43 rfl rfl ?_
    refine zv_iald G (by decide) rfl i_4 dX10_readsAct_44 ?_
    refine zv_callSr (as := [za_I (σ.1 103 x_4.toNatClampNeg)]) G (zc_X10_partsOf l E (σ.1 103 x_4.toNatClampNeg) σ ) zk_X10_partsOf zm_1493 rfl ⟨(Nat.le_of_ble_eq_true rfl), (Nat.le_of_ble_eq_true rfl)⟩ ⟨Nat.zero_le _, Nat.zero_le _⟩ (Nat.le_of_ble_eq_true rfl) dX10_readsAct_45 (fun r_45 σ h_45 => ?_)
    obtain ⟨w_45, rfl, h_w_45, t_45, rfl⟩ := h_45
    have u_45 : r_14 = 4 → w_45 = 11 := fun e9 => t_45.2.2 (by rw [k_4, hz.2.2.1]; exact e9)
    refine zv_astore_n (lv' := [(2, za_O 50 w_45), (1, za_I x_4), (0, za_O 19 93)]) G dX10_readsAct_48 rfl (by decide) rfl ?_
    refine zv_iconst (v := 0) G dX10_readsAct_49 (by decide) ?_
    have J_51 : ∀ (n : Nat) (y3_51 : Int32) (σ : za_S) (hz : zrb (σ0.1 93 23).toInt.toNat r_14 σ0 σ) (v_51 : r_14 = 4 → ¬ y3_51.toInt = 0 → 0 ≤ (σ.1 (105 + (σ0.1 93 23).toInt.toNat) 0).toInt ∧ (σ.1 (105 + (σ0.1 93 23).toInt.toNat) 0).toInt ≤ 1) (i3_51 : 0 ≤ y3_51.toInt) (hn_51 : (2147483648 - y3_51.toInt).toNat < n), zV p l e (zRm 7 150) s m args below meth c E (za_A E) 4 0 0 (MQ below (va_Qi (fun r σ' => (r = 0 ∨ r = 1) ∧ zrA r σ0 σ') (zB E) (za_A E)) args s 0 0 (za_A E)) 51 [(0, za_O 19 93), (1, za_I x_4), (2, za_O 50 w_45), (3, za_I y3_51)] [] σ := by
      intro n
      induction n with
      | zero => intro y3_51 σ hz v_51 i3_51 hn; exact absurd hn (Nat.not_lt_zero _)
      | succ n ih_51 =>
        intro y3_51 σ hz v_51 i3_51 hn_51
        refine zv_iload_n (j := 3) G dX10_readsAct_51 rfl rfl ?_
        refine zv_aload_n (j := 2) G dX10_readsAct_52 rfl rfl ?_
        refine zv_callTi (as := []) G (zc_J0_length_8abf5 l E w_45 σ ) zk_J0_length_8abf5 zm_1491 rfl ⟨(Nat.le_of_ble_eq_true rfl), (Nat.le_of_ble_eq_true rfl)⟩ ⟨Nat.zero_le _, Nat.zero_le _⟩ (Nat.le_of_ble_eq_true rfl) dX10_readsAct_53 (fun r_53 σ h_53 => ?_)
        obtain ⟨h_53, rfl⟩ := h_53
        refine zv_icmp_ge (tgt := 95) G dX10_readsAct_56 (by decide) (fun c_56 => ?_) (fun c_56 => ?_)
        · have k_56 := z_cle c_56 (a := r_53.toInt) (b := y3_51.toInt) rfl rfl
          refine zv_iconst (v := 1) G dX10_readsAct_95 (by decide) ?_
          exact zv_zret G hr dX10_readsAct_96 (by decide) ⟨Or.inr rfl, hz.1, fun _ => ⟨hz.2.1.resolve_right s_34, hz.2.2.2, fun e4 => v_51 (by rw [← hz.2.2.1]; exact e4) (z_act2 (u_45 (by rw [← hz.2.2.1]; exact e4)) h_53 k_56)⟩⟩
        · have k_56 := z_cnle c_56 (a := r_53.toInt) (b := y3_51.toInt) rfl rfl
          refine zv_aload_n (j := 0) G dX10_readsAct_59 rfl rfl ?_
          refine zg_X10_135 G dX10_readsAct_60 ?_
          refine zv_iload_n (j := 1) G dX10_readsAct_63 rfl rfl ?_
          refine zv_aaldR (kd2 := 25) (b := 105) (r := 1) G (by decide) (by decide) rfl i_4 (by decide +kernel) dX10_readsAct_64 ?_
          refine zv_iload_n (j := 3) G dX10_readsAct_65 rfl rfl ?_
          refine zv_aload_n (j := 0) G dX10_readsAct_66 rfl rfl ?_
          refine zv_aload_n (j := 2) G dX10_readsAct_67 rfl rfl ?_
          refine zv_iload_n (j := 3) G dX10_readsAct_68 rfl rfl ?_
          refine zv_callTi (as := [za_I y3_51]) G (zc_J0_charAt_5068e l E w_45 y3_51 σ ⟨i3_51, by rw [← h_53]; rw [z_le] at c_56; omega⟩) zk_J0_charAt_5068e zm_1492 rfl ⟨(Nat.le_of_ble_eq_true rfl), (Nat.le_of_ble_eq_true rfl)⟩ ⟨Nat.zero_le _, Nat.zero_le _⟩ (Nat.le_of_ble_eq_true rfl) dX10_readsAct_69 (fun r_69 σ h_69 => ?_)
          obtain ⟨h_69, rfl⟩ := h_69
          refine zv_callVi (as := [za_I r_69]) G (by decide) rfl rfl (zc_X10_readsPart l E r_69 σ (zra_o hz.1 hp)) zk_X10_readsPart zm_1501 rfl ⟨(Nat.le_of_ble_eq_true rfl), (Nat.le_of_ble_eq_true rfl)⟩ ⟨Nat.zero_le _, Nat.zero_le _⟩ (Nat.le_of_ble_eq_true rfl) dX10_readsAct_72 (fun r_72 σ h_72 => ?_)
          have w_72 := h_72.2
          have hz := zrb_a hz h_72.1 (by decide)
          refine zv_iast G (by decide) rfl (fun _ => rfl) (z_in i3_51 (by have u9 := z_len5 ⟨t_45.1, t_45.2.1⟩; have u8 := z_lenT h_w_45; rw [← h_53] at u8; omega)) dX10_readsAct_75 ?_
          refine zv_gen (R9 := (fun σ => zrb (σ0.1 93 23).toInt.toNat r_14 σ0 σ ∧ σ.1 (105 + (σ0.1 93 23).toInt.toNat) y3_51.toNatClampNeg = r_72)) (by rw [Nat.one_mul, k_4]; exact ⟨zrb_v hz, za_si_same _ _ _ _⟩) (fun σ hz => ?_)
          refine zv_aload_n (j := 0) G dX10_readsAct_76 rfl rfl ?_
          refine zg_X10_135 G dX10_readsAct_77 ?_
          refine zv_iload_n (j := 1) G dX10_readsAct_80 rfl rfl ?_
          refine zv_aaldR (kd2 := 25) (b := 105) (r := 1) G (by decide) (by decide) rfl i_4 (by decide +kernel) dX10_readsAct_81 ?_
          refine zv_iload_n (j := 3) G dX10_readsAct_82 rfl rfl ?_
          refine zv_iald G (by decide) rfl (z_in i3_51 (by have u9 := z_len5 ⟨t_45.1, t_45.2.1⟩; have u8 := z_lenT h_w_45; rw [← h_53] at u8; omega)) dX10_readsAct_83 ?_
          refine zv_if_ge (tgt := 89) G dX10_readsAct_84 (by decide) (fun c_84 => ?_) (fun c_84 => ?_)
          · have k_84 := z_cle c_84 (a := 0) (b := (σ.1 (105 + 1 * x_4.toNatClampNeg) y3_51.toNatClampNeg).toInt) rfl rfl
            rw [Nat.one_mul, k_4, hz.2] at k_84
            obtain ⟨x_89, e_89⟩ : ∃ y : Int32, y = y3_51 + 1 := ⟨_, rfl⟩
            refine zv_iinc (j := 3) (v := x_89) (lv' := [(3, za_I x_89), (0, za_O 19 93), (1, za_I x_4), (2, za_O 50 w_45)]) G dX10_readsAct_89 rfl (by rw [e_89]; rfl) (by decide) rfl ?_
            first | have q_89 := z_inc9 (by omega) e_89 | skip
            refine zv_goto (tgt := 51) G dX10_readsAct_92 (by decide) ?_
            refine zv_sub [1, 2, 3, 0] (lv' := [(0, za_O 19 93), (1, za_I x_4), (2, za_O 50 w_45), (3, za_I x_89)]) rfl ?_
            exact ih_51 x_89 σ hz.1 (fun e9 _ => z_act (u_45 e9) i3_51 h_53 k_56 hz.2 k_84 w_72 h_69) (by have := z_inc c_56 e_89; omega) (z_meas c_56 e_89 hn_51)
          · have k_84 := z_cnle c_84 (a := 0) (b := (σ.1 (105 + 1 * x_4.toNatClampNeg) y3_51.toNatClampNeg).toInt) rfl rfl
            refine zv_iconst (v := 0) G dX10_readsAct_87 (by decide) ?_
            exact zv_zret G hr dX10_readsAct_88 (by decide) ⟨Or.inl rfl, hz.1.1, fun h => absurd rfl h⟩
    refine zv_istore_n (lv' := [(3, za_I 0), (2, za_O 50 w_45), (1, za_I x_4), (0, za_O 19 93)]) G dX10_readsAct_50 rfl (by decide) rfl ?_
    refine zv_sub [3, 2, 1, 0] (lv' := [(0, za_O 19 93), (1, za_I x_4), (2, za_O 50 w_45), (3, za_I 0)]) rfl ?_
    exact J_51 _ (0 : Int32) σ hz (fun _ h9 => absurd (by decide) h9) (by decide) (Nat.lt_succ_self _)
  · have k_34 := z_cnle c_34 (a := 0) (b := (σ.1 103 x_4.toNatClampNeg).toInt) rfl rfl
    refine zv_iconst (v := 0) G dX10_readsAct_37 (by decide) ?_
    exact zv_zret G hr dX10_readsAct_38 (by decide) ⟨Or.inl rfl, hz.1, fun h => absurd rfl h⟩
set_option maxHeartbeats 4000000 in
set_option maxRecDepth 100000 in
theorem zc_X10_does (l : Launch) (E : za_E) (k : Int32) (σ0 : za_S) (hk : 0 ≤ k.toInt ∧ k.toInt < 80) (hG : zG (σ0.1 99)) (ha : σ0.1 103 k.toNatClampNeg = 4 → 0 ≤ (σ0.1 (105 + 1 * k.toNatClampNeg) 0).toInt ∧ (σ0.1 (105 + 1 * k.toNatClampNeg) 0).toInt ≤ 1) : zMi l E yX10_does cX10_does 3 (Option.some Jvm.ClassFile.FieldType.int) 8 197 [za_O 19 93, za_I k] σ0 (fun r σ' => zfa 99 σ0 σ') := by
  refine zMi_of [(0, za_O 19 93), (1, za_I k)] (by decide) rfl rfl (Nat.le_of_ble_eq_true rfl) ?_
  intro ho p e s m args below meth c G hr
  refine zv_aload_n (j := 0) G dX10_does_0 rfl rfl ?_
  refine zg_X10_135 G dX10_does_1 ?_
  refine zv_iload_n (j := 1) G dX10_does_4 rfl rfl ?_
  refine zv_aaldR (kd2 := 25) (b := 105) (r := 1) G (by decide) (by decide) rfl (z_in hk.1 (by omega)) (by decide +kernel) dX10_does_5 ?_
  refine zv_astore_n (lv' := [(2, za_O 25 (105 + 1 * k.toNatClampNeg)), (0, za_O 19 93), (1, za_I k)]) G dX10_does_6 rfl (by decide) rfl ?_
  refine zv_aload_n (j := 1) G dX10_does_7 rfl rfl ?_
  refine zg_X10_130 G dX10_does_8 ?_
  refine zv_iload_n (j := 2) G dX10_does_11 rfl rfl ?_
  refine zv_iald G (by decide) rfl (z_in hk.1 (by omega)) dX10_does_12 ?_
  refine zv_top (fun x_13 e_13 => ?_)
  rcases Decidable.em (x_13 = 0) with q_13_0 | q_13_0
  · refine zv_tabIn (off := 35) (tgt := 48) G dX10_does_13 (by rw [q_13_0]; decide) (by rw [q_13_0]; decide) (by rw [q_13_0]; rfl) (by decide) ?_
    refine zv_aload_n (j := 1) G dX10_does_48 rfl rfl ?_
    refine zv_aload_n (j := 1) G dX10_does_49 rfl rfl ?_
    refine zg_X10_118 G dX10_does_50 ?_
    refine zv_aload_n (j := 0) G dX10_does_53 rfl rfl ?_
    refine zv_iconst (v := 0) G dX10_does_54 (by decide) ?_
    refine zv_iald G (by decide) rfl (z_in (by decide) (by decide)) dX10_does_55 ?_
    refine zv_aload_n (j := 0) G dX10_does_56 rfl rfl ?_
    refine zv_iconst (v := 1) G dX10_does_57 (by decide) ?_
    refine zv_iald G (by decide) rfl (z_in (by decide) (by decide)) dX10_does_58 ?_
    refine zv_aload_n (j := 0) G dX10_does_59 rfl rfl ?_
    refine zv_iconst (v := 2) G dX10_does_60 (by decide) ?_
    refine zv_iald G (by decide) rfl (z_in (by decide) (by decide)) dX10_does_61 ?_
    refine zv_aload_n (j := 0) G dX10_does_62 rfl rfl ?_
    refine zv_iconst (v := 3) G dX10_does_63 (by decide) ?_
    refine zv_iald G (by decide) rfl (z_in (by decide) (by decide)) dX10_does_64 ?_
    refine zv_aload_n (j := 0) G dX10_does_65 rfl rfl ?_
    refine zv_iconst (v := 4) G dX10_does_66 (by decide) ?_
    refine zv_iald G (by decide) rfl (z_in (by decide) (by decide)) dX10_does_67 ?_
    refine zv_callVi (as := [za_O 22 99, za_I (σ0.1 (105 + 1 * k.toNatClampNeg) (0 : Int32).toNatClampNeg), za_I (σ0.1 (105 + 1 * k.toNatClampNeg) (1 : Int32).toNatClampNeg), za_I (σ0.1 (105 + 1 * k.toNatClampNeg) (2 : Int32).toNatClampNeg), za_I (σ0.1 (105 + 1 * k.toNatClampNeg) (3 : Int32).toNatClampNeg), za_I (σ0.1 (105 + 1 * k.toNatClampNeg) (4 : Int32).toNatClampNeg)]) G (by decide) rfl rfl (zc_X10_addsOne l E 99 (σ0.1 (105 + 1 * k.toNatClampNeg) (0 : Int32).toNatClampNeg) (σ0.1 (105 + 1 * k.toNatClampNeg) (1 : Int32).toNatClampNeg) (σ0.1 (105 + 1 * k.toNatClampNeg) (2 : Int32).toNatClampNeg) (σ0.1 (105 + 1 * k.toNatClampNeg) (3 : Int32).toNatClampNeg) (σ0.1 (105 + 1 * k.toNatClampNeg) (4 : Int32).toNatClampNeg) σ0 (by decide) hG) zk_X10_addsOne zm_1367 rfl ⟨(Nat.le_of_ble_eq_true rfl), (Nat.le_of_ble_eq_true rfl)⟩ ⟨Nat.zero_le _, Nat.zero_le _⟩ (Nat.le_of_ble_eq_true rfl) dX10_does_68 (fun r_68 σ h_68 => ?_)
    exact zv_iret G hr dX10_does_71 h_68
  rcases Decidable.em (x_13 = 1) with q_13_1 | q_13_1
  · refine zv_tabIn (off := 59) (tgt := 72) G dX10_does_13 (by rw [q_13_1]; decide) (by rw [q_13_1]; decide) (by rw [q_13_1]; rfl) (by decide) ?_
    refine zv_aload_n (j := 1) G dX10_does_72 rfl rfl ?_
    refine zv_aload_n (j := 1) G dX10_does_73 rfl rfl ?_
    refine zg_X10_118 G dX10_does_74 ?_
    refine zv_aload_n (j := 0) G dX10_does_77 rfl rfl ?_
    refine zv_iconst (v := 0) G dX10_does_78 (by decide) ?_
    refine zv_iald G (by decide) rfl (z_in (by decide) (by decide)) dX10_does_79 ?_
    refine zv_aload_n (j := 0) G dX10_does_80 rfl rfl ?_
    refine zv_iconst (v := 1) G dX10_does_81 (by decide) ?_
    refine zv_iald G (by decide) rfl (z_in (by decide) (by decide)) dX10_does_82 ?_
    refine zv_aload_n (j := 0) G dX10_does_83 rfl rfl ?_
    refine zv_iconst (v := 2) G dX10_does_84 (by decide) ?_
    refine zv_iald G (by decide) rfl (z_in (by decide) (by decide)) dX10_does_85 ?_
    refine zv_aload_n (j := 0) G dX10_does_86 rfl rfl ?_
    refine zv_iconst (v := 3) G dX10_does_87 (by decide) ?_
    refine zv_iald G (by decide) rfl (z_in (by decide) (by decide)) dX10_does_88 ?_
    refine zv_aload_n (j := 0) G dX10_does_89 rfl rfl ?_
    refine zv_iconst (v := 4) G dX10_does_90 (by decide) ?_
    refine zv_iald G (by decide) rfl (z_in (by decide) (by decide)) dX10_does_91 ?_
    refine zv_callVi (as := [za_O 22 99, za_I (σ0.1 (105 + 1 * k.toNatClampNeg) (0 : Int32).toNatClampNeg), za_I (σ0.1 (105 + 1 * k.toNatClampNeg) (1 : Int32).toNatClampNeg), za_I (σ0.1 (105 + 1 * k.toNatClampNeg) (2 : Int32).toNatClampNeg), za_I (σ0.1 (105 + 1 * k.toNatClampNeg) (3 : Int32).toNatClampNeg), za_I (σ0.1 (105 + 1 * k.toNatClampNeg) (4 : Int32).toNatClampNeg)]) G (by decide) rfl rfl (zc_X10_setsOne l E 99 (σ0.1 (105 + 1 * k.toNatClampNeg) (0 : Int32).toNatClampNeg) (σ0.1 (105 + 1 * k.toNatClampNeg) (1 : Int32).toNatClampNeg) (σ0.1 (105 + 1 * k.toNatClampNeg) (2 : Int32).toNatClampNeg) (σ0.1 (105 + 1 * k.toNatClampNeg) (3 : Int32).toNatClampNeg) (σ0.1 (105 + 1 * k.toNatClampNeg) (4 : Int32).toNatClampNeg) σ0 (by decide) hG) zk_X10_setsOne zm_1403 rfl ⟨(Nat.le_of_ble_eq_true rfl), (Nat.le_of_ble_eq_true rfl)⟩ ⟨Nat.zero_le _, Nat.zero_le _⟩ (Nat.le_of_ble_eq_true rfl) dX10_does_92 (fun r_92 σ h_92 => ?_)
    exact zv_iret G hr dX10_does_95 h_92.2
  rcases Decidable.em (x_13 = 2) with q_13_2 | q_13_2
  · refine zv_tabIn (off := 83) (tgt := 96) G dX10_does_13 (by rw [q_13_2]; decide) (by rw [q_13_2]; decide) (by rw [q_13_2]; rfl) (by decide) ?_
    refine zv_aload_n (j := 1) G dX10_does_96 rfl rfl ?_
    refine zv_aload_n (j := 1) G dX10_does_97 rfl rfl ?_
    refine zg_X10_118 G dX10_does_98 ?_
    refine zv_aload_n (j := 0) G dX10_does_101 rfl rfl ?_
    refine zv_iconst (v := 0) G dX10_does_102 (by decide) ?_
    refine zv_iald G (by decide) rfl (z_in (by decide) (by decide)) dX10_does_103 ?_
    refine zv_aload_n (j := 0) G dX10_does_104 rfl rfl ?_
    refine zv_iconst (v := 1) G dX10_does_105 (by decide) ?_
    refine zv_iald G (by decide) rfl (z_in (by decide) (by decide)) dX10_does_106 ?_
    refine zv_aload_n (j := 0) G dX10_does_107 rfl rfl ?_
    refine zv_iconst (v := 2) G dX10_does_108 (by decide) ?_
    refine zv_iald G (by decide) rfl (z_in (by decide) (by decide)) dX10_does_109 ?_
    refine zv_aload_n (j := 0) G dX10_does_110 rfl rfl ?_
    refine zv_iconst (v := 3) G dX10_does_111 (by decide) ?_
    refine zv_iald G (by decide) rfl (z_in (by decide) (by decide)) dX10_does_112 ?_
    refine zv_callVi (as := [za_O 22 99, za_I (σ0.1 (105 + 1 * k.toNatClampNeg) (0 : Int32).toNatClampNeg), za_I (σ0.1 (105 + 1 * k.toNatClampNeg) (1 : Int32).toNatClampNeg), za_I (σ0.1 (105 + 1 * k.toNatClampNeg) (2 : Int32).toNatClampNeg), za_I (σ0.1 (105 + 1 * k.toNatClampNeg) (3 : Int32).toNatClampNeg)]) G (by decide) rfl rfl (zc_X10_refersOne l E 99 (σ0.1 (105 + 1 * k.toNatClampNeg) (0 : Int32).toNatClampNeg) (σ0.1 (105 + 1 * k.toNatClampNeg) (1 : Int32).toNatClampNeg) (σ0.1 (105 + 1 * k.toNatClampNeg) (2 : Int32).toNatClampNeg) (σ0.1 (105 + 1 * k.toNatClampNeg) (3 : Int32).toNatClampNeg) σ0 (by decide) hG) zk_X10_refersOne zm_1426 rfl ⟨(Nat.le_of_ble_eq_true rfl), (Nat.le_of_ble_eq_true rfl)⟩ ⟨Nat.zero_le _, Nat.zero_le _⟩ (Nat.le_of_ble_eq_true rfl) dX10_does_113 (fun r_113 σ h_113 => ?_)
    exact zv_iret G hr dX10_does_116 h_113
  rcases Decidable.em (x_13 = 3) with q_13_3 | q_13_3
  · refine zv_tabIn (off := 104) (tgt := 117) G dX10_does_13 (by rw [q_13_3]; decide) (by rw [q_13_3]; decide) (by rw [q_13_3]; rfl) (by decide) ?_
    refine zv_aload_n (j := 1) G dX10_does_117 rfl rfl ?_
    refine zv_aload_n (j := 1) G dX10_does_118 rfl rfl ?_
    refine zg_X10_118 G dX10_does_119 ?_
    refine zv_aload_n (j := 0) G dX10_does_122 rfl rfl ?_
    refine zv_iconst (v := 0) G dX10_does_123 (by decide) ?_
    refine zv_iald G (by decide) rfl (z_in (by decide) (by decide)) dX10_does_124 ?_
    refine zv_aload_n (j := 0) G dX10_does_125 rfl rfl ?_
    refine zv_iconst (v := 1) G dX10_does_126 (by decide) ?_
    refine zv_iald G (by decide) rfl (z_in (by decide) (by decide)) dX10_does_127 ?_
    refine zv_aload_n (j := 0) G dX10_does_128 rfl rfl ?_
    refine zv_iconst (v := 2) G dX10_does_129 (by decide) ?_
    refine zv_iald G (by decide) rfl (z_in (by decide) (by decide)) dX10_does_130 ?_
    refine zv_aload_n (j := 0) G dX10_does_131 rfl rfl ?_
    refine zv_iconst (v := 3) G dX10_does_132 (by decide) ?_
    refine zv_iald G (by decide) rfl (z_in (by decide) (by decide)) dX10_does_133 ?_
    refine zv_callVi (as := [za_O 22 99, za_I (σ0.1 (105 + 1 * k.toNatClampNeg) (0 : Int32).toNatClampNeg), za_I (σ0.1 (105 + 1 * k.toNatClampNeg) (1 : Int32).toNatClampNeg), za_I (σ0.1 (105 + 1 * k.toNatClampNeg) (2 : Int32).toNatClampNeg), za_I (σ0.1 (105 + 1 * k.toNatClampNeg) (3 : Int32).toNatClampNeg)]) G (by decide) rfl rfl (zc_X10_cutsOne l E 99 (σ0.1 (105 + 1 * k.toNatClampNeg) (0 : Int32).toNatClampNeg) (σ0.1 (105 + 1 * k.toNatClampNeg) (1 : Int32).toNatClampNeg) (σ0.1 (105 + 1 * k.toNatClampNeg) (2 : Int32).toNatClampNeg) (σ0.1 (105 + 1 * k.toNatClampNeg) (3 : Int32).toNatClampNeg) σ0 (by decide) hG) zk_X10_cutsOne zm_1438 rfl ⟨(Nat.le_of_ble_eq_true rfl), (Nat.le_of_ble_eq_true rfl)⟩ ⟨Nat.zero_le _, Nat.zero_le _⟩ (Nat.le_of_ble_eq_true rfl) dX10_does_134 (fun r_134 σ h_134 => ?_)
    exact zv_iret G hr dX10_does_137 h_134
  rcases Decidable.em (x_13 = 4) with q_13_4 | q_13_4
  · refine zv_tabIn (off := 125) (tgt := 138) G dX10_does_13 (by rw [q_13_4]; decide) (by rw [q_13_4]; decide) (by rw [q_13_4]; rfl) (by decide) ?_
    refine zv_aload_n (j := 1) G dX10_does_138 rfl rfl ?_
    refine zg_X10_118 G dX10_does_139 ?_
    refine zv_aload_n (j := 0) G dX10_does_142 rfl rfl ?_
    refine zv_iconst (v := 0) G dX10_does_143 (by decide) ?_
    refine zv_iald G (by decide) rfl (z_in (by decide) (by decide)) dX10_does_144 ?_
    refine zv_callSi (as := [za_O 22 99, za_I (σ0.1 (105 + 1 * k.toNatClampNeg) (0 : Int32).toNatClampNeg)]) G (zc_X10_joinsAll l E 99 (σ0.1 (105 + 1 * k.toNatClampNeg) (0 : Int32).toNatClampNeg) σ0 (ha (by rw [← e_13]; exact q_13_4)) hG.1) zk_X10_joinsAll zm_1463 rfl ⟨(Nat.le_of_ble_eq_true rfl), (Nat.le_of_ble_eq_true rfl)⟩ ⟨Nat.zero_le _, Nat.zero_le _⟩ (Nat.le_of_ble_eq_true rfl) dX10_does_145 (fun r_145 σ h_145 => ?_)
    exact zv_iret G hr dX10_does_148 (zfa_of h_145.1 (zjn_G h_145.2 hG))
  have n_13_0 := lv_neT q_13_0 (a := 0) rfl
  have n_13_1 := lv_neT q_13_1 (a := 1) rfl
  have n_13_2 := lv_neT q_13_2 (a := 2) rfl
  have n_13_3 := lv_neT q_13_3 (a := 3) rfl
  have n_13_4 := lv_neT q_13_4 (a := 4) rfl
  refine zv_tabOut (tgt := 149) G dX10_does_13 (by omega) (by decide) ?_
  refine zv_aload_n (j := 1) G dX10_does_149 rfl rfl ?_
  refine zg_X10_118 G dX10_does_150 ?_
  refine zv_aload_n (j := 0) G dX10_does_153 rfl rfl ?_
  refine zv_iconst (v := 0) G dX10_does_154 (by decide) ?_
  refine zv_iald G (by decide) rfl (z_in (by decide) (by decide)) dX10_does_155 ?_
  refine zv_callSi (as := [za_O 22 99, za_I (σ0.1 (105 + 1 * k.toNatClampNeg) (0 : Int32).toNatClampNeg)]) G (zc_X10_wayIs l E 99 (σ0.1 (105 + 1 * k.toNatClampNeg) (0 : Int32).toNatClampNeg) σ0 (by decide) hG) zk_X10_wayIs zm_1470 rfl ⟨(Nat.le_of_ble_eq_true rfl), (Nat.le_of_ble_eq_true rfl)⟩ ⟨Nat.zero_le _, Nat.zero_le _⟩ (Nat.le_of_ble_eq_true rfl) dX10_does_156 (fun r_156 σ h_156 => ?_)
  exact zv_iret G hr dX10_does_159 (zfa_of h_156.1 h_156.2)
set_option maxHeartbeats 4000000 in
set_option maxRecDepth 100000 in
theorem zc_X10_work (l : Launch) (E : za_E)  (σ0 : za_S) (hJ : zJ σ0) : zMi l E yX10_work cX10_work 2 (Option.some Jvm.ClassFile.FieldType.int) 9 219 [za_O 19 93] σ0 (fun r σ' => zwx σ0 σ') := by
  refine zMi_of [(0, za_O 19 93)] (by decide) rfl rfl (Nat.le_of_ble_eq_true rfl) ?_
  intro ho p e s m args below meth c G hr
  refine zv_gen (R9 := zq 12 σ0) (zq_0 hJ) (fun σ hz => ?_)
  refine zv_aload_n (j := 0) G dX10_work_0 rfl rfl ?_
  refine zv_iconst (v := 0) G dX10_work_1 (by decide) ?_
  refine zp_X10_3 G dX10_work_2 ?_
  refine zv_gen (R9 := zq 12 σ0) (zq_93 hz (by decide)) (fun σ hz => ?_)
  refine zv_aload_n (j := 0) G dX10_work_5 rfl rfl ?_
  refine zv_bipush (v := 80) G dX10_work_6 (by decide) ?_
  refine zv_callVi (as := [za_I 80]) G (by decide) rfl rfl (zc_X10_reads l E (80 : Int32) σ (by rw [hz.1.2.1]; exact hJ.2.2.2.2.2.1.1) (by decide)) zk_X10_reads zm_1478 rfl ⟨(Nat.le_of_ble_eq_true rfl), (Nat.le_of_ble_eq_true rfl)⟩ ⟨Nat.zero_le _, Nat.zero_le _⟩ (Nat.le_of_ble_eq_true rfl) dX10_work_8 (fun r_8 σ h_8 => ?_)
  obtain ⟨e_8, x8, hx8, h_8⟩ := h_8
  obtain ⟨hJ1, hb, ho1, e51, e61⟩ := zrd_J hJ hz hx8 (by decide) h_8
  obtain ⟨σ1, rfl⟩ : ∃ q, q = σ := ⟨_, rfl⟩
  refine zv_gen (R9 := (fun σ => zq 12 σ1 σ ∧ zpo σ)) ⟨zq_0 hJ1, ho1⟩ (fun σ hz => ?_)
  refine zv_popI G dX10_work_11 ?_
  refine zv_aload_n (j := 0) G dX10_work_12 rfl rfl ?_
  refine zv_iconst (v := 0) G dX10_work_13 (by decide) ?_
  have J_17 : ∀ (n : Nat)  (σ : za_S) (hz : zwk σ1 σ) (hn_17 : ((σ.1 93 6).toInt - (σ.1 93 5).toInt).toNat < n), zV p l e (zRm 9 219) s m args below meth c E (za_A E) 2 0 0 (MQ below (va_Qi (fun r σ' => zwx σ0 σ') (zB E) (za_A E)) args s 0 0 (za_A E)) 17 [(0, za_O 19 93)] [] σ := by
    intro n
    induction n with
    | zero => intro σ hz hn; exact absurd hn (Nat.not_lt_zero _)
    | succ n ih_17 =>
      intro σ hz hn_17
      refine zv_aload_n (j := 0) G dX10_work_17 rfl rfl ?_
      refine zg_X10_29 G dX10_work_18 ?_
      refine zv_aload_n (j := 0) G dX10_work_21 rfl rfl ?_
      refine zg_X10_41 G dX10_work_22 ?_
      refine zv_icmp_ge (tgt := 42) G dX10_work_25 (by decide) (fun c_25 => ?_) (fun c_25 => ?_)
      · have k_25 := z_cle c_25 (a := (σ.1 93 6).toInt) (b := (σ.1 93 5).toInt) rfl rfl
        refine zv_aload_n (j := 0) G dX10_work_42 rfl rfl ?_
        refine zv_callVv (as := []) G (by decide) rfl rfl (zc_X10_putsBy l E  σ (by have u9 := zm_un (zm_q (zmz hJ1) hz.1); omega)) zk_X10_putsBy zm_1363 rfl ⟨(Nat.le_of_ble_eq_true rfl), (Nat.le_of_ble_eq_true rfl)⟩ ⟨Nat.zero_le _, Nat.zero_le _⟩ (Nat.le_of_ble_eq_true rfl) dX10_work_43 (fun σ h_43 => ?_)
        have hz := zwm_p hJ1 hz h_43
        refine zv_iconst (v := 0) G dX10_work_46 (by decide) ?_
        have J_48 : ∀ (n : Nat) (y1_48 : Int32) (σ : za_S) (hz : zwm σ1 σ) (i1_48 : 0 ≤ y1_48.toInt) (hn_48 : (2147483648 - y1_48.toInt).toNat < n), zV p l e (zRm 9 219) s m args below meth c E (za_A E) 2 0 0 (MQ below (va_Qi (fun r σ' => zwx σ0 σ') (zB E) (za_A E)) args s 0 0 (za_A E)) 48 [(0, za_O 19 93), (1, za_I y1_48)] [] σ := by
          intro n
          induction n with
          | zero => intro y1_48 σ hz i1_48 hn; exact absurd hn (Nat.not_lt_zero _)
          | succ n ih_48 =>
            intro y1_48 σ hz i1_48 hn_48
            refine zv_iload_n (j := 1) G dX10_work_48 rfl rfl ?_
            refine zv_aload_n (j := 0) G dX10_work_49 rfl rfl ?_
            refine zg_X10_332 G dX10_work_50 ?_
            have J_70 : ∀  (σ : za_S) (hz : zwm σ1 σ), zV p l e (zRm 9 219) s m args below meth c E (za_A E) 2 0 0 (MQ below (va_Qi (fun r σ' => zwx σ0 σ') (zB E) (za_A E)) args s 0 0 (za_A E)) 70 [(0, za_O 19 93), (1, za_I y1_48)] [] σ := by
              intro σ hz
              refine zv_aload_n (j := 0) G dX10_work_70 rfl rfl ?_
              refine zv_iconst (v := 0) G dX10_work_71 (by decide) ?_
              refine zp_X10_15 G dX10_work_72 ?_
              refine zv_gen (R9 := zm 0 10 σ1) (zm_t0 hz.1) (fun σ hz => ?_)
              refine zv_aload_n (j := 0) G dX10_work_75 rfl rfl ?_
              refine zv_iload_n (j := 1) G dX10_work_76 rfl rfl ?_
              refine zv_aload_n (j := 0) G dX10_work_77 rfl rfl ?_
              refine zg_X10_332 G dX10_work_78 ?_
              refine zv_icmp_ge (tgt := 88) G dX10_work_81 (by decide) (fun c_81 => ?_) (fun c_81 => ?_)
              · have k_81 := z_cle c_81 (a := (σ.1 93 23).toInt) (b := y1_48.toInt) rfl rfl
                refine zv_iconst (v := 0) G dX10_work_88 (by decide) ?_
                refine zv_callSi (as := [za_I 0]) G (zc_X10_flag l E (0 : Int32) σ ) zk_X10_flag zm_1351 rfl ⟨(Nat.le_of_ble_eq_true rfl), (Nat.le_of_ble_eq_true rfl)⟩ ⟨Nat.zero_le _, Nat.zero_le _⟩ (Nat.le_of_ble_eq_true rfl) dX10_work_89 (fun r_89 σ h_89 => ?_)
                obtain ⟨h_89, rfl⟩ := h_89
                have g_89 := z_flagT h_89.2 (a := 0) rfl
                refine zv_i2l G dX10_work_92 ?_
                refine zv_callVv (as := [za_L r_89.toInt64]) G (by decide) rfl rfl (zc_X10_enters l E r_89.toInt64 σ (zm_p hz (by decide))) zk_X10_enters zm_1418 rfl ⟨(Nat.le_of_ble_eq_true rfl), (Nat.le_of_ble_eq_true rfl)⟩ ⟨Nat.zero_le _, Nat.zero_le _⟩ (Nat.le_of_ble_eq_true rfl) dX10_work_93 (fun σ h_93 => ?_)
                have hz := zm_e hz h_93
                refine zv_aload_n (j := 0) G dX10_work_96 rfl rfl ?_
                refine zv_aload_n (j := 0) G dX10_work_97 rfl rfl ?_
                refine zg_X10_118 G dX10_work_98 ?_
                refine zv_iconst (v := 0) G dX10_work_101 (by decide) ?_
                refine zv_callSi (as := [za_O 22 99, za_I 0]) G (zc_X10_rowsOf l E 99 (0 : Int32) σ (by first | assumption | decide | omega)) zk_X10_rowsOf zm_1348 rfl ⟨(Nat.le_of_ble_eq_true rfl), (Nat.le_of_ble_eq_true rfl)⟩ ⟨Nat.zero_le _, Nat.zero_le _⟩ (Nat.le_of_ble_eq_true rfl) dX10_work_102 (fun r_102 σ h_102 => ?_)
                obtain ⟨h_102, rfl⟩ := h_102
                refine zv_aload_n (j := 0) G dX10_work_105 rfl rfl ?_
                refine zg_X10_118 G dX10_work_106 ?_
                refine zv_iconst (v := 1) G dX10_work_109 (by decide) ?_
                refine zv_callSi (as := [za_O 22 99, za_I 1]) G (zc_X10_rowsOf l E 99 (1 : Int32) σ (by first | assumption | decide | omega)) zk_X10_rowsOf zm_1348 rfl ⟨(Nat.le_of_ble_eq_true rfl), (Nat.le_of_ble_eq_true rfl)⟩ ⟨Nat.zero_le _, Nat.zero_le _⟩ (Nat.le_of_ble_eq_true rfl) dX10_work_110 (fun r_110 σ h_110 => ?_)
                obtain ⟨h_110, rfl⟩ := h_110
                refine zv_iadd G dX10_work_113 ?_
                refine zv_i2l G dX10_work_114 ?_
                refine zv_callVv (as := [za_L ((r_102 + r_110).toInt64)]) G (by decide) rfl rfl (zc_X10_enters l E ((r_102 + r_110).toInt64) σ (zm_p hz (by decide))) zk_X10_enters zm_1418 rfl ⟨(Nat.le_of_ble_eq_true rfl), (Nat.le_of_ble_eq_true rfl)⟩ ⟨Nat.zero_le _, Nat.zero_le _⟩ (Nat.le_of_ble_eq_true rfl) dX10_work_115 (fun σ h_115 => ?_)
                have hz := zm_e hz h_115
                refine zv_iload_n (j := 1) G dX10_work_118 rfl rfl ?_
                refine zv_if_le (tgt := 130) G dX10_work_119 (by decide) (fun c_119 => ?_) (fun c_119 => ?_)
                · have k_119 := z_cle c_119 (a := y1_48.toInt) (b := 0) rfl rfl
                  refine zv_iconst (v := 0) G dX10_work_130 (by decide) ?_
                  exact zv_iret G hr dX10_work_131 (zwx_m hb hJ1 (zm_w hz (by decide)))
                · have k_119 := z_cnle c_119 (a := y1_48.toInt) (b := 0) rfl rfl
                  refine zv_aload_n (j := 0) G dX10_work_122 rfl rfl ?_
                  refine zv_iload_n (j := 1) G dX10_work_123 rfl rfl ?_
                  refine zv_callVi (as := [za_I y1_48]) G (by decide) rfl rfl (zc_X10_keeps l E y1_48 σ (zm_J hJ1 (zm_w hz (by decide)))) zk_X10_keeps zm_1395 rfl ⟨(Nat.le_of_ble_eq_true rfl), (Nat.le_of_ble_eq_true rfl)⟩ ⟨Nat.zero_le _, Nat.zero_le _⟩ (Nat.le_of_ble_eq_true rfl) dX10_work_124 (fun r_124 σ h_124 => ?_)
                  have hz := zm_tr hz h_124
                  refine zv_goto (tgt := 131) G dX10_work_127 (by decide) ?_
                  exact zv_iret G hr dX10_work_131 (zwx_m hb hJ1 (zm_w hz (by decide)))
              · have k_81 := z_cnle c_81 (a := (σ.1 93 23).toInt) (b := y1_48.toInt) rfl rfl
                refine zv_iconst (v := 1) G dX10_work_84 (by decide) ?_
                refine zv_goto (tgt := 89) G dX10_work_85 (by decide) ?_
                refine zv_callSi (as := [za_I 1]) G (zc_X10_flag l E (1 : Int32) σ ) zk_X10_flag zm_1351 rfl ⟨(Nat.le_of_ble_eq_true rfl), (Nat.le_of_ble_eq_true rfl)⟩ ⟨Nat.zero_le _, Nat.zero_le _⟩ (Nat.le_of_ble_eq_true rfl) dX10_work_89 (fun r_89 σ h_89 => ?_)
                obtain ⟨h_89, rfl⟩ := h_89
                have g_89 := z_flagT h_89.2 (a := 1) rfl
                refine zv_i2l G dX10_work_92 ?_
                refine zv_callVv (as := [za_L r_89.toInt64]) G (by decide) rfl rfl (zc_X10_enters l E r_89.toInt64 σ (zm_p hz (by decide))) zk_X10_enters zm_1418 rfl ⟨(Nat.le_of_ble_eq_true rfl), (Nat.le_of_ble_eq_true rfl)⟩ ⟨Nat.zero_le _, Nat.zero_le _⟩ (Nat.le_of_ble_eq_true rfl) dX10_work_93 (fun σ h_93 => ?_)
                have hz := zm_e hz h_93
                refine zv_aload_n (j := 0) G dX10_work_96 rfl rfl ?_
                refine zv_aload_n (j := 0) G dX10_work_97 rfl rfl ?_
                refine zg_X10_118 G dX10_work_98 ?_
                refine zv_iconst (v := 0) G dX10_work_101 (by decide) ?_
                refine zv_callSi (as := [za_O 22 99, za_I 0]) G (zc_X10_rowsOf l E 99 (0 : Int32) σ (by first | assumption | decide | omega)) zk_X10_rowsOf zm_1348 rfl ⟨(Nat.le_of_ble_eq_true rfl), (Nat.le_of_ble_eq_true rfl)⟩ ⟨Nat.zero_le _, Nat.zero_le _⟩ (Nat.le_of_ble_eq_true rfl) dX10_work_102 (fun r_102 σ h_102 => ?_)
                obtain ⟨h_102, rfl⟩ := h_102
                refine zv_aload_n (j := 0) G dX10_work_105 rfl rfl ?_
                refine zg_X10_118 G dX10_work_106 ?_
                refine zv_iconst (v := 1) G dX10_work_109 (by decide) ?_
                refine zv_callSi (as := [za_O 22 99, za_I 1]) G (zc_X10_rowsOf l E 99 (1 : Int32) σ (by first | assumption | decide | omega)) zk_X10_rowsOf zm_1348 rfl ⟨(Nat.le_of_ble_eq_true rfl), (Nat.le_of_ble_eq_true rfl)⟩ ⟨Nat.zero_le _, Nat.zero_le _⟩ (Nat.le_of_ble_eq_true rfl) dX10_work_110 (fun r_110 σ h_110 => ?_)
                obtain ⟨h_110, rfl⟩ := h_110
                refine zv_iadd G dX10_work_113 ?_
                refine zv_i2l G dX10_work_114 ?_
                refine zv_callVv (as := [za_L ((r_102 + r_110).toInt64)]) G (by decide) rfl rfl (zc_X10_enters l E ((r_102 + r_110).toInt64) σ (zm_p hz (by decide))) zk_X10_enters zm_1418 rfl ⟨(Nat.le_of_ble_eq_true rfl), (Nat.le_of_ble_eq_true rfl)⟩ ⟨Nat.zero_le _, Nat.zero_le _⟩ (Nat.le_of_ble_eq_true rfl) dX10_work_115 (fun σ h_115 => ?_)
                have hz := zm_e hz h_115
                refine zv_iload_n (j := 1) G dX10_work_118 rfl rfl ?_
                refine zv_if_le (tgt := 130) G dX10_work_119 (by decide) (fun c_119 => ?_) (fun c_119 => ?_)
                · have k_119 := z_cle c_119 (a := y1_48.toInt) (b := 0) rfl rfl
                  refine zv_iconst (v := 0) G dX10_work_130 (by decide) ?_
                  exact zv_iret G hr dX10_work_131 (zwx_m hb hJ1 (zm_w hz (by decide)))
                · have k_119 := z_cnle c_119 (a := y1_48.toInt) (b := 0) rfl rfl
                  refine zv_aload_n (j := 0) G dX10_work_122 rfl rfl ?_
                  refine zv_iload_n (j := 1) G dX10_work_123 rfl rfl ?_
                  refine zv_callVi (as := [za_I y1_48]) G (by decide) rfl rfl (zc_X10_keeps l E y1_48 σ (zm_J hJ1 (zm_w hz (by decide)))) zk_X10_keeps zm_1395 rfl ⟨(Nat.le_of_ble_eq_true rfl), (Nat.le_of_ble_eq_true rfl)⟩ ⟨Nat.zero_le _, Nat.zero_le _⟩ (Nat.le_of_ble_eq_true rfl) dX10_work_124 (fun r_124 σ h_124 => ?_)
                  have hz := zm_tr hz h_124
                  refine zv_goto (tgt := 131) G dX10_work_127 (by decide) ?_
                  exact zv_iret G hr dX10_work_131 (zwx_m hb hJ1 (zm_w hz (by decide)))
            refine zv_icmp_ge (tgt := 70) G dX10_work_53 (by decide) (fun c_53 => ?_) (fun c_53 => ?_)
            · have k_53 := z_cle c_53 (a := (σ.1 93 23).toInt) (b := y1_48.toInt) rfl rfl
              refine zv_sub [0, 1] (lv' := [(0, za_O 19 93), (1, za_I y1_48)]) rfl ?_
              exact J_70 σ hz
            · have k_53 := z_cnle c_53 (a := (σ.1 93 23).toInt) (b := y1_48.toInt) rfl rfl
              refine zv_aload_n (j := 0) G dX10_work_56 rfl rfl ?_
              refine zv_iload_n (j := 1) G dX10_work_57 rfl rfl ?_
              refine zv_callVi (as := [za_I y1_48]) G (by decide) rfl rfl (zc_X10_does l E y1_48 σ ⟨i1_48, by have u9 := hz.2.1; omega⟩ (zm_G hz.1) (zwm_a hz i1_48 k_53)) zk_X10_does zm_1521 rfl ⟨(Nat.le_of_ble_eq_true rfl), (Nat.le_of_ble_eq_true rfl)⟩ ⟨Nat.zero_le _, Nat.zero_le _⟩ (Nat.le_of_ble_eq_true rfl) dX10_work_58 (fun r_58 σ h_58 => ?_)
              have hz := zwm_f hz h_58
              refine zv_if_lt (tgt := 70) G dX10_work_61 (by decide) (fun c_61 => ?_) (fun c_61 => ?_)
              · have k_61 := z_clt c_61 (a := r_58.toInt) (b := 0) rfl rfl
                refine zv_sub [0, 1] (lv' := [(0, za_O 19 93), (1, za_I y1_48)]) rfl ?_
                exact J_70 σ hz
              · have k_61 := z_cnlt c_61 (a := r_58.toInt) (b := 0) rfl rfl
                obtain ⟨x_64, e_64⟩ : ∃ y : Int32, y = y1_48 + 1 := ⟨_, rfl⟩
                refine zv_iinc (j := 1) (v := x_64) (lv' := [(1, za_I x_64), (0, za_O 19 93)]) G dX10_work_64 rfl (by rw [e_64]; rfl) (by decide) rfl ?_
                first | have q_64 := z_inc9 (by omega) e_64 | skip
                refine zv_goto (tgt := 48) G dX10_work_67 (by decide) ?_
                refine zv_sub [1, 0] (lv' := [(0, za_O 19 93), (1, za_I x_64)]) rfl ?_
                exact ih_48 x_64 σ hz (by have := z_inc c_53 e_64; omega) (z_meas c_53 e_64 hn_48)
        refine zv_istore_n (lv' := [(1, za_I 0), (0, za_O 19 93)]) G dX10_work_47 rfl (by decide) rfl ?_
        refine zv_sub [1, 0] (lv' := [(0, za_O 19 93), (1, za_I 0)]) rfl ?_
        exact J_48 _ (0 : Int32) σ hz (by decide) (Nat.lt_succ_self _)
      · have k_25 := z_cnle c_25 (a := (σ.1 93 6).toInt) (b := (σ.1 93 5).toInt) rfl rfl
        refine zv_aload_n (j := 0) G dX10_work_28 rfl rfl ?_
        refine zv_callVi (as := []) G (by decide) rfl rfl (zc_X10_readsAct l E  σ hz.2.1 k_25 ⟨hz.2.2.2.1, hz.2.2.1⟩) zk_X10_readsAct zm_1482 rfl ⟨(Nat.le_of_ble_eq_true rfl), (Nat.le_of_ble_eq_true rfl)⟩ ⟨Nat.zero_le _, Nat.zero_le _⟩ (Nat.le_of_ble_eq_true rfl) dX10_work_29 (fun r_29 σ h_29 => ?_)
        have hz := zwk_s hz k_25 h_29
        refine zv_if_ne (tgt := 17) G dX10_work_32 (by decide) (fun c_32 => ?_) (fun c_32 => ?_)
        · have hz := hz.2 c_32
          refine zv_sub [0] (lv' := [(0, za_O 19 93)]) rfl ?_
          exact ih_17 σ hz (by have a1 := (h_29.2.2 c_32).1; have a2 := h_29.2.1.2.2.1 6 (by decide) (by decide); rw [a2]; omega)
        · refine zv_iconst (v := (-1)) G dX10_work_35 (by decide) ?_
          refine zv_aload_n (j := 0) G dX10_work_36 rfl rfl ?_
          refine zg_X10_29 G dX10_work_37 ?_
          refine zv_isub G dX10_work_40 ?_
          exact zv_iret G hr dX10_work_41 (zwx_of hb hJ1 hz.1)
  refine zp_X10_332 G dX10_work_14 ?_
  refine zv_gen (R9 := zwk σ1) (zwk_0 hz) (fun σ hz => ?_)
  refine zv_sub [0] (lv' := [(0, za_O 19 93)]) rfl ?_
  exact J_17 _ σ hz (Nat.lt_succ_self _)
