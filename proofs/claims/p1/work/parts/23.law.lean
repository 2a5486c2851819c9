/-! what holds between two calls of the law -/
def zI (σ : za_S) : Prop := zJ σ ∧ σ.1 79 1 = σ.1 93 4 ∧ σ.1 83 1 = σ.1 93 32 ∧ σ.1 69 3 = σ.1 189 0 ∧ σ.1 74 3 = σ.1 189 1
theorem zJ_x {σ σ' : za_S} (h : zJ σ) (k99 : σ'.1 99 = σ.1 99) (k102 : σ'.1 102 = σ.1 102) (k188 : σ'.1 188 = σ.1 188) (k190 : ∀ k, k < 2 → zG (fun i => σ'.1 190 (2001 * k + i))) (k1 : σ'.1 93 1 = σ.1 93 1) (k15 : σ'.1 93 15 = σ.1 93 15) (k16 : σ'.1 93 16 = σ.1 93 16) (k17 : σ'.1 93 17 = σ.1 93 17) (r32 : 0 ≤ (σ'.1 93 32).toInt ∧ (σ'.1 93 32).toInt ≤ 12) (r4 : 0 ≤ (σ'.1 93 4).toInt ∧ (σ'.1 93 4).toInt ≤ 80) : zJ σ' := by
  obtain ⟨h1, h2, h3, h4, -, -, h7, h8, -⟩ := h
  refine ⟨?_, ?_, ?_, ?_, r32, r4, ?_, ?_, k190⟩
  · unfold zkr
    rw [k15, k16]
    exact h1
  · unfold zch
    rw [k188]
    exact h2
  · rw [k1]
    exact h3
  · rw [k17]
    exact h4
  · rw [k99]
    exact h7
  · rw [k102]
    exact h8
theorem zJ_c {σ σ' : za_S} (h : ∀ w, 93 ≤ w → σ'.1 w = σ.1 w ∧ σ'.2 w = σ.2 w) (hJ : zJ σ) : zJ σ' := by
  have h93 := (h 93 (by decide)).1
  refine zJ_x hJ (h 99 (by decide)).1 (h 102 (by decide)).1 (h 188 (by decide)).1 ?_ (by rw [h93]) (by rw [h93]) (by rw [h93]) (by rw [h93]) ?_ ?_
  · rw [(h 190 (by decide)).1]
    exact hJ.2.2.2.2.2.2.2.2
  · rw [h93]
    exact hJ.2.2.2.2.1
  · rw [h93]
    exact hJ.2.2.2.2.2.1
theorem zI_c {σ σ' : za_S} (h : zI σ) (k : zc σ σ') : zI σ' := by
  have h93 := (k.1 93 (by decide)).1
  have h189 := (k.1 189 (by decide)).1
  refine ⟨zJ_c k.1 h.1, ?_, ?_, ?_, ?_⟩
  · rw [k.2.1, h93]; exact h.2.1
  · rw [k.2.2.1, h93]; exact h.2.2.1
  · rw [k.2.2.2.1, h189]; exact h.2.2.2.1
  · rw [k.2.2.2.2, h189]; exact h.2.2.2.2
theorem zI_q {σ σ' : za_S} (h : zI σ) (k : zq 12 σ σ') : zI σ' := by
  have h189 := (k.1.1 189 (by decide)).1
  refine ⟨zq_J h.1 k, ?_, ?_, ?_, ?_⟩
  · rw [(k.1.1 79 (by decide)).1, k.1.2.1]; exact h.2.1
  · rw [(k.1.1 83 (by decide)).1, k.1.2.2.2]; exact h.2.2.1
  · rw [(k.1.1 69 (by decide)).1, h189]; exact h.2.2.2.1
  · rw [(k.1.1 74 (by decide)).1, h189]; exact h.2.2.2.2
theorem zI_m {σ σ' : za_S} (h : zI σ) (k : zm 12 10 σ σ') : zI σ' := by
  have h189 := (k.1.1.1 189 (by decide)).1
  refine ⟨zm_J h.1 k, ?_, ?_, ?_, ?_⟩
  · rw [(k.1.1.1 79 (by decide)).1, k.1.1.2.1]; exact h.2.1
  · rw [(k.1.1.1 83 (by decide)).1, k.1.1.2.2]; exact h.2.2.1
  · rw [(k.1.1.1 69 (by decide)).1, h189]; exact h.2.2.2.1
  · rw [(k.1.1.1 74 (by decide)).1, h189]; exact h.2.2.2.2
theorem zI_o {σ σ' : za_S} (h : zI σ) (k : zol σ σ') : zI σ' := by
  have e := k.1
  unfold zI zJ zkr zch at h ⊢
  rw [e]
  exact h
theorem zI_e {σ σ' : za_S} (h : zI σ) (k : σ' = σ) : zI σ' := by rw [k]; exact h
theorem zP_sign {σ : za_S} (h : zI σ) : 0 ≤ (σ.1 79 1).toInt ∧ (σ.1 79 1).toInt ≤ 80 := by rw [h.2.1]; exact h.1.2.2.2.2.2.1
theorem zP_heard {σ : za_S} (h : zI σ) : 0 ≤ (σ.1 83 1).toInt ∧ (σ.1 83 1).toInt ≤ 12 := by rw [h.2.2.1]; exact h.1.2.2.2.2.1
theorem zM_sign {σ σ1 : za_S} {X : Prop} (h : zI σ) (a : zcT σ σ1 ∧ X) : 0 ≤ (σ1.1 93 4).toInt ∧ (σ1.1 93 4).toInt ≤ 80 := by rw [(a.1.1 93 (by decide)).1]; exact h.1.2.2.2.2.2.1
theorem zM_heard {σ σ1 : za_S} {X : Prop} (h : zI σ) (a : zcR σ σ1 ∧ X) : 0 ≤ (σ1.1 93 32).toInt ∧ (σ1.1 93 32).toInt ≤ 12 := by rw [(a.1.1 93 (by decide)).1]; exact h.1.2.2.2.2.1
theorem zI_t {σ σ1 σ2 : za_S} (h : zI σ) (a : zcT σ σ1) (b : zft σ1 σ2) (e : σ2.1 79 1 = σ2.1 93 4) (r : 0 ≤ (σ2.1 93 4).toInt ∧ (σ2.1 93 4).toInt ≤ 80) : zI σ2 := by
  have h93 := (a.1 93 (by decide)).1
  have h1 : ∀ w, 93 < w → w ≠ 95 → σ2.1 w = σ.1 w := fun w hw h5 => (b.1 w (by omega) h5).trans (a.1 w (by omega)).1
  have h2 : ∀ j, j ≠ 0 → j ≠ 4 → σ2.1 93 j = σ.1 93 j := fun j hj h4 => by rw [b.2.2 j hj h4, h93]
  refine ⟨zJ_x h.1 (h1 99 (by decide) (by decide)) (h1 102 (by decide) (by decide)) (h1 188 (by decide) (by decide)) ?_ (h2 1 (by decide) (by decide)) (h2 15 (by decide) (by decide)) (h2 16 (by decide) (by decide)) (h2 17 (by decide) (by decide)) ?_ r, e, ?_, ?_, ?_⟩
  · rw [h1 190 (by decide) (by decide)]
    exact h.1.2.2.2.2.2.2.2.2
  · rw [h2 32 (by decide) (by decide)]
    exact h.1.2.2.2.2.1
  · rw [b.1 83 (by decide) (by decide), a.2.1, h2 32 (by decide) (by decide)]; exact h.2.2.1
  · rw [b.1 69 (by decide) (by decide), a.2.2.1, h1 189 (by decide) (by decide)]; exact h.2.2.2.1
  · rw [b.1 74 (by decide) (by decide), a.2.2.2, h1 189 (by decide) (by decide)]; exact h.2.2.2.2
theorem zI_sign {σ σ1 σ2 : za_S} {r1 r2 : Int32} (h : zI σ) (a : zcT σ σ1 ∧ zsg (σ.1 79 1).toInt r1.toInt (σ1.1 79 1).toInt) (b : zft σ1 σ2 ∧ zsg (σ1.1 93 4).toInt r2.toInt (σ2.1 93 4).toInt) : zI σ2 ∧ r1 = r2 := by
  obtain ⟨a1, a2⟩ := a
  obtain ⟨b1, b2⟩ := b
  have h4 := h.1.2.2.2.2.2.1
  rw [(a1.1 93 (by decide)).1] at b2
  rw [h.2.1] at a2
  have e79 : σ2.1 79 1 = σ1.1 79 1 := by rw [b1.1 79 (by decide) (by decide)]
  unfold zsg at a2 b2
  refine ⟨zI_t h a1 b1 ?_ (by omega), Int32.toInt_inj.mp (by omega)⟩
  rw [e79]
  exact Int32.toInt_inj.mp (by omega)
theorem zI_end {σ σ1 σ2 : za_S} {r1 r2 : Int32} {n : Int} {X Y : Prop} (h : zI σ) (a : X ∧ zcT σ σ1 ∧ zen (σ.1 79 1).toInt n r1 (σ1.1 79 1).toInt) (b : Y ∧ zft σ1 σ2 ∧ zen (σ1.1 93 4).toInt n r2 (σ2.1 93 4).toInt) : zI σ2 ∧ r1 = r2 := by
  obtain ⟨-, a1, a2⟩ := a
  obtain ⟨-, b1, b2⟩ := b
  have h4 := h.1.2.2.2.2.2.1
  rw [(a1.1 93 (by decide)).1] at b2
  rw [h.2.1] at a2
  have e79 : σ2.1 79 1 = σ1.1 79 1 := by rw [b1.1 79 (by decide) (by decide)]
  unfold zen at a2 b2
  rcases a2 with ⟨x1, x2, x3, x4⟩ | ⟨x1, x3, x4⟩ <;> rcases b2 with ⟨y1, y2, y3, y4⟩ | ⟨y1, y3, y4⟩
  · exact ⟨zI_t h a1 b1 (by rw [e79]; exact Int32.toInt_inj.mp (by omega)) (by omega), x3.trans y3.symm⟩
  · exact absurd ⟨x1, x2⟩ y1
  · exact absurd ⟨y1, y2⟩ x1
  · exact ⟨zI_t h a1 b1 (by rw [e79]; exact Int32.toInt_inj.mp (by omega)) (by omega), x3.trans y3.symm⟩
theorem zI_work {σ σ1 σ2 : za_S} (h : zI σ) (a : zct σ σ1) (b : zwx σ1 σ2) : zI σ2 := by
  have h93 := (a.1.1 93 (by decide)).1
  have h189 : σ2.1 189 = σ.1 189 := ((b.1.1 189 (Or.inr (by decide))).1).trans (a.1.1 189 (by decide)).1
  refine ⟨b.2, ?_, ?_, ?_, ?_⟩
  · rw [(b.1.1 79 (Or.inl (by decide))).1, a.2, b.1.2.2]
  · rw [(b.1.1 83 (Or.inl (by decide))).1, a.1.2.1, b.1.2.1, h93]; exact h.2.2.1
  · rw [(b.1.1 69 (Or.inl (by decide))).1, a.1.2.2.1, h189]; exact h.2.2.2.1
  · rw [(b.1.1 74 (Or.inl (by decide))).1, a.1.2.2.2, h189]; exact h.2.2.2.2
theorem zI_r {σ σ1 σ2 : za_S} (h : zI σ) (a : zcR σ σ1) (b : zfh σ1 σ2) (e : σ2.1 83 1 = σ2.1 93 32) (r : 0 ≤ (σ2.1 93 32).toInt ∧ (σ2.1 93 32).toInt ≤ 12) : zI σ2 := by
  have h93 := (a.1 93 (by decide)).1
  have h1 : ∀ w, 93 < w → w < 191 → σ2.1 w = σ.1 w := fun w hw h5 => (b.1 w (by omega) (by omega) (by omega)).trans (a.1 w (by omega)).1
  have h2 : ∀ j, j ≠ 0 → j ≠ 32 → σ2.1 93 j = σ.1 93 j := fun j hj h4 => by rw [b.2.2 j hj h4, h93]
  refine ⟨zJ_x h.1 (h1 99 (by decide) (by decide)) (h1 102 (by decide) (by decide)) (h1 188 (by decide) (by decide)) ?_ (h2 1 (by decide) (by decide)) (h2 15 (by decide) (by decide)) (h2 16 (by decide) (by decide)) (h2 17 (by decide) (by decide)) r ?_, ?_, e, ?_, ?_⟩
  · rw [h1 190 (by decide) (by decide)]
    exact h.1.2.2.2.2.2.2.2.2
  · rw [h2 4 (by decide) (by decide)]
    exact h.1.2.2.2.2.2.1
  · rw [b.1 79 (by decide) (by decide) (by decide), a.2.1, h2 4 (by decide) (by decide)]; exact h.2.1
  · rw [b.1 69 (by decide) (by decide) (by decide), a.2.2.1, h1 189 (by decide) (by decide)]; exact h.2.2.2.1
  · rw [b.1 74 (by decide) (by decide) (by decide), a.2.2.2, h1 189 (by decide) (by decide)]; exact h.2.2.2.2
theorem zI_heard {σ σ1 σ2 : za_S} {r1 r2 : Int32} {V : Prop} (h : zI σ) (a : zcR σ σ1 ∧ ((V ∧ (σ.1 83 1).toInt < 12 ∧ r1.toInt = (σ.1 83 1).toInt + 1 ∧ (σ1.1 83 1).toInt = (σ.1 83 1).toInt + 1) ∨ (¬ (V ∧ (σ.1 83 1).toInt < 12) ∧ r1 = -1 ∧ (σ1.1 83 1).toInt = (σ.1 83 1).toInt))) (b : zfh σ1 σ2 ∧ ((V ∧ (σ1.1 93 32).toInt < 12 ∧ r2.toInt = (σ1.1 93 32).toInt + 1 ∧ (σ2.1 93 32).toInt = (σ1.1 93 32).toInt + 1) ∨ (¬ (V ∧ (σ1.1 93 32).toInt < 12) ∧ r2 = -1 ∧ (σ2.1 93 32).toInt = (σ1.1 93 32).toInt))) : zI σ2 ∧ r1 = r2 := by
  obtain ⟨a1, a2⟩ := a
  obtain ⟨b1, b2⟩ := b
  have h4 := h.1.2.2.2.2.1
  rw [(a1.1 93 (by decide)).1] at b2
  rw [h.2.2.1] at a2
  have e83 : σ2.1 83 1 = σ1.1 83 1 := by rw [b1.1 83 (by decide) (by decide) (by decide)]
  rcases a2 with ⟨x1, x2, x3, x4⟩ | ⟨x1, x3, x4⟩ <;> rcases b2 with ⟨y1, y2, y3, y4⟩ | ⟨y1, y3, y4⟩
  · exact ⟨zI_r h a1 b1 (by rw [e83]; exact Int32.toInt_inj.mp (by omega)) (by omega), Int32.toInt_inj.mp (by omega)⟩
  · exact absurd ⟨x1, x2⟩ y1
  · exact absurd ⟨y1, y2⟩ x1
  · exact ⟨zI_r h a1 b1 (by rw [e83]; exact Int32.toInt_inj.mp (by omega)) (by omega), x3.trans y3.symm⟩
theorem zI_denies {σ σ1 σ2 : za_S} {r1 r2 : Int32} (h : zI σ) (a : zcR σ σ1 ∧ r1 = σ.1 83 1 ∧ σ1.1 83 1 = 0) (b : zfh σ1 σ2 ∧ r2 = σ1.1 93 32 ∧ σ2.1 93 32 = 0) : zI σ2 ∧ r1 = r2 := by
  obtain ⟨a1, a2, a3⟩ := a
  obtain ⟨b1, b2, b3⟩ := b
  have e83 : σ2.1 83 1 = σ1.1 83 1 := by rw [b1.1 83 (by decide) (by decide) (by decide)]
  refine ⟨zI_r h a1 b1 (by rw [e83, a3, b3]) (by rw [b3]; decide), ?_⟩
  rw [a2, b2, (a1.1 93 (by decide)).1]
  exact h.2.2.1
theorem zM_keep {σ σ1 : za_S} {r1 : Int32} {X V W : Prop} (h : zI σ) (a : X ∧ ((r1 = 1 ∧ V ∧ zcK σ σ1 ∧ W) ∨ (r1 = 0 ∧ ¬ V ∧ σ1 = σ))) : zJ σ1 := by
  rcases a.2 with ⟨-, -, k, -⟩ | ⟨-, -, k⟩
  · exact zJ_c k.1 h.1
  · rw [k]; exact h.1
theorem zI_keep {σ σ1 σ2 : za_S} {r1 r2 a1 : Int32} {X Y : Prop} (h : zI σ) (a : X ∧ ((r1 = 1 ∧ (0 ≤ a1.toInt ∧ a1.toInt < 2) ∧ zcK σ σ1 ∧ ∀ j, j < 2 → σ1.1 (69 + 5 * j) 3 = if j = a1.toNatClampNeg then 1 else σ.1 (69 + 5 * j) 3) ∨ (r1 = 0 ∧ ¬ (0 ≤ a1.toInt ∧ a1.toInt < 2) ∧ σ1 = σ)))
    (b : Y ∧ ((r2 = 1 ∧ (0 ≤ a1.toInt ∧ a1.toInt < 2) ∧ zfk σ1 σ2 ∧ (∀ j, j < 2 → σ2.1 189 j = if j = a1.toNatClampNeg then 1 else σ1.1 189 j) ∧ zKs σ2) ∨ (r2 = 0 ∧ ¬ (0 ≤ a1.toInt ∧ a1.toInt < 2) ∧ σ2 = za_si σ1 93 0 0))) : zI σ2 ∧ r1 = r2 := by
  rcases a.2 with ⟨x1, x2, x3, x4⟩ | ⟨x1, x2, x3⟩ <;> rcases b.2 with ⟨y1, y2, y3, y4, y5⟩ | ⟨y1, y2, y3⟩
  · refine ⟨?_, x1.trans y1.symm⟩
    have h93 := (x3.1 93 (by decide)).1
    have h189 := (x3.1 189 (by decide)).1
    have h1 : ∀ w, 93 < w → w < 189 → σ2.1 w = σ.1 w := fun w hw h5 => (y3.1 w (by omega) (by omega) (by omega)).trans (x3.1 w (by omega)).1
    have h2 : ∀ j, j ≠ 0 → σ2.1 93 j = σ.1 93 j := fun j hj => by rw [y3.2.2 j hj, h93]
    refine ⟨zJ_x h.1 (h1 99 (by decide) (by decide)) (h1 102 (by decide) (by decide)) (h1 188 (by decide) (by decide)) y5 (h2 1 (by decide)) (h2 15 (by decide)) (h2 16 (by decide)) (h2 17 (by decide)) ?_ ?_, ?_, ?_, ?_, ?_⟩
    · rw [h2 32 (by decide)]; exact h.1.2.2.2.2.1
    · rw [h2 4 (by decide)]; exact h.1.2.2.2.2.2.1
    · rw [y3.1 79 (by decide) (by decide) (by decide), x3.2.1, h2 4 (by decide)]; exact h.2.1
    · rw [y3.1 83 (by decide) (by decide) (by decide), x3.2.2, h2 32 (by decide)]; exact h.2.2.1
    · have q := x4 0 (by decide)
      have q2 : σ1.1 69 3 = if 0 = a1.toNatClampNeg then 1 else σ.1 69 3 := q
      rw [y3.1 69 (by decide) (by decide) (by decide), q2, y4 0 (by decide), h189, h.2.2.2.1]
    · have q := x4 1 (by decide)
      have q2 : σ1.1 74 3 = if 1 = a1.toNatClampNeg then 1 else σ.1 74 3 := q
      rw [y3.1 74 (by decide) (by decide) (by decide), q2, y4 1 (by decide), h189, h.2.2.2.2]
  · exact absurd x2 y2
  · exact absurd y2 x2
  · refine ⟨?_, x1.trans y1.symm⟩
    subst x3
    subst y3
    have h1 : ∀ w, w ≠ 93 → (za_si σ1 93 0 0).1 w = σ1.1 w := fun w hw => if_neg hw
    have h2 : ∀ j, j ≠ 0 → (za_si σ1 93 0 0).1 93 j = σ1.1 93 j := fun j hj => za_si_ne σ1 0 (Or.inr hj)
    refine ⟨zJ_x h.1 (h1 99 (by decide)) (h1 102 (by decide)) (h1 188 (by decide)) ?_ (h2 1 (by decide)) (h2 15 (by decide)) (h2 16 (by decide)) (h2 17 (by decide)) ?_ ?_, ?_, ?_, ?_, ?_⟩
    · rw [h1 190 (by decide)]; exact h.1.2.2.2.2.2.2.2.2
    · rw [h2 32 (by decide)]; exact h.1.2.2.2.2.1
    · rw [h2 4 (by decide)]; exact h.1.2.2.2.2.2.1
    · rw [h1 79 (by decide), h2 4 (by decide)]; exact h.2.1
    · rw [h1 83 (by decide), h2 32 (by decide)]; exact h.2.2.1
    · rw [h1 69 (by decide), h1 189 (by decide)]; exact h.2.2.2.1
    · rw [h1 74 (by decide), h1 189 (by decide)]; exact h.2.2.2.2
theorem z_b1 {r : Int32} (h : r = 0 ∨ r = 1) : r = 1 ↔ ¬ r = 0 := by
  rcases h with rfl | rfl <;> decide
theorem zI_again {σ σ1 σ2 : za_S} {r1 r2 a1 : Int32} (h : zI σ) (a : (r1 = 0 ∨ r1 = 1) ∧ zc σ σ1 ∧ (r1 = 1 ↔ (0 ≤ a1.toInt ∧ a1.toInt < 2) ∧ ¬ σ.1 (69 + 5 * a1.toNatClampNeg) 3 = 0)) (b : (r2 = 0 ∨ r2 = 1) ∧ zm 12 10 σ1 σ2 ∧ (r2 = 1 ↔ (0 ≤ a1.toInt ∧ a1.toInt < 2) ∧ ¬ σ1.1 189 a1.toNatClampNeg = 0)) : zI σ2 ∧ r1 = r2 := by
  obtain ⟨a1', a2, a3⟩ := a
  obtain ⟨b1', b2, b3⟩ := b
  refine ⟨zI_m (zI_c h a2) b2, ?_⟩
  have e : (0 ≤ a1.toInt ∧ a1.toInt < 2) → σ.1 (69 + 5 * a1.toNatClampNeg) 3 = σ1.1 189 a1.toNatClampNeg := fun hv => by
    rw [(a2.1 189 (by decide)).1]
    have hn : (a1.toNatClampNeg : Int) = a1.toInt := Int.toNat_of_nonneg hv.1
    have h01 : a1.toNatClampNeg = 0 ∨ a1.toNatClampNeg = 1 := by omega
    rcases h01 with q | q
    · rw [q]; exact h.2.2.2.1
    · rw [q]; exact h.2.2.2.2
  have e2 : r1 = 1 ↔ r2 = 1 := by
    rw [a3, b3]
    constructor
    · exact fun q => ⟨q.1, by rw [← e q.1]; exact q.2⟩
    · exact fun q => ⟨q.1, by rw [e q.1]; exact q.2⟩
  rcases a1' with q | q <;> rcases b1' with q' | q'
  · exact q.trans q'.symm
  · exact absurd (e2.mpr q') (by rw [q]; decide)
  · exact absurd (e2.mp q) (by rw [q']; decide)
  · exact q.trans q'.symm
section ZL
variable {p : Program} {l : Launch} {e : Env} {R : Room} {s : State} {m : MethodId} {args : Array Value} {below : List Frame} {meth : Method} {c : Code} {cells slots : Nat} {Q : State → Prop}
variable {E : za_E} {A : Nat → Prop} {nL : Nat} {cc : ByteArray} {own : String} {pc : Nat} {lv lv' : List (Nat × za_V)} {st : List za_V} {σ : za_S} {b L : Nat} {xs : Nat → Int32} {i : Int32}
theorem zv_scr (G : zC p s m args meth c cc own nL E A) (hX9 : va_X b L xs s s.heap) (hbl : b < s.heap.size) (hbA : ¬ A b) (hin : vp_in i L) (hd : decode cc pc = .ok (.iaload, 1)) (k : zV p l e R s m args below meth c E A nL cells slots Q (pc + 1) lv (za_I (xs i.toNatClampNeg) :: st) σ) : zV p l e R s m args below meth c E A nL cells slots Q pc lv (za_I i :: za_O 52 (b + 1) :: st) σ := by
  intro H locs ls ho hs hP hS hl
  exact va_sld G.1 G.2.1 hX9 hbl hbA hS hin hd (k H locs ls ho (za_fm (za_okI _) (List.forall_mem_cons.mp (List.forall_mem_cons.mp hs).2).2) hP hS hl)
theorem zv_sln (G : zC p s m args meth c cc own nL E A) (hX9 : va_X b L xs s s.heap) (hbl : b < s.heap.size) (hbA : ¬ A b) (hd : decode cc pc = .ok (.arraylength, 1)) (k : zV p l e R s m args below meth c E A nL cells slots Q (pc + 1) lv (za_I (Int32.ofNat L) :: st) σ) : zV p l e R s m args below meth c E A nL cells slots Q pc lv (za_O 52 (b + 1) :: st) σ := by
  intro H locs ls ho hs hP hS hl
  exact va_slen G.1 G.2.1 hX9 hbl hbA hS hd (k H locs ls ho (za_fm (za_okI _) (List.forall_mem_cons.mp hs).2) hP hS hl)
theorem zv_wid {cells' slots' : Nat} (h1 : cells ≤ cells') (h2 : slots ≤ slots') (k : zV p l e R s m args below meth c E A nL cells' slots' Q pc lv st σ) : zV p l e R s m args below meth c E A nL cells slots Q pc lv st σ :=
  fun H locs ls ho hs hP hS hl => W.widen h1 h2 (k H locs ls ho hs hP hS hl)
theorem zv_cs {cells' slots' pc' : Nat} (h1 : cells = cells') (h2 : slots = slots') (h3 : pc = pc') (k : zV p l e R s m args below meth c E A nL cells' slots' Q pc' lv st σ) : zV p l e R s m args below meth c E A nL cells slots Q pc lv st σ := by
  subst h1; subst h2; subst h3
  exact k
end ZL
def z0 : za_S := (fun _ _ => 0, fun _ _ => 0)
theorem fb_ct_0 (p : Nat → Bool) (h : ∀ k, p k = false) : ∀ n, fb_ct p n = 0
  | 0 => rfl
  | n + 1 => by rw [fb_ct_succ, fb_ct_0 p h n, h n]; rfl
theorem zG_0 : zG (fun _ => 0) := by
  refine ⟨fun i _ => (by decide : 0 ≤ (0 : Int32).toInt ∧ (0 : Int32).toInt ≤ 2200), fun i _ h => absurd h (by decide : ¬ (0 < (0 : Int32).toInt)), ?_, ?_⟩
  · unfold zcn
    rw [fb_ct_0 (zp (fun _ => 0) 0) (fun k => (by decide +kernel : zbB (0 : Int32) = false))]
    decide
  · unfold zcn
    rw [fb_ct_0 (zp (fun _ => 0) 1) (fun k => (by decide +kernel : zbB (0 : Int32) = false))]
    decide
theorem zI_0 : zI z0 := ⟨⟨⟨by decide, by decide⟩, fun _ _ => (by decide : 0 ≤ (0 : Int32).toInt ∧ (0 : Int32).toInt ≤ 19), by decide, by decide, by decide, by decide, zG_0, fun _ _ => zG_0, fun _ _ => zG_0⟩, rfl, rfl, rfl, rfl⟩
theorem zE_0 : wzE z0 := ⟨⟨rfl, rfl, rfl⟩, rfl, rfl, rfl, ⟨rfl, rfl⟩, fun _ _ _ => rfl⟩
set_option maxHeartbeats 4000000 in
set_option maxRecDepth 100000 in
theorem zx_X9_entry_at0 (l : Launch) (hl : l.stackTraces = false) (E : za_E) (a1 : Int32) (a2 : Int32) (a3 : Int32) (σ : za_S) (h0 : wzE σ) : zMxi l E yX9_entry cX9_entry 4 (Option.some Jvm.ClassFile.FieldType.int) 6 81 [za_O 0 0, za_I a1, za_I a2, za_I a3] σ (fun r σ' => False ∧ σ' = σ) := by
  refine zMxi_of [(0, za_O 0 0), (1, za_I a1), (2, za_I a2), (3, za_I a3)] (by decide) rfl rfl (Nat.le_of_ble_eq_true rfl) ?_
  intro ho p e s m args below meth c G hr hX ht
  refine zv_iload_n (j := 1) G dX9_entry_0 rfl rfl ?_
  refine zv_callSi (as := [za_I a1]) G (zc_X9_isTable_aty l E a1 σ ) zk_X9_isTable zm_438 rfl ⟨(Nat.le_of_ble_eq_true rfl), (Nat.le_of_ble_eq_true rfl)⟩ ⟨Nat.zero_le _, Nat.zero_le _⟩ (Nat.le_of_ble_eq_true rfl) dX9_entry_1 (fun r_1 σ h_1 => ?_)
  obtain ⟨h_1, rfl⟩ := h_1
  refine zv_if_eq (tgt := 31) G dX9_entry_4 (by decide) (fun c_4 => ?_) (fun c_4 => ?_)
  · have f_1 := fun q9 => (h_1.2.mpr q9) c_4
    exact zvx_throw G hl hX ht ⟨(Nat.le_of_ble_eq_true rfl), (Nat.le_of_ble_eq_true rfl), (Nat.le_of_ble_eq_true rfl), (Nat.le_of_ble_eq_true rfl)⟩ dX9_entry_31 dX9_entry_34 dX9_entry_35 dX9_entry_38
  · have t_1 := h_1.2.mp c_4
    refine zv_aload_n (j := 0) G dX9_entry_7 rfl rfl ?_
    refine zg_X9_10 G dX9_entry_8 ?_
    refine zv_iload_n (j := 1) G dX9_entry_11 rfl rfl ?_
    refine zv_callVNr (as := [za_I a1]) G (by decide) rfl rfl (zc_X4_table_atx l E 1 a1 σ (wz01i t_1)) zk_X4_table zm_453 rfl ⟨(Nat.le_of_ble_eq_true rfl), (Nat.le_of_ble_eq_true rfl)⟩ ⟨Nat.zero_le _, Nat.zero_le _⟩ (Nat.le_of_ble_eq_true rfl) dX9_entry_12 (fun r_12 σ h_12 => ?_)
    obtain ⟨w_12, rfl, h_w_12, t_12, rfl⟩ := h_12
    refine zv_iload_n (j := 2) G dX9_entry_15 rfl rfl ?_
    refine zv_callVNi (as := [za_I a2]) G (by decide) rfl rfl (zc_X6_has_atx l E w_12 a2 σ ) zk_X6_has zm_799 rfl ⟨(Nat.le_of_ble_eq_true rfl), (Nat.le_of_ble_eq_true rfl)⟩ ⟨Nat.zero_le _, Nat.zero_le _⟩ (Nat.le_of_ble_eq_true rfl) dX9_entry_16 (fun r_16 σ h_16 => ?_)
    obtain ⟨h_16, rfl⟩ := h_16
    refine zv_if_eq (tgt := 31) G dX9_entry_19 (by decide) (fun c_19 => ?_) (fun c_19 => ?_)
    · have f_16 := fun q9 => (h_16.2.mpr q9) c_19
      exact zvx_throw G hl hX ht ⟨(Nat.le_of_ble_eq_true rfl), (Nat.le_of_ble_eq_true rfl), (Nat.le_of_ble_eq_true rfl), (Nat.le_of_ble_eq_true rfl)⟩ dX9_entry_31 dX9_entry_34 dX9_entry_35 dX9_entry_38
    · exact absurd (h_16.2.mp c_19) (by rw [wzE_t h0 (wz01i t_1) t_12]; have h8 : (0 : Int32).toInt = 0 := (by decide); omega)
set_option maxHeartbeats 4000000 in
set_option maxRecDepth 100000 in
theorem zx_X9_row_at0 (l : Launch) (hl : l.stackTraces = false) (E : za_E) (a1 : Int32) (σ : za_S) (h0 : wzE σ) (h81 : σ.1 81 1 = 0) : zMxl l E yX9_row cX9_row 2 (Option.some Jvm.ClassFile.FieldType.long) 6 81 [za_O 0 0, za_I a1] σ (fun r σ' => False ∧ σ' = σ) := by
  refine zMxl_of [(0, za_O 0 0), (1, za_I a1)] (by decide) rfl rfl (Nat.le_of_ble_eq_true rfl) ?_
  intro ho p e s m args below meth c G hr hX ht
  refine zv_iload_n (j := 1) G dX9_row_0 rfl rfl ?_
  refine zv_if_lt (tgt := 15) G dX9_row_1 (by decide) (fun c_1 => ?_) (fun c_1 => ?_)
  · have k_1 := z_clt c_1 (a := a1.toInt) (b := 0) rfl rfl
    exact zvx_throw G hl hX ht ⟨(Nat.le_of_ble_eq_true rfl), (Nat.le_of_ble_eq_true rfl), (Nat.le_of_ble_eq_true rfl), (Nat.le_of_ble_eq_true rfl)⟩ dX9_row_15 dX9_row_18 dX9_row_19 dX9_row_22
  · have k_1 := z_cnlt c_1 (a := a1.toInt) (b := 0) rfl rfl
    refine zv_iload_n (j := 1) G dX9_row_4 rfl rfl ?_
    refine zv_aload_n (j := 0) G dX9_row_5 rfl rfl ?_
    refine zg_X9_40 G dX9_row_6 ?_
    refine zg_X9_386 G dX9_row_9 ?_
    refine zv_icmp_lt (tgt := 23) G dX9_row_12 (by decide) (fun c_12 => ?_) (fun c_12 => ?_)
    · exact absurd c_12 (fun q9 => by rw [h81, z_lt] at q9; have h8 : (0 : Int32).toInt = 0 := (by decide); omega)
    · have k_12 := z_cnlt c_12 (a := a1.toInt) (b := (σ.1 81 1).toInt) rfl rfl
      exact zvx_throw G hl hX ht ⟨(Nat.le_of_ble_eq_true rfl), (Nat.le_of_ble_eq_true rfl), (Nat.le_of_ble_eq_true rfl), (Nat.le_of_ble_eq_true rfl)⟩ dX9_row_15 dX9_row_18 dX9_row_19 dX9_row_22
set_option maxHeartbeats 4000000 in
set_option maxRecDepth 100000 in
theorem zy0_entry (l : Launch) (hl : l.stackTraces = false) (E : za_E) (a1 a2 a3 : Int32) (σ : za_S) (h0 : wzE σ) : zMy l E yL_entry cL_entry 6 [(0, 12, 15, 13)] 7 104 [za_O 0 0, za_I a1, za_I a2, za_I a3, za_O 29 193] σ (fun r σ' => r = 1 ∧ zol σ σ') := by
  refine zMy_of [(0, za_O 0 0), (1, za_I a1), (2, za_I a2), (3, za_I a3), (4, za_O 29 193)] (by decide) rfl rfl (Nat.le_of_ble_eq_true rfl) ?_
  intro ho p e s m args below meth c G hr hX ht
  refine zv_aload (j := 4) G dL_entry_0 rfl ?_
  refine zv_iconst (v := 0) G dL_entry_2 (by decide) ?_
  refine zv_aload_n (j := 0) G dL_entry_3 rfl rfl ?_
  refine zv_iload_n (j := 1) G dL_entry_4 rfl rfl ?_
  refine zv_iload_n (j := 2) G dL_entry_5 rfl rfl ?_
  refine zv_iload_n (j := 3) G dL_entry_6 rfl rfl ?_
  refine zvx_callVi (as := [za_I a1, za_I a2, za_I a3]) G hX (by decide) rfl rfl (zx_X9_entry_at0 l hl E a1 a2 a3 σ h0) zk_X9_entry zm_1096 rfl ⟨Nat.le_of_ble_eq_true rfl, Nat.le_of_ble_eq_true rfl⟩ ⟨Nat.le_of_ble_eq_true rfl, Nat.le_of_ble_eq_true rfl⟩ (Nat.le_of_ble_eq_true rfl) dL_entry_7 (fun ce q9 H1 locs1 ls ho1 hP1 hS1 hl1 g1 g2 g3 => ?_) (fun r σ' h => ?_)
  · refine vx_catch (own := RL) (name := zXN) (E := zXN) G.2.2.2.1 [] ⟨0, 12, 15, 13⟩ [] ht (fun z hz => nomatch hz) (by decide) (by decide) (G.2.2.2.2.1 _ zm_1095) (va_Nw.use (zXb_t _ (List.mem_cons_self)) (hX.1 _ (List.mem_cons_self))) g1 g2 g3 ?_
    refine (show zV p l e _ s m args below meth c E (za_A E) 6 (0 + 1) (0 + 6) _ 15 [(0, za_O 0 0), (1, za_I a1), (2, za_I a2), (3, za_I a3), (4, za_O 29 193)] [za_O 52 (q9 + 1)] σ from ?_) H1 locs1 ls ho1 (za_fm (za_ok52 _) (fun v h => nomatch h)) hP1 hS1 hl1
    refine zv_astR G dL_entry_15 (by decide) rfl ?_
    refine zv_iconst (v := 1) G dL_entry_17 (by decide) ?_
    exact zvy_iret G hr dL_entry_18 ⟨rfl, rfl, fun _ _ => rfl⟩ (by decide)
  · exact h.1.elim
set_option maxHeartbeats 4000000 in
set_option maxRecDepth 100000 in
theorem zy0_row (l : Launch) (hl : l.stackTraces = false) (E : za_E) (a1 : Int32) (σ : za_S) (h0 : wzE σ) (h81 : σ.1 81 1 = 0) : zMy l E yL_row cL_row 4 [(0, 8, 11, 13)] 7 102 [za_O 0 0, za_I a1, za_O 29 193] σ (fun r σ' => r = 1 ∧ zol σ σ') := by
  refine zMy_of [(0, za_O 0 0), (1, za_I a1), (2, za_O 29 193)] (by decide) rfl rfl (Nat.le_of_ble_eq_true rfl) ?_
  intro ho p e s m args below meth c G hr hX ht
  refine zv_aload_n (j := 2) G dL_row_0 rfl rfl ?_
  refine zv_iconst (v := 0) G dL_row_1 (by decide) ?_
  refine zv_aload_n (j := 0) G dL_row_2 rfl rfl ?_
  refine zv_iload_n (j := 1) G dL_row_3 rfl rfl ?_
  refine zvx_callVl (as := [za_I a1]) G hX (by decide) rfl rfl (zx_X9_row_at0 l hl E a1 σ h0 h81) zk_X9_row zm_1164 rfl ⟨Nat.le_of_ble_eq_true rfl, Nat.le_of_ble_eq_true rfl⟩ ⟨Nat.le_of_ble_eq_true rfl, Nat.le_of_ble_eq_true rfl⟩ (Nat.le_of_ble_eq_true rfl) dL_row_4 (fun ce q9 H1 locs1 ls ho1 hP1 hS1 hl1 g1 g2 g3 => ?_) (fun r σ' h => ?_)
  · refine vx_catch (own := RL) (name := zXN) (E := zXN) G.2.2.2.1 [] ⟨0, 8, 11, 13⟩ [] ht (fun z hz => nomatch hz) (by decide) (by decide) (G.2.2.2.2.1 _ zm_1095) (va_Nw.use (zXb_t _ (List.mem_cons_self)) (hX.1 _ (List.mem_cons_self))) g1 g2 g3 ?_
    refine (show zV p l e _ s m args below meth c E (za_A E) 4 (0 + 1) (0 + 6) _ 11 [(0, za_O 0 0), (1, za_I a1), (2, za_O 29 193)] [za_O 52 (q9 + 1)] σ from ?_) H1 locs1 ls ho1 (za_fm (za_ok52 _) (fun v h => nomatch h)) hP1 hS1 hl1
    refine zv_astR_n G dL_row_11 rfl (by decide) rfl ?_
    refine zv_iconst (v := 1) G dL_row_12 (by decide) ?_
    exact zvy_iret G hr dL_row_13 ⟨rfl, rfl, fun _ _ => rfl⟩ (by decide)
  · exact h.1.elim
set_option maxHeartbeats 4000000 in
set_option maxRecDepth 100000 in
theorem zc_X10_thrown_atx (l : Launch) (E : za_E)  (σ : za_S)  : zMi l E yX10_thrown cX10_thrown 1 (Option.some Jvm.ClassFile.FieldType.int) 1 21 [za_O 19 93] σ (fun r σ' => (r = σ.1 93 0) ∧ σ' = σ) := by
  refine zMi_of [(0, za_O 19 93)] (by decide) rfl rfl (Nat.le_of_ble_eq_true rfl) ?_
  intro ho p e s m args below meth c G hr
  refine zv_aload_n (j := 0) G dX10_thrown_0 rfl rfl ?_
  refine zg_X10_3 G dX10_thrown_1 ?_
  exact zv_iret G hr dX10_thrown_4 ⟨rfl, rfl⟩
section ZLL
variable {p : Program} {l : Launch} {e : Env} {s : State} {m : MethodId} {args : Array Value} {below : List Frame} {meth : Method} {c : Code} {cells slots : Nat} {Q : State → Prop}
variable {E : za_E} {A : Nat → Prop} {σ : za_S} {b L : Nat} {xs : Nat → Int32} {i : Int32}
set_option maxHeartbeats 4000000 in
set_option maxRecDepth 100000 in
theorem zl_0 (hl : l.stackTraces = false) (G : zC p s m args meth c cL_law RL 8 E A) (hX : zX E s s.heap) (hX9 : va_X b L xs s s.heap) (hbl : b < s.heap.size) (hbA : ¬ A b) (hin : ∀ x : Int32, 0 ≤ x.toInt → x.toInt ≤ 5 → vp_in (i + x) L) (hc : cells + 1 ≤ room_1.cells ∧ slots + 6 ≤ room_1.slots) (kk : ∀ σ' : za_S, zV p l e room_1 s m args below meth c E A 8 (cells + 1) (slots + 6) Q 1827 [(4, za_I i), (3, za_O 29 193), (2, za_O 19 93), (1, za_O 0 0), (0, za_O 52 (b + 1))] [] σ') : zV p l e room_1 s m args below meth c E A 8 cells slots Q 224 [(4, za_I i), (3, za_O 29 193), (2, za_O 19 93), (1, za_O 0 0), (0, za_O 52 (b + 1))] [] z0 := by
  have hc1 : cells ≤ room_1.cells := by omega
  have hc2 : slots ≤ room_1.slots := by omega
  have hz := zI_0
  refine zv_aload_n (j := 3) G dL_law_224 rfl rfl ?_
  refine zv_aldR (j := 4) G dL_law_225 rfl rfl ?_
  refine zv_iload (j := 0) G dL_law_226 rfl ?_
  refine zv_iconst (v := 1) G dL_law_228 (by decide) ?_
  refine zv_iadd G dL_law_229 ?_
  refine zv_scr G hX9 hbl hbA (hin 1 (by decide) (by decide)) dL_law_230 ?_
  refine zv_callVi (as := [za_I (xs (i + 1).toNatClampNeg)]) G (by decide) rfl rfl (zc_X9_sign l E (xs (i + 1).toNatClampNeg) z0 (zP_sign hz)) zk_X9_sign zm_372 rfl ⟨(Nat.le_of_ble_eq_true rfl), (Nat.le_of_ble_eq_true rfl)⟩ ⟨hc1, hc2⟩ (Nat.le_of_ble_eq_true rfl) dL_law_231 (fun r1 σ1 h1 => ?_)
  refine zv_aload_n (j := 2) G dL_law_234 rfl rfl ?_
  refine zv_aldR (j := 4) G dL_law_235 rfl rfl ?_
  refine zv_iload (j := 0) G dL_law_236 rfl ?_
  refine zv_iconst (v := 1) G dL_law_238 (by decide) ?_
  refine zv_iadd G dL_law_239 ?_
  refine zv_scr G hX9 hbl hbA (hin 1 (by decide) (by decide)) dL_law_240 ?_
  refine zv_callVi (as := [za_I (xs (i + 1).toNatClampNeg)]) G (by decide) rfl rfl (zc_X10_sign l E (xs (i + 1).toNatClampNeg) σ1 (zM_sign hz h1)) zk_X10_sign zm_1176 rfl ⟨(Nat.le_of_ble_eq_true rfl), (Nat.le_of_ble_eq_true rfl)⟩ ⟨hc1, hc2⟩ (Nat.le_of_ble_eq_true rfl) dL_law_241 (fun r2 σ2 h2 => ?_)
  obtain ⟨z2, e2⟩ := zI_sign hz h1 h2
  refine zv_icmp_eq (tgt := 1827) G dL_law_244 (by decide) (fun _ => ?_) (fun c9 => absurd (e2) c9)
  refine zv_wid (Nat.le_succ cells) (Nat.le_add_right slots 6) ?_
  exact kk σ2
set_option maxHeartbeats 4000000 in
set_option maxRecDepth 100000 in
theorem zl_1 (hl : l.stackTraces = false) (G : zC p s m args meth c cL_law RL 8 E A) (hX : zX E s s.heap) (hX9 : va_X b L xs s s.heap) (hbl : b < s.heap.size) (hbA : ¬ A b) (hin : ∀ x : Int32, 0 ≤ x.toInt → x.toInt ≤ 5 → vp_in (i + x) L) (hc : cells + 1 ≤ room_1.cells ∧ slots + 6 ≤ room_1.slots) (kk : ∀ σ' : za_S, zV p l e room_1 s m args below meth c E A 8 (cells + 1) (slots + 6) Q 1827 [(4, za_I i), (3, za_O 29 193), (2, za_O 19 93), (1, za_O 0 0), (0, za_O 52 (b + 1))] [] σ') : zV p l e room_1 s m args below meth c E A 8 cells slots Q 249 [(4, za_I i), (3, za_O 29 193), (2, za_O 19 93), (1, za_O 0 0), (0, za_O 52 (b + 1))] [] z0 := by
  have hc1 : cells ≤ room_1.cells := by omega
  have hc2 : slots ≤ room_1.slots := by omega
  have hz := zI_0
  refine zv_aload_n (j := 3) G dL_law_249 rfl rfl ?_
  refine zv_aldR (j := 4) G dL_law_250 rfl rfl ?_
  refine zv_iload (j := 0) G dL_law_251 rfl ?_
  refine zv_iconst (v := 1) G dL_law_253 (by decide) ?_
  refine zv_iadd G dL_law_254 ?_
  refine zv_scr G hX9 hbl hbA (hin 1 (by decide) (by decide)) dL_law_255 ?_
  refine zv_callVi (as := [za_I (xs (i + 1).toNatClampNeg)]) G (by decide) rfl rfl (zc_X9_end l E (xs (i + 1).toNatClampNeg) z0 ) zk_X9_end zm_380 rfl ⟨(Nat.le_of_ble_eq_true rfl), (Nat.le_of_ble_eq_true rfl)⟩ ⟨hc1, hc2⟩ (Nat.le_of_ble_eq_true rfl) dL_law_256 (fun r1 σ1 h1 => ?_)
  refine zv_aload_n (j := 2) G dL_law_259 rfl rfl ?_
  refine zv_aldR (j := 4) G dL_law_260 rfl rfl ?_
  refine zv_iload (j := 0) G dL_law_261 rfl ?_
  refine zv_iconst (v := 1) G dL_law_263 (by decide) ?_
  refine zv_iadd G dL_law_264 ?_
  refine zv_scr G hX9 hbl hbA (hin 1 (by decide) (by decide)) dL_law_265 ?_
  refine zv_callVi (as := [za_I (xs (i + 1).toNatClampNeg)]) G (by decide) rfl rfl (zc_X10_end l E (xs (i + 1).toNatClampNeg) σ1 ) zk_X10_end zm_1180 rfl ⟨(Nat.le_of_ble_eq_true rfl), (Nat.le_of_ble_eq_true rfl)⟩ ⟨hc1, hc2⟩ (Nat.le_of_ble_eq_true rfl) dL_law_266 (fun r2 σ2 h2 => ?_)
  obtain ⟨z2, e2⟩ := zI_end hz h1 h2
  refine zv_icmp_eq (tgt := 1827) G dL_law_269 (by decide) (fun _ => ?_) (fun c9 => absurd (e2) c9)
  refine zv_wid (Nat.le_succ cells) (Nat.le_add_right slots 6) ?_
  exact kk σ2
set_option maxHeartbeats 4000000 in
set_option maxRecDepth 100000 in
theorem zl_2 (hl : l.stackTraces = false) (G : zC p s m args meth c cL_law RL 8 E A) (hX : zX E s s.heap) (hX9 : va_X b L xs s s.heap) (hbl : b < s.heap.size) (hbA : ¬ A b) (hin : ∀ x : Int32, 0 ≤ x.toInt → x.toInt ≤ 5 → vp_in (i + x) L) (hc : cells + 1 ≤ room_1.cells ∧ slots + 6 ≤ room_1.slots) (kk : ∀ σ' : za_S, zV p l e room_1 s m args below meth c E A 8 (cells + 1) (slots + 6) Q 1827 [(4, za_I i), (3, za_O 29 193), (2, za_O 19 93), (1, za_O 0 0), (0, za_O 52 (b + 1))] [] σ') : zV p l e room_1 s m args below meth c E A 8 cells slots Q 274 [(4, za_I i), (3, za_O 29 193), (2, za_O 19 93), (1, za_O 0 0), (0, za_O 52 (b + 1))] [] z0 := by
  have hc1 : cells ≤ room_1.cells := by omega
  have hc2 : slots ≤ room_1.slots := by omega
  have hz := zI_0
  refine zv_aload_n (j := 3) G dL_law_274 rfl rfl ?_
  refine zv_aldR (j := 4) G dL_law_275 rfl rfl ?_
  refine zv_iload (j := 0) G dL_law_276 rfl ?_
  refine zv_iconst (v := 1) G dL_law_278 (by decide) ?_
  refine zv_iadd G dL_law_279 ?_
  refine zv_scr G hX9 hbl hbA (hin 1 (by decide) (by decide)) dL_law_280 ?_
  refine zv_aldR (j := 4) G dL_law_281 rfl rfl ?_
  refine zv_iload (j := 0) G dL_law_282 rfl ?_
  refine zv_iconst (v := 2) G dL_law_284 (by decide) ?_
  refine zv_iadd G dL_law_285 ?_
  refine zv_scr G hX9 hbl hbA (hin 2 (by decide) (by decide)) dL_law_286 ?_
  refine zv_aldR (j := 4) G dL_law_287 rfl rfl ?_
  refine zv_iload (j := 0) G dL_law_288 rfl ?_
  refine zv_iconst (v := 3) G dL_law_290 (by decide) ?_
  refine zv_iadd G dL_law_291 ?_
  refine zv_scr G hX9 hbl hbA (hin 3 (by decide) (by decide)) dL_law_292 ?_
  refine zv_aload_n (j := 1) G dL_law_293 rfl rfl ?_
  refine zvy_callS (n := 5) (as := [za_O 0 0, za_I (xs (i + 1).toNatClampNeg), za_I (xs (i + 2).toNatClampNeg), za_I (xs (i + 3).toNatClampNeg), za_O 29 193]) G hX (zy0_entry l hl E (xs (i + 1).toNatClampNeg) (xs (i + 2).toNatClampNeg) (xs (i + 3).toNatClampNeg) z0 zE_0) zm_1093 zm_131 zm_1094x ⟨by decide +kernel, by decide +kernel, by decide +kernel⟩ zm_1092 rfl ⟨(Nat.le_of_ble_eq_true rfl), (Nat.le_of_ble_eq_true rfl)⟩ hc (Nat.le_of_ble_eq_true rfl) dL_law_294 (fun r1 σ1 h1 => ?_)
  have z1 : wzZ σ1 := fun w _ i => by rw [h1.2.1]; rfl
  refine zv_istore G dL_law_297 (by decide) rfl ?_
  refine zv_aload_n (j := 3) G dL_law_299 rfl rfl ?_
  refine zv_aldR (j := 5) G dL_law_300 rfl rfl ?_
  refine zv_iload (j := 1) G dL_law_301 rfl ?_
  refine zv_iconst (v := 1) G dL_law_303 (by decide) ?_
  refine zv_iadd G dL_law_304 ?_
  refine zv_scr G hX9 hbl hbA (hin 1 (by decide) (by decide)) dL_law_305 ?_
  refine zv_aldR (j := 5) G dL_law_306 rfl rfl ?_
  refine zv_iload (j := 1) G dL_law_307 rfl ?_
  refine zv_iconst (v := 2) G dL_law_309 (by decide) ?_
  refine zv_iadd G dL_law_310 ?_
  refine zv_scr G hX9 hbl hbA (hin 2 (by decide) (by decide)) dL_law_311 ?_
  refine zv_aldR (j := 5) G dL_law_312 rfl rfl ?_
  refine zv_iload (j := 1) G dL_law_313 rfl ?_
  refine zv_iconst (v := 3) G dL_law_315 (by decide) ?_
  refine zv_iadd G dL_law_316 ?_
  refine zv_scr G hX9 hbl hbA (hin 3 (by decide) (by decide)) dL_law_317 ?_
  refine zv_callVi (as := [za_I (xs (i + 1).toNatClampNeg), za_I (xs (i + 2).toNatClampNeg), za_I (xs (i + 3).toNatClampNeg)]) G (by decide) rfl rfl (zc_X10_entry_at0 l E (xs (i + 1).toNatClampNeg) (xs (i + 2).toNatClampNeg) (xs (i + 3).toNatClampNeg) σ1 z1) zk_X10_entry zm_1309 rfl ⟨(Nat.le_of_ble_eq_true rfl), (Nat.le_of_ble_eq_true rfl)⟩ ⟨hc.1, hc.2⟩ (Nat.le_of_ble_eq_true rfl) dL_law_318 (fun r2 σ2 h2 => ?_)
  refine zv_istore G dL_law_321 (by decide) rfl ?_
  refine zv_aload_n (j := 4) G dL_law_323 rfl rfl ?_
  refine zv_callVi (as := []) G (by decide) rfl rfl (zc_X10_thrown_atx l E  σ2 ) zk_X10_thrown zm_1172 rfl ⟨(Nat.le_of_ble_eq_true rfl), (Nat.le_of_ble_eq_true rfl)⟩ ⟨hc.1, hc.2⟩ (Nat.le_of_ble_eq_true rfl) dL_law_324 (fun r3 σ3 h3 => ?_)
  refine zv_iload (j := 1) G dL_law_327 rfl ?_
  refine zv_icmp_eq (tgt := 334) G dL_law_329 (by decide) (fun _ => ?_) (fun c9 => absurd (h3.1.trans (h2.trans h1.1.symm)) c9)
  refine zv_iload (j := 1) G dL_law_334 rfl ?_
  refine zv_if_ne (tgt := 351) G dL_law_336 (by decide) (fun _ => ?_) (fun c9 => absurd (h1.1.symm.trans c9) (by decide))
  refine zv_goto (tgt := 1827) G dL_law_351 (by decide) ?_
  refine zv_sub [2, 3, 4, 5, 6] rfl ?_
  exact kk σ3
set_option maxHeartbeats 4000000 in
set_option maxRecDepth 100000 in
theorem zl_3 (hl : l.stackTraces = false) (G : zC p s m args meth c cL_law RL 8 E A) (hX : zX E s s.heap) (hX9 : va_X b L xs s s.heap) (hbl : b < s.heap.size) (hbA : ¬ A b) (hin : ∀ x : Int32, 0 ≤ x.toInt → x.toInt ≤ 5 → vp_in (i + x) L) (hc : cells + 1 ≤ room_1.cells ∧ slots + 6 ≤ room_1.slots) (kk : ∀ σ' : za_S, zV p l e room_1 s m args below meth c E A 8 (cells + 1) (slots + 6) Q 1827 [(4, za_I i), (3, za_O 29 193), (2, za_O 19 93), (1, za_O 0 0), (0, za_O 52 (b + 1))] [] σ') : zV p l e room_1 s m args below meth c E A 8 cells slots Q 354 [(4, za_I i), (3, za_O 29 193), (2, za_O 19 93), (1, za_O 0 0), (0, za_O 52 (b + 1))] [] z0 := by
  have hc1 : cells ≤ room_1.cells := by omega
  have hc2 : slots ≤ room_1.slots := by omega
  have hz := zI_0
  refine zv_aload_n (j := 3) G dL_law_354 rfl rfl ?_
  refine zv_aldR (j := 4) G dL_law_355 rfl rfl ?_
  refine zv_iload (j := 0) G dL_law_356 rfl ?_
  refine zv_iconst (v := 1) G dL_law_358 (by decide) ?_
  refine zv_iadd G dL_law_359 ?_
  refine zv_scr G hX9 hbl hbA (hin 1 (by decide) (by decide)) dL_law_360 ?_
  refine zv_aldR (j := 4) G dL_law_361 rfl rfl ?_
  refine zv_iload (j := 0) G dL_law_362 rfl ?_
  refine zv_iconst (v := 2) G dL_law_364 (by decide) ?_
  refine zv_iadd G dL_law_365 ?_
  refine zv_scr G hX9 hbl hbA (hin 2 (by decide) (by decide)) dL_law_366 ?_
  refine zv_aldR (j := 4) G dL_law_367 rfl rfl ?_
  refine zv_iload (j := 0) G dL_law_368 rfl ?_
  refine zv_iconst (v := 3) G dL_law_370 (by decide) ?_
  refine zv_iadd G dL_law_371 ?_
  refine zv_scr G hX9 hbl hbA (hin 3 (by decide) (by decide)) dL_law_372 ?_
  refine zv_aldR (j := 4) G dL_law_373 rfl rfl ?_
  refine zv_iload (j := 0) G dL_law_374 rfl ?_
  refine zv_iconst (v := 4) G dL_law_376 (by decide) ?_
  refine zv_iadd G dL_law_377 ?_
  refine zv_scr G hX9 hbl hbA (hin 4 (by decide) (by decide)) dL_law_378 ?_
  refine zv_callVi (as := [za_I (xs (i + 1).toNatClampNeg), za_I (xs (i + 2).toNatClampNeg), za_I (xs (i + 3).toNatClampNeg), za_I (xs (i + 4).toNatClampNeg)]) G (by decide) rfl rfl (zc_X9_sheet_at0 l E (xs (i + 1).toNatClampNeg) (xs (i + 2).toNatClampNeg) (xs (i + 3).toNatClampNeg) (xs (i + 4).toNatClampNeg) z0 zE_0) zk_X9_sheet zm_384 rfl ⟨(Nat.le_of_ble_eq_true rfl), (Nat.le_of_ble_eq_true rfl)⟩ ⟨hc1, hc2⟩ (Nat.le_of_ble_eq_true rfl) dL_law_379 (fun r1 σ1 h1 => ?_)
  refine zv_aload_n (j := 2) G dL_law_382 rfl rfl ?_
  refine zv_aldR (j := 4) G dL_law_383 rfl rfl ?_
  refine zv_iload (j := 0) G dL_law_384 rfl ?_
  refine zv_iconst (v := 1) G dL_law_386 (by decide) ?_
  refine zv_iadd G dL_law_387 ?_
  refine zv_scr G hX9 hbl hbA (hin 1 (by decide) (by decide)) dL_law_388 ?_
  refine zv_aldR (j := 4) G dL_law_389 rfl rfl ?_
  refine zv_iload (j := 0) G dL_law_390 rfl ?_
  refine zv_iconst (v := 2) G dL_law_392 (by decide) ?_
  refine zv_iadd G dL_law_393 ?_
  refine zv_scr G hX9 hbl hbA (hin 2 (by decide) (by decide)) dL_law_394 ?_
  refine zv_aldR (j := 4) G dL_law_395 rfl rfl ?_
  refine zv_iload (j := 0) G dL_law_396 rfl ?_
  refine zv_iconst (v := 3) G dL_law_398 (by decide) ?_
  refine zv_iadd G dL_law_399 ?_
  refine zv_scr G hX9 hbl hbA (hin 3 (by decide) (by decide)) dL_law_400 ?_
  refine zv_aldR (j := 4) G dL_law_401 rfl rfl ?_
  refine zv_iload (j := 0) G dL_law_402 rfl ?_
  refine zv_iconst (v := 4) G dL_law_404 (by decide) ?_
  refine zv_iadd G dL_law_405 ?_
  refine zv_scr G hX9 hbl hbA (hin 4 (by decide) (by decide)) dL_law_406 ?_
  refine zv_callVi (as := [za_I (xs (i + 1).toNatClampNeg), za_I (xs (i + 2).toNatClampNeg), za_I (xs (i + 3).toNatClampNeg), za_I (xs (i + 4).toNatClampNeg)]) G (by decide) rfl rfl (zc_X10_sheet_at0 l E (xs (i + 1).toNatClampNeg) (xs (i + 2).toNatClampNeg) (xs (i + 3).toNatClampNeg) (xs (i + 4).toNatClampNeg) σ1 h1.2) zk_X10_sheet zm_1347 rfl ⟨(Nat.le_of_ble_eq_true rfl), (Nat.le_of_ble_eq_true rfl)⟩ ⟨hc1, hc2⟩ (Nat.le_of_ble_eq_true rfl) dL_law_407 (fun r2 σ2 h2 => ?_)
  refine zv_icmp_eq (tgt := 1827) G dL_law_410 (by decide) (fun _ => ?_) (fun c9 => absurd (wzSh_u h1.1 h2) c9)
  refine zv_wid (Nat.le_succ cells) (Nat.le_add_right slots 6) ?_
  exact kk σ2
set_option maxHeartbeats 4000000 in
set_option maxRecDepth 100000 in
theorem zl_4 (hl : l.stackTraces = false) (G : zC p s m args meth c cL_law RL 8 E A) (hX : zX E s s.heap) (hX9 : va_X b L xs s s.heap) (hbl : b < s.heap.size) (hbA : ¬ A b) (hin : ∀ x : Int32, 0 ≤ x.toInt → x.toInt ≤ 5 → vp_in (i + x) L) (hc : cells + 1 ≤ room_1.cells ∧ slots + 6 ≤ room_1.slots) (kk : ∀ σ' : za_S, zV p l e room_1 s m args below meth c E A 8 (cells + 1) (slots + 6) Q 1827 [(4, za_I i), (3, za_O 29 193), (2, za_O 19 93), (1, za_O 0 0), (0, za_O 52 (b + 1))] [] σ') : zV p l e room_1 s m args below meth c E A 8 cells slots Q 415 [(4, za_I i), (3, za_O 29 193), (2, za_O 19 93), (1, za_O 0 0), (0, za_O 52 (b + 1))] [] z0 := by
  have hc1 : cells ≤ room_1.cells := by omega
  have hc2 : slots ≤ room_1.slots := by omega
  have hz := zI_0
  refine zv_aload_n (j := 3) G dL_law_415 rfl rfl ?_
  refine zv_aldR (j := 4) G dL_law_416 rfl rfl ?_
  refine zv_iload (j := 0) G dL_law_417 rfl ?_
  refine zv_iconst (v := 1) G dL_law_419 (by decide) ?_
  refine zv_iadd G dL_law_420 ?_
  refine zv_scr G hX9 hbl hbA (hin 1 (by decide) (by decide)) dL_law_421 ?_
  refine zv_aldR (j := 4) G dL_law_422 rfl rfl ?_
  refine zv_iload (j := 0) G dL_law_423 rfl ?_
  refine zv_iconst (v := 2) G dL_law_425 (by decide) ?_
  refine zv_iadd G dL_law_426 ?_
  refine zv_scr G hX9 hbl hbA (hin 2 (by decide) (by decide)) dL_law_427 ?_
  refine zv_aldR (j := 4) G dL_law_428 rfl rfl ?_
  refine zv_iload (j := 0) G dL_law_429 rfl ?_
  refine zv_iconst (v := 3) G dL_law_431 (by decide) ?_
  refine zv_iadd G dL_law_432 ?_
  refine zv_scr G hX9 hbl hbA (hin 3 (by decide) (by decide)) dL_law_433 ?_
  refine zv_aldR (j := 4) G dL_law_434 rfl rfl ?_
  refine zv_iload (j := 0) G dL_law_435 rfl ?_
  refine zv_iconst (v := 4) G dL_law_437 (by decide) ?_
  refine zv_iadd G dL_law_438 ?_
  refine zv_scr G hX9 hbl hbA (hin 4 (by decide) (by decide)) dL_law_439 ?_
  refine zv_aldR (j := 4) G dL_law_440 rfl rfl ?_
  refine zv_iload (j := 0) G dL_law_441 rfl ?_
  refine zv_iconst (v := 5) G dL_law_443 (by decide) ?_
  refine zv_iadd G dL_law_444 ?_
  refine zv_scr G hX9 hbl hbA (hin 5 (by decide) (by decide)) dL_law_445 ?_
  refine zv_callVi (as := [za_I (xs (i + 1).toNatClampNeg), za_I (xs (i + 2).toNatClampNeg), za_I (xs (i + 3).toNatClampNeg), za_I (xs (i + 4).toNatClampNeg), za_I (xs (i + 5).toNatClampNeg)]) G (by decide) rfl rfl (zc_X9_adds_at0 l E (xs (i + 1).toNatClampNeg) (xs (i + 2).toNatClampNeg) (xs (i + 3).toNatClampNeg) (xs (i + 4).toNatClampNeg) (xs (i + 5).toNatClampNeg) z0 zE_0) zk_X9_adds zm_405 rfl ⟨(Nat.le_of_ble_eq_true rfl), (Nat.le_of_ble_eq_true rfl)⟩ ⟨hc1, hc2⟩ (Nat.le_of_ble_eq_true rfl) dL_law_446 (fun r1 σ1 h1 => ?_)
  refine zv_aload_n (j := 2) G dL_law_449 rfl rfl ?_
  refine zv_aldR (j := 4) G dL_law_450 rfl rfl ?_
  refine zv_iload (j := 0) G dL_law_451 rfl ?_
  refine zv_iconst (v := 1) G dL_law_453 (by decide) ?_
  refine zv_iadd G dL_law_454 ?_
  refine zv_scr G hX9 hbl hbA (hin 1 (by decide) (by decide)) dL_law_455 ?_
  refine zv_aldR (j := 4) G dL_law_456 rfl rfl ?_
  refine zv_iload (j := 0) G dL_law_457 rfl ?_
  refine zv_iconst (v := 2) G dL_law_459 (by decide) ?_
  refine zv_iadd G dL_law_460 ?_
  refine zv_scr G hX9 hbl hbA (hin 2 (by decide) (by decide)) dL_law_461 ?_
  refine zv_aldR (j := 4) G dL_law_462 rfl rfl ?_
  refine zv_iload (j := 0) G dL_law_463 rfl ?_
  refine zv_iconst (v := 3) G dL_law_465 (by decide) ?_
  refine zv_iadd G dL_law_466 ?_
  refine zv_scr G hX9 hbl hbA (hin 3 (by decide) (by decide)) dL_law_467 ?_
  refine zv_aldR (j := 4) G dL_law_468 rfl rfl ?_
  refine zv_iload (j := 0) G dL_law_469 rfl ?_
  refine zv_iconst (v := 4) G dL_law_471 (by decide) ?_
  refine zv_iadd G dL_law_472 ?_
  refine zv_scr G hX9 hbl hbA (hin 4 (by decide) (by decide)) dL_law_473 ?_
  refine zv_aldR (j := 4) G dL_law_474 rfl rfl ?_
  refine zv_iload (j := 0) G dL_law_475 rfl ?_
  refine zv_iconst (v := 5) G dL_law_477 (by decide) ?_
  refine zv_iadd G dL_law_478 ?_
  refine zv_scr G hX9 hbl hbA (hin 5 (by decide) (by decide)) dL_law_479 ?_
  refine zv_callVi (as := [za_I (xs (i + 1).toNatClampNeg), za_I (xs (i + 2).toNatClampNeg), za_I (xs (i + 3).toNatClampNeg), za_I (xs (i + 4).toNatClampNeg), za_I (xs (i + 5).toNatClampNeg)]) G (by decide) rfl rfl (zc_X10_adds_at0 l E (xs (i + 1).toNatClampNeg) (xs (i + 2).toNatClampNeg) (xs (i + 3).toNatClampNeg) (xs (i + 4).toNatClampNeg) (xs (i + 5).toNatClampNeg) σ1 h1.2) zk_X10_adds zm_1363 rfl ⟨(Nat.le_of_ble_eq_true rfl), (Nat.le_of_ble_eq_true rfl)⟩ ⟨hc1, hc2⟩ (Nat.le_of_ble_eq_true rfl) dL_law_480 (fun r2 σ2 h2 => ?_)
  refine zv_icmp_eq (tgt := 1827) G dL_law_483 (by decide) (fun _ => ?_) (fun c9 => absurd (wzAn_u h1.1 h2) c9)
  refine zv_wid (Nat.le_succ cells) (Nat.le_add_right slots 6) ?_
  exact kk σ2
set_option maxHeartbeats 4000000 in
set_option maxRecDepth 100000 in
theorem zl_5 (hl : l.stackTraces = false) (G : zC p s m args meth c cL_law RL 8 E A) (hX : zX E s s.heap) (hX9 : va_X b L xs s s.heap) (hbl : b < s.heap.size) (hbA : ¬ A b) (hin : ∀ x : Int32, 0 ≤ x.toInt → x.toInt ≤ 5 → vp_in (i + x) L) (hc : cells + 1 ≤ room_1.cells ∧ slots + 6 ≤ room_1.slots) (kk : ∀ σ' : za_S, zV p l e room_1 s m args below meth c E A 8 (cells + 1) (slots + 6) Q 1827 [(4, za_I i), (3, za_O 29 193), (2, za_O 19 93), (1, za_O 0 0), (0, za_O 52 (b + 1))] [] σ') : zV p l e room_1 s m args below meth c E A 8 cells slots Q 488 [(4, za_I i), (3, za_O 29 193), (2, za_O 19 93), (1, za_O 0 0), (0, za_O 52 (b + 1))] [] z0 := by
  have hc1 : cells ≤ room_1.cells := by omega
  have hc2 : slots ≤ room_1.slots := by omega
  have hz := zI_0
  refine zv_aload_n (j := 3) G dL_law_488 rfl rfl ?_
  refine zv_aldR (j := 4) G dL_law_489 rfl rfl ?_
  refine zv_iload (j := 0) G dL_law_490 rfl ?_
  refine zv_iconst (v := 1) G dL_law_492 (by decide) ?_
  refine zv_iadd G dL_law_493 ?_
  refine zv_scr G hX9 hbl hbA (hin 1 (by decide) (by decide)) dL_law_494 ?_
  refine zv_aldR (j := 4) G dL_law_495 rfl rfl ?_
  refine zv_iload (j := 0) G dL_law_496 rfl ?_
  refine zv_iconst (v := 2) G dL_law_498 (by decide) ?_
  refine zv_iadd G dL_law_499 ?_
  refine zv_scr G hX9 hbl hbA (hin 2 (by decide) (by decide)) dL_law_500 ?_
  refine zv_aldR (j := 4) G dL_law_501 rfl rfl ?_
  refine zv_iload (j := 0) G dL_law_502 rfl ?_
  refine zv_iconst (v := 3) G dL_law_504 (by decide) ?_
  refine zv_iadd G dL_law_505 ?_
  refine zv_scr G hX9 hbl hbA (hin 3 (by decide) (by decide)) dL_law_506 ?_
  refine zv_aldR (j := 4) G dL_law_507 rfl rfl ?_
  refine zv_iload (j := 0) G dL_law_508 rfl ?_
  refine zv_iconst (v := 4) G dL_law_510 (by decide) ?_
  refine zv_iadd G dL_law_511 ?_
  refine zv_scr G hX9 hbl hbA (hin 4 (by decide) (by decide)) dL_law_512 ?_
  refine zv_aldR (j := 4) G dL_law_513 rfl rfl ?_
  refine zv_iload (j := 0) G dL_law_514 rfl ?_
  refine zv_iconst (v := 5) G dL_law_516 (by decide) ?_
  refine zv_iadd G dL_law_517 ?_
  refine zv_scr G hX9 hbl hbA (hin 5 (by decide) (by decide)) dL_law_518 ?_
  refine zv_callVi (as := [za_I (xs (i + 1).toNatClampNeg), za_I (xs (i + 2).toNatClampNeg), za_I (xs (i + 3).toNatClampNeg), za_I (xs (i + 4).toNatClampNeg), za_I (xs (i + 5).toNatClampNeg)]) G (by decide) rfl rfl (zc_X9_sets_at0 l E (xs (i + 1).toNatClampNeg) (xs (i + 2).toNatClampNeg) (xs (i + 3).toNatClampNeg) (xs (i + 4).toNatClampNeg) (xs (i + 5).toNatClampNeg) z0 zE_0) zk_X9_sets zm_501 rfl ⟨(Nat.le_of_ble_eq_true rfl), (Nat.le_of_ble_eq_true rfl)⟩ ⟨hc1, hc2⟩ (Nat.le_of_ble_eq_true rfl) dL_law_519 (fun r1 σ1 h1 => ?_)
  refine zv_aload_n (j := 2) G dL_law_522 rfl rfl ?_
  refine zv_aldR (j := 4) G dL_law_523 rfl rfl ?_
  refine zv_iload (j := 0) G dL_law_524 rfl ?_
  refine zv_iconst (v := 1) G dL_law_526 (by decide) ?_
  refine zv_iadd G dL_law_527 ?_
  refine zv_scr G hX9 hbl hbA (hin 1 (by decide) (by decide)) dL_law_528 ?_
  refine zv_aldR (j := 4) G dL_law_529 rfl rfl ?_
  refine zv_iload (j := 0) G dL_law_530 rfl ?_
  refine zv_iconst (v := 2) G dL_law_532 (by decide) ?_
  refine zv_iadd G dL_law_533 ?_
  refine zv_scr G hX9 hbl hbA (hin 2 (by decide) (by decide)) dL_law_534 ?_
  refine zv_aldR (j := 4) G dL_law_535 rfl rfl ?_
  refine zv_iload (j := 0) G dL_law_536 rfl ?_
  refine zv_iconst (v := 3) G dL_law_538 (by decide) ?_
  refine zv_iadd G dL_law_539 ?_
  refine zv_scr G hX9 hbl hbA (hin 3 (by decide) (by decide)) dL_law_540 ?_
  refine zv_aldR (j := 4) G dL_law_541 rfl rfl ?_
  refine zv_iload (j := 0) G dL_law_542 rfl ?_
  refine zv_iconst (v := 4) G dL_law_544 (by decide) ?_
  refine zv_iadd G dL_law_545 ?_
  refine zv_scr G hX9 hbl hbA (hin 4 (by decide) (by decide)) dL_law_546 ?_
  refine zv_aldR (j := 4) G dL_law_547 rfl rfl ?_
  refine zv_iload (j := 0) G dL_law_548 rfl ?_
  refine zv_iconst (v := 5) G dL_law_550 (by decide) ?_
  refine zv_iadd G dL_law_551 ?_
  refine zv_scr G hX9 hbl hbA (hin 5 (by decide) (by decide)) dL_law_552 ?_
  refine zv_callVi (as := [za_I (xs (i + 1).toNatClampNeg), za_I (xs (i + 2).toNatClampNeg), za_I (xs (i + 3).toNatClampNeg), za_I (xs (i + 4).toNatClampNeg), za_I (xs (i + 5).toNatClampNeg)]) G (by decide) rfl rfl (zc_X10_sets_at0 l E (xs (i + 1).toNatClampNeg) (xs (i + 2).toNatClampNeg) (xs (i + 3).toNatClampNeg) (xs (i + 4).toNatClampNeg) (xs (i + 5).toNatClampNeg) σ1 h1.2) zk_X10_sets zm_1403 rfl ⟨(Nat.le_of_ble_eq_true rfl), (Nat.le_of_ble_eq_true rfl)⟩ ⟨hc1, hc2⟩ (Nat.le_of_ble_eq_true rfl) dL_law_553 (fun r2 σ2 h2 => ?_)
  refine zv_icmp_eq (tgt := 1827) G dL_law_556 (by decide) (fun _ => ?_) (fun c9 => absurd (wzAn_u h1.1 h2) c9)
  refine zv_wid (Nat.le_succ cells) (Nat.le_add_right slots 6) ?_
  exact kk σ2
set_option maxHeartbeats 4000000 in
set_option maxRecDepth 100000 in
theorem zl_6 (hl : l.stackTraces = false) (G : zC p s m args meth c cL_law RL 8 E A) (hX : zX E s s.heap) (hX9 : va_X b L xs s s.heap) (hbl : b < s.heap.size) (hbA : ¬ A b) (hin : ∀ x : Int32, 0 ≤ x.toInt → x.toInt ≤ 5 → vp_in (i + x) L) (hc : cells + 1 ≤ room_1.cells ∧ slots + 6 ≤ room_1.slots) (kk : ∀ σ' : za_S, zV p l e room_1 s m args below meth c E A 8 (cells + 1) (slots + 6) Q 1827 [(4, za_I i), (3, za_O 29 193), (2, za_O 19 93), (1, za_O 0 0), (0, za_O 52 (b + 1))] [] σ') : zV p l e room_1 s m args below meth c E A 8 cells slots Q 561 [(4, za_I i), (3, za_O 29 193), (2, za_O 19 93), (1, za_O 0 0), (0, za_O 52 (b + 1))] [] z0 := by
  have hc1 : cells ≤ room_1.cells := by omega
  have hc2 : slots ≤ room_1.slots := by omega
  have hz := zI_0
  refine zv_aload_n (j := 3) G dL_law_561 rfl rfl ?_
  refine zv_aldR (j := 4) G dL_law_562 rfl rfl ?_
  refine zv_iload (j := 0) G dL_law_563 rfl ?_
  refine zv_iconst (v := 1) G dL_law_565 (by decide) ?_
  refine zv_iadd G dL_law_566 ?_
  refine zv_scr G hX9 hbl hbA (hin 1 (by decide) (by decide)) dL_law_567 ?_
  refine zv_aldR (j := 4) G dL_law_568 rfl rfl ?_
  refine zv_iload (j := 0) G dL_law_569 rfl ?_
  refine zv_iconst (v := 2) G dL_law_571 (by decide) ?_
  refine zv_iadd G dL_law_572 ?_
  refine zv_scr G hX9 hbl hbA (hin 2 (by decide) (by decide)) dL_law_573 ?_
  refine zv_aldR (j := 4) G dL_law_574 rfl rfl ?_
  refine zv_iload (j := 0) G dL_law_575 rfl ?_
  refine zv_iconst (v := 3) G dL_law_577 (by decide) ?_
  refine zv_iadd G dL_law_578 ?_
  refine zv_scr G hX9 hbl hbA (hin 3 (by decide) (by decide)) dL_law_579 ?_
  refine zv_aldR (j := 4) G dL_law_580 rfl rfl ?_
  refine zv_iload (j := 0) G dL_law_581 rfl ?_
  refine zv_iconst (v := 4) G dL_law_583 (by decide) ?_
  refine zv_iadd G dL_law_584 ?_
  refine zv_scr G hX9 hbl hbA (hin 4 (by decide) (by decide)) dL_law_585 ?_
  refine zv_callVi (as := [za_I (xs (i + 1).toNatClampNeg), za_I (xs (i + 2).toNatClampNeg), za_I (xs (i + 3).toNatClampNeg), za_I (xs (i + 4).toNatClampNeg)]) G (by decide) rfl rfl (zc_X9_refers_at0 l E (xs (i + 1).toNatClampNeg) (xs (i + 2).toNatClampNeg) (xs (i + 3).toNatClampNeg) (xs (i + 4).toNatClampNeg) z0 zE_0) zk_X9_refers zm_539 rfl ⟨(Nat.le_of_ble_eq_true rfl), (Nat.le_of_ble_eq_true rfl)⟩ ⟨hc1, hc2⟩ (Nat.le_of_ble_eq_true rfl) dL_law_586 (fun r1 σ1 h1 => ?_)
  refine zv_aload_n (j := 2) G dL_law_589 rfl rfl ?_
  refine zv_aldR (j := 4) G dL_law_590 rfl rfl ?_
  refine zv_iload (j := 0) G dL_law_591 rfl ?_
  refine zv_iconst (v := 1) G dL_law_593 (by decide) ?_
  refine zv_iadd G dL_law_594 ?_
  refine zv_scr G hX9 hbl hbA (hin 1 (by decide) (by decide)) dL_law_595 ?_
  refine zv_aldR (j := 4) G dL_law_596 rfl rfl ?_
  refine zv_iload (j := 0) G dL_law_597 rfl ?_
  refine zv_iconst (v := 2) G dL_law_599 (by decide) ?_
  refine zv_iadd G dL_law_600 ?_
  refine zv_scr G hX9 hbl hbA (hin 2 (by decide) (by decide)) dL_law_601 ?_
  refine zv_aldR (j := 4) G dL_law_602 rfl rfl ?_
  refine zv_iload (j := 0) G dL_law_603 rfl ?_
  refine zv_iconst (v := 3) G dL_law_605 (by decide) ?_
  refine zv_iadd G dL_law_606 ?_
  refine zv_scr G hX9 hbl hbA (hin 3 (by decide) (by decide)) dL_law_607 ?_
  refine zv_aldR (j := 4) G dL_law_608 rfl rfl ?_
  refine zv_iload (j := 0) G dL_law_609 rfl ?_
  refine zv_iconst (v := 4) G dL_law_611 (by decide) ?_
  refine zv_iadd G dL_law_612 ?_
  refine zv_scr G hX9 hbl hbA (hin 4 (by decide) (by decide)) dL_law_613 ?_
  refine zv_callVi (as := [za_I (xs (i + 1).toNatClampNeg), za_I (xs (i + 2).toNatClampNeg), za_I (xs (i + 3).toNatClampNeg), za_I (xs (i + 4).toNatClampNeg)]) G (by decide) rfl rfl (zc_X10_refers_at0 l E (xs (i + 1).toNatClampNeg) (xs (i + 2).toNatClampNeg) (xs (i + 3).toNatClampNeg) (xs (i + 4).toNatClampNeg) σ1 h1.2) zk_X10_refers zm_1426 rfl ⟨(Nat.le_of_ble_eq_true rfl), (Nat.le_of_ble_eq_true rfl)⟩ ⟨hc1, hc2⟩ (Nat.le_of_ble_eq_true rfl) dL_law_614 (fun r2 σ2 h2 => ?_)
  refine zv_icmp_eq (tgt := 1827) G dL_law_617 (by decide) (fun _ => ?_) (fun c9 => absurd (wzAn_u h1.1 h2) c9)
  refine zv_wid (Nat.le_succ cells) (Nat.le_add_right slots 6) ?_
  exact kk σ2
set_option maxHeartbeats 4000000 in
set_option maxRecDepth 100000 in
theorem zl_7 (hl : l.stackTraces = false) (G : zC p s m args meth c cL_law RL 8 E A) (hX : zX E s s.heap) (hX9 : va_X b L xs s s.heap) (hbl : b < s.heap.size) (hbA : ¬ A b) (hin : ∀ x : Int32, 0 ≤ x.toInt → x.toInt ≤ 5 → vp_in (i + x) L) (hc : cells + 1 ≤ room_1.cells ∧ slots + 6 ≤ room_1.slots) (kk : ∀ σ' : za_S, zV p l e room_1 s m args below meth c E A 8 (cells + 1) (slots + 6) Q 1827 [(4, za_I i), (3, za_O 29 193), (2, za_O 19 93), (1, za_O 0 0), (0, za_O 52 (b + 1))] [] σ') : zV p l e room_1 s m args below meth c E A 8 cells slots Q 622 [(4, za_I i), (3, za_O 29 193), (2, za_O 19 93), (1, za_O 0 0), (0, za_O 52 (b + 1))] [] z0 := by
  have hc1 : cells ≤ room_1.cells := by omega
  have hc2 : slots ≤ room_1.slots := by omega
  have hz := zI_0
  refine zv_aload_n (j := 3) G dL_law_622 rfl rfl ?_
  refine zv_aldR (j := 4) G dL_law_623 rfl rfl ?_
  refine zv_iload (j := 0) G dL_law_624 rfl ?_
  refine zv_iconst (v := 1) G dL_law_626 (by decide) ?_
  refine zv_iadd G dL_law_627 ?_
  refine zv_scr G hX9 hbl hbA (hin 1 (by decide) (by decide)) dL_law_628 ?_
  refine zv_aldR (j := 4) G dL_law_629 rfl rfl ?_
  refine zv_iload (j := 0) G dL_law_630 rfl ?_
  refine zv_iconst (v := 2) G dL_law_632 (by decide) ?_
  refine zv_iadd G dL_law_633 ?_
  refine zv_scr G hX9 hbl hbA (hin 2 (by decide) (by decide)) dL_law_634 ?_
  refine zv_aldR (j := 4) G dL_law_635 rfl rfl ?_
  refine zv_iload (j := 0) G dL_law_636 rfl ?_
  refine zv_iconst (v := 3) G dL_law_638 (by decide) ?_
  refine zv_iadd G dL_law_639 ?_
  refine zv_scr G hX9 hbl hbA (hin 3 (by decide) (by decide)) dL_law_640 ?_
  refine zv_aldR (j := 4) G dL_law_641 rfl rfl ?_
  refine zv_iload (j := 0) G dL_law_642 rfl ?_
  refine zv_iconst (v := 4) G dL_law_644 (by decide) ?_
  refine zv_iadd G dL_law_645 ?_
  refine zv_scr G hX9 hbl hbA (hin 4 (by decide) (by decide)) dL_law_646 ?_
  refine zv_callVi (as := [za_I (xs (i + 1).toNatClampNeg), za_I (xs (i + 2).toNatClampNeg), za_I (xs (i + 3).toNatClampNeg), za_I (xs (i + 4).toNatClampNeg)]) G (by decide) rfl rfl (zc_X9_cuts_at0 l E (xs (i + 1).toNatClampNeg) (xs (i + 2).toNatClampNeg) (xs (i + 3).toNatClampNeg) (xs (i + 4).toNatClampNeg) z0 zE_0) zk_X9_cuts zm_560 rfl ⟨(Nat.le_of_ble_eq_true rfl), (Nat.le_of_ble_eq_true rfl)⟩ ⟨hc1, hc2⟩ (Nat.le_of_ble_eq_true rfl) dL_law_647 (fun r1 σ1 h1 => ?_)
  refine zv_aload_n (j := 2) G dL_law_650 rfl rfl ?_
  refine zv_aldR (j := 4) G dL_law_651 rfl rfl ?_
  refine zv_iload (j := 0) G dL_law_652 rfl ?_
  refine zv_iconst (v := 1) G dL_law_654 (by decide) ?_
  refine zv_iadd G dL_law_655 ?_
  refine zv_scr G hX9 hbl hbA (hin 1 (by decide) (by decide)) dL_law_656 ?_
  refine zv_aldR (j := 4) G dL_law_657 rfl rfl ?_
  refine zv_iload (j := 0) G dL_law_658 rfl ?_
  refine zv_iconst (v := 2) G dL_law_660 (by decide) ?_
  refine zv_iadd G dL_law_661 ?_
  refine zv_scr G hX9 hbl hbA (hin 2 (by decide) (by decide)) dL_law_662 ?_
  refine zv_aldR (j := 4) G dL_law_663 rfl rfl ?_
  refine zv_iload (j := 0) G dL_law_664 rfl ?_
  refine zv_iconst (v := 3) G dL_law_666 (by decide) ?_
  refine zv_iadd G dL_law_667 ?_
  refine zv_scr G hX9 hbl hbA (hin 3 (by decide) (by decide)) dL_law_668 ?_
  refine zv_aldR (j := 4) G dL_law_669 rfl rfl ?_
  refine zv_iload (j := 0) G dL_law_670 rfl ?_
  refine zv_iconst (v := 4) G dL_law_672 (by decide) ?_
  refine zv_iadd G dL_law_673 ?_
  refine zv_scr G hX9 hbl hbA (hin 4 (by decide) (by decide)) dL_law_674 ?_
  refine zv_callVi (as := [za_I (xs (i + 1).toNatClampNeg), za_I (xs (i + 2).toNatClampNeg), za_I (xs (i + 3).toNatClampNeg), za_I (xs (i + 4).toNatClampNeg)]) G (by decide) rfl rfl (zc_X10_cuts_at0 l E (xs (i + 1).toNatClampNeg) (xs (i + 2).toNatClampNeg) (xs (i + 3).toNatClampNeg) (xs (i + 4).toNatClampNeg) σ1 h1.2) zk_X10_cuts zm_1438 rfl ⟨(Nat.le_of_ble_eq_true rfl), (Nat.le_of_ble_eq_true rfl)⟩ ⟨hc1, hc2⟩ (Nat.le_of_ble_eq_true rfl) dL_law_675 (fun r2 σ2 h2 => ?_)
  refine zv_icmp_eq (tgt := 1827) G dL_law_678 (by decide) (fun _ => ?_) (fun c9 => absurd (wzAn_u h1.1 h2) c9)
  refine zv_wid (Nat.le_succ cells) (Nat.le_add_right slots 6) ?_
  exact kk σ2
set_option maxHeartbeats 4000000 in
set_option maxRecDepth 100000 in
theorem zl_8 (hl : l.stackTraces = false) (G : zC p s m args meth c cL_law RL 8 E A) (hX : zX E s s.heap) (hX9 : va_X b L xs s s.heap) (hbl : b < s.heap.size) (hbA : ¬ A b) (hin : ∀ x : Int32, 0 ≤ x.toInt → x.toInt ≤ 5 → vp_in (i + x) L) (hc : cells + 1 ≤ room_1.cells ∧ slots + 6 ≤ room_1.slots) (kk : ∀ σ' : za_S, zV p l e room_1 s m args below meth c E A 8 (cells + 1) (slots + 6) Q 1827 [(4, za_I i), (3, za_O 29 193), (2, za_O 19 93), (1, za_O 0 0), (0, za_O 52 (b + 1))] [] σ') : zV p l e room_1 s m args below meth c E A 8 cells slots Q 683 [(4, za_I i), (3, za_O 29 193), (2, za_O 19 93), (1, za_O 0 0), (0, za_O 52 (b + 1))] [] z0 := by
  have hc1 : cells ≤ room_1.cells := by omega
  have hc2 : slots ≤ room_1.slots := by omega
  have hz := zI_0
  refine zv_aload_n (j := 3) G dL_law_683 rfl rfl ?_
  refine zv_aldR (j := 4) G dL_law_684 rfl rfl ?_
  refine zv_iload (j := 0) G dL_law_685 rfl ?_
  refine zv_iconst (v := 1) G dL_law_687 (by decide) ?_
  refine zv_iadd G dL_law_688 ?_
  refine zv_scr G hX9 hbl hbA (hin 1 (by decide) (by decide)) dL_law_689 ?_
  refine zv_aldR (j := 4) G dL_law_690 rfl rfl ?_
  refine zv_iload (j := 0) G dL_law_691 rfl ?_
  refine zv_iconst (v := 2) G dL_law_693 (by decide) ?_
  refine zv_iadd G dL_law_694 ?_
  refine zv_scr G hX9 hbl hbA (hin 2 (by decide) (by decide)) dL_law_695 ?_
  refine zv_aldR (j := 4) G dL_law_696 rfl rfl ?_
  refine zv_iload (j := 0) G dL_law_697 rfl ?_
  refine zv_iconst (v := 3) G dL_law_699 (by decide) ?_
  refine zv_iadd G dL_law_700 ?_
  refine zv_scr G hX9 hbl hbA (hin 3 (by decide) (by decide)) dL_law_701 ?_
  refine zv_callVi (as := [za_I (xs (i + 1).toNatClampNeg), za_I (xs (i + 2).toNatClampNeg), za_I (xs (i + 3).toNatClampNeg)]) G (by decide) rfl rfl (zc_X9_shifts_at0 l E (xs (i + 1).toNatClampNeg) (xs (i + 2).toNatClampNeg) (xs (i + 3).toNatClampNeg) z0 zE_0) zk_X9_shifts zm_613 rfl ⟨(Nat.le_of_ble_eq_true rfl), (Nat.le_of_ble_eq_true rfl)⟩ ⟨hc1, hc2⟩ (Nat.le_of_ble_eq_true rfl) dL_law_702 (fun r1 σ1 h1 => ?_)
  refine zv_aload_n (j := 2) G dL_law_705 rfl rfl ?_
  refine zv_aldR (j := 4) G dL_law_706 rfl rfl ?_
  refine zv_iload (j := 0) G dL_law_707 rfl ?_
  refine zv_iconst (v := 1) G dL_law_709 (by decide) ?_
  refine zv_iadd G dL_law_710 ?_
  refine zv_scr G hX9 hbl hbA (hin 1 (by decide) (by decide)) dL_law_711 ?_
  refine zv_aldR (j := 4) G dL_law_712 rfl rfl ?_
  refine zv_iload (j := 0) G dL_law_713 rfl ?_
  refine zv_iconst (v := 2) G dL_law_715 (by decide) ?_
  refine zv_iadd G dL_law_716 ?_
  refine zv_scr G hX9 hbl hbA (hin 2 (by decide) (by decide)) dL_law_717 ?_
  refine zv_aldR (j := 4) G dL_law_718 rfl rfl ?_
  refine zv_iload (j := 0) G dL_law_719 rfl ?_
  refine zv_iconst (v := 3) G dL_law_721 (by decide) ?_
  refine zv_iadd G dL_law_722 ?_
  refine zv_scr G hX9 hbl hbA (hin 3 (by decide) (by decide)) dL_law_723 ?_
  refine zv_callVi (as := [za_I (xs (i + 1).toNatClampNeg), za_I (xs (i + 2).toNatClampNeg), za_I (xs (i + 3).toNatClampNeg)]) G (by decide) rfl rfl (zc_X10_shifts_at0 l E (xs (i + 1).toNatClampNeg) (xs (i + 2).toNatClampNeg) (xs (i + 3).toNatClampNeg) σ1 h1.2) zk_X10_shifts zm_1454 rfl ⟨(Nat.le_of_ble_eq_true rfl), (Nat.le_of_ble_eq_true rfl)⟩ ⟨hc1, hc2⟩ (Nat.le_of_ble_eq_true rfl) dL_law_724 (fun r2 σ2 h2 => ?_)
  refine zv_icmp_eq (tgt := 1827) G dL_law_727 (by decide) (fun _ => ?_) (fun c9 => absurd (wzAn_u h1.1 h2) c9)
  refine zv_wid (Nat.le_succ cells) (Nat.le_add_right slots 6) ?_
  exact kk σ2
set_option maxHeartbeats 4000000 in
set_option maxRecDepth 100000 in
theorem zl_9 (hl : l.stackTraces = false) (G : zC p s m args meth c cL_law RL 8 E A) (hX : zX E s s.heap) (hX9 : va_X b L xs s s.heap) (hbl : b < s.heap.size) (hbA : ¬ A b) (hin : ∀ x : Int32, 0 ≤ x.toInt → x.toInt ≤ 5 → vp_in (i + x) L) (hc : cells + 1 ≤ room_1.cells ∧ slots + 6 ≤ room_1.slots) (kk : ∀ σ' : za_S, zV p l e room_1 s m args below meth c E A 8 (cells + 1) (slots + 6) Q 1827 [(4, za_I i), (3, za_O 29 193), (2, za_O 19 93), (1, za_O 0 0), (0, za_O 52 (b + 1))] [] σ') : zV p l e room_1 s m args below meth c E A 8 cells slots Q 732 [(4, za_I i), (3, za_O 29 193), (2, za_O 19 93), (1, za_O 0 0), (0, za_O 52 (b + 1))] [] z0 := by
  have hc1 : cells ≤ room_1.cells := by omega
  have hc2 : slots ≤ room_1.slots := by omega
  have hz := zI_0
  refine zv_aload_n (j := 3) G dL_law_732 rfl rfl ?_
  refine zv_aldR (j := 4) G dL_law_733 rfl rfl ?_
  refine zv_iload (j := 0) G dL_law_734 rfl ?_
  refine zv_iconst (v := 1) G dL_law_736 (by decide) ?_
  refine zv_iadd G dL_law_737 ?_
  refine zv_scr G hX9 hbl hbA (hin 1 (by decide) (by decide)) dL_law_738 ?_
  refine zv_callVi (as := [za_I (xs (i + 1).toNatClampNeg)]) G (by decide) rfl rfl (zc_X9_joins_at0 l E (xs (i + 1).toNatClampNeg) z0 zE_0) zk_X9_joins zm_626 rfl ⟨(Nat.le_of_ble_eq_true rfl), (Nat.le_of_ble_eq_true rfl)⟩ ⟨hc1, hc2⟩ (Nat.le_of_ble_eq_true rfl) dL_law_739 (fun r1 σ1 h1 => ?_)
  refine zv_aload_n (j := 2) G dL_law_742 rfl rfl ?_
  refine zv_aldR (j := 4) G dL_law_743 rfl rfl ?_
  refine zv_iload (j := 0) G dL_law_744 rfl ?_
  refine zv_iconst (v := 1) G dL_law_746 (by decide) ?_
  refine zv_iadd G dL_law_747 ?_
  refine zv_scr G hX9 hbl hbA (hin 1 (by decide) (by decide)) dL_law_748 ?_
  refine zv_callVi (as := [za_I (xs (i + 1).toNatClampNeg)]) G (by decide) rfl rfl (zc_X10_joins_at0 l E (xs (i + 1).toNatClampNeg) σ1 h1.2) zk_X10_joins zm_1463 rfl ⟨(Nat.le_of_ble_eq_true rfl), (Nat.le_of_ble_eq_true rfl)⟩ ⟨hc1, hc2⟩ (Nat.le_of_ble_eq_true rfl) dL_law_749 (fun r2 σ2 h2 => ?_)
  refine zv_icmp_eq (tgt := 1827) G dL_law_752 (by decide) (fun _ => ?_) (fun c9 => absurd (wzAn_u h1.1 h2) c9)
  refine zv_wid (Nat.le_succ cells) (Nat.le_add_right slots 6) ?_
  exact kk σ2
set_option maxHeartbeats 4000000 in
set_option maxRecDepth 100000 in
theorem zl_10 (hl : l.stackTraces = false) (G : zC p s m args meth c cL_law RL 8 E A) (hX : zX E s s.heap) (hX9 : va_X b L xs s s.heap) (hbl : b < s.heap.size) (hbA : ¬ A b) (hin : ∀ x : Int32, 0 ≤ x.toInt → x.toInt ≤ 5 → vp_in (i + x) L) (hc : cells + 1 ≤ room_1.cells ∧ slots + 6 ≤ room_1.slots) (kk : ∀ σ' : za_S, zV p l e room_1 s m args below meth c E A 8 (cells + 1) (slots + 6) Q 1827 [(4, za_I i), (3, za_O 29 193), (2, za_O 19 93), (1, za_O 0 0), (0, za_O 52 (b + 1))] [] σ') : zV p l e room_1 s m args below meth c E A 8 cells slots Q 757 [(4, za_I i), (3, za_O 29 193), (2, za_O 19 93), (1, za_O 0 0), (0, za_O 52 (b + 1))] [] z0 := by
  have hc1 : cells ≤ room_1.cells := by omega
  have hc2 : slots ≤ room_1.slots := by omega
  have hz := zI_0
  refine zv_aload_n (j := 3) G dL_law_757 rfl rfl ?_
  refine zv_aldR (j := 4) G dL_law_758 rfl rfl ?_
  refine zv_iload (j := 0) G dL_law_759 rfl ?_
  refine zv_iconst (v := 1) G dL_law_761 (by decide) ?_
  refine zv_iadd G dL_law_762 ?_
  refine zv_scr G hX9 hbl hbA (hin 1 (by decide) (by decide)) dL_law_763 ?_
  refine zv_callVi (as := [za_I (xs (i + 1).toNatClampNeg)]) G (by decide) rfl rfl (zc_X9_way_at0 l E (xs (i + 1).toNatClampNeg) z0 zE_0) zk_X9_way zm_650 rfl ⟨(Nat.le_of_ble_eq_true rfl), (Nat.le_of_ble_eq_true rfl)⟩ ⟨hc1, hc2⟩ (Nat.le_of_ble_eq_true rfl) dL_law_764 (fun r1 σ1 h1 => ?_)
  refine zv_aload_n (j := 2) G dL_law_767 rfl rfl ?_
  refine zv_aldR (j := 4) G dL_law_768 rfl rfl ?_
  refine zv_iload (j := 0) G dL_law_769 rfl ?_
  refine zv_iconst (v := 1) G dL_law_771 (by decide) ?_
  refine zv_iadd G dL_law_772 ?_
  refine zv_scr G hX9 hbl hbA (hin 1 (by decide) (by decide)) dL_law_773 ?_
  refine zv_callVi (as := [za_I (xs (i + 1).toNatClampNeg)]) G (by decide) rfl rfl (zc_X10_way_at0 l E (xs (i + 1).toNatClampNeg) σ1 h1.2) zk_X10_way zm_1470 rfl ⟨(Nat.le_of_ble_eq_true rfl), (Nat.le_of_ble_eq_true rfl)⟩ ⟨hc1, hc2⟩ (Nat.le_of_ble_eq_true rfl) dL_law_774 (fun r2 σ2 h2 => ?_)
  refine zv_icmp_eq (tgt := 1827) G dL_law_777 (by decide) (fun _ => ?_) (fun c9 => absurd (wzWy_u h1.1 h2) c9)
  refine zv_wid (Nat.le_succ cells) (Nat.le_add_right slots 6) ?_
  exact kk σ2
set_option maxHeartbeats 4000000 in
set_option maxRecDepth 100000 in
theorem zl_11 (hl : l.stackTraces = false) (G : zC p s m args meth c cL_law RL 8 E A) (hX : zX E s s.heap) (hX9 : va_X b L xs s s.heap) (hbl : b < s.heap.size) (hbA : ¬ A b) (hin : ∀ x : Int32, 0 ≤ x.toInt → x.toInt ≤ 5 → vp_in (i + x) L) (hc : cells + 1 ≤ room_1.cells ∧ slots + 6 ≤ room_1.slots) (kk : ∀ σ' : za_S, zV p l e room_1 s m args below meth c E A 8 (cells + 1) (slots + 6) Q 1827 [(4, za_I i), (3, za_O 29 193), (2, za_O 19 93), (1, za_O 0 0), (0, za_O 52 (b + 1))] [] σ') : zV p l e room_1 s m args below meth c E A 8 cells slots Q 782 [(4, za_I i), (3, za_O 29 193), (2, za_O 19 93), (1, za_O 0 0), (0, za_O 52 (b + 1))] [] z0 := by
  have hc1 : cells ≤ room_1.cells := by omega
  have hc2 : slots ≤ room_1.slots := by omega
  have hz := zI_0
  refine zv_aload_n (j := 3) G dL_law_782 rfl rfl ?_
  refine zv_callVi (as := []) G (by decide) rfl rfl (zc_X9_work_at0 l E  z0 zE_0) zk_X9_work zm_658 rfl ⟨(Nat.le_of_ble_eq_true rfl), (Nat.le_of_ble_eq_true rfl)⟩ ⟨hc1, hc2⟩ (Nat.le_of_ble_eq_true rfl) dL_law_783 (fun r1 σ1 h1 => ?_)
  refine zv_aload_n (j := 2) G dL_law_786 rfl rfl ?_
  refine zv_callVi (as := []) G (by decide) rfl rfl (zc_X10_work_at0 l E  σ1 h1.2) zk_X10_work zm_1478 rfl ⟨(Nat.le_of_ble_eq_true rfl), (Nat.le_of_ble_eq_true rfl)⟩ ⟨hc1, hc2⟩ (Nat.le_of_ble_eq_true rfl) dL_law_787 (fun r2 σ2 h2 => ?_)
  refine zv_icmp_eq (tgt := 1827) G dL_law_790 (by decide) (fun _ => ?_) (fun c9 => absurd (h1.1.trans h2.symm) c9)
  refine zv_wid (Nat.le_succ cells) (Nat.le_add_right slots 6) ?_
  exact kk σ2
set_option maxHeartbeats 4000000 in
set_option maxRecDepth 100000 in
theorem zl_12 (hl : l.stackTraces = false) (G : zC p s m args meth c cL_law RL 8 E A) (hX : zX E s s.heap) (hX9 : va_X b L xs s s.heap) (hbl : b < s.heap.size) (hbA : ¬ A b) (hin : ∀ x : Int32, 0 ≤ x.toInt → x.toInt ≤ 5 → vp_in (i + x) L) (hc : cells + 1 ≤ room_1.cells ∧ slots + 6 ≤ room_1.slots) (kk : ∀ σ' : za_S, zV p l e room_1 s m args below meth c E A 8 (cells + 1) (slots + 6) Q 1827 [(4, za_I i), (3, za_O 29 193), (2, za_O 19 93), (1, za_O 0 0), (0, za_O 52 (b + 1))] [] σ') : zV p l e room_1 s m args below meth c E A 8 cells slots Q 795 [(4, za_I i), (3, za_O 29 193), (2, za_O 19 93), (1, za_O 0 0), (0, za_O 52 (b + 1))] [] z0 := by
  have hc1 : cells ≤ room_1.cells := by omega
  have hc2 : slots ≤ room_1.slots := by omega
  have hz := zI_0
  refine zv_aload_n (j := 3) G dL_law_795 rfl rfl ?_
  refine zv_callVi (as := []) G (by decide) rfl rfl (zc_X9_undo_at0 l E  z0 zE_0) zk_X9_undo zm_757 rfl ⟨(Nat.le_of_ble_eq_true rfl), (Nat.le_of_ble_eq_true rfl)⟩ ⟨hc1, hc2⟩ (Nat.le_of_ble_eq_true rfl) dL_law_796 (fun r1 σ1 h1 => ?_)
  refine zv_aload_n (j := 2) G dL_law_799 rfl rfl ?_
  refine zv_callVi (as := []) G (by decide) rfl rfl (zc_X10_undo_at0 l E  σ1 h1.2) zk_X10_undo zm_1305 rfl ⟨(Nat.le_of_ble_eq_true rfl), (Nat.le_of_ble_eq_true rfl)⟩ ⟨hc1, hc2⟩ (Nat.le_of_ble_eq_true rfl) dL_law_800 (fun r2 σ2 h2 => ?_)
  refine zv_icmp_eq (tgt := 1827) G dL_law_803 (by decide) (fun _ => ?_) (fun c9 => absurd (h1.1.trans h2.symm) c9)
  refine zv_wid (Nat.le_succ cells) (Nat.le_add_right slots 6) ?_
  exact kk σ2
set_option maxHeartbeats 4000000 in
set_option maxRecDepth 100000 in
theorem zl_13 (hl : l.stackTraces = false) (G : zC p s m args meth c cL_law RL 8 E A) (hX : zX E s s.heap) (hX9 : va_X b L xs s s.heap) (hbl : b < s.heap.size) (hbA : ¬ A b) (hin : ∀ x : Int32, 0 ≤ x.toInt → x.toInt ≤ 5 → vp_in (i + x) L) (hc : cells + 1 ≤ room_1.cells ∧ slots + 6 ≤ room_1.slots) (kk : ∀ σ' : za_S, zV p l e room_1 s m args below meth c E A 8 (cells + 1) (slots + 6) Q 1827 [(4, za_I i), (3, za_O 29 193), (2, za_O 19 93), (1, za_O 0 0), (0, za_O 52 (b + 1))] [] σ') : zV p l e room_1 s m args below meth c E A 8 cells slots Q 808 [(4, za_I i), (3, za_O 29 193), (2, za_O 19 93), (1, za_O 0 0), (0, za_O 52 (b + 1))] [] z0 := by
  have hc1 : cells ≤ room_1.cells := by omega
  have hc2 : slots ≤ room_1.slots := by omega
  have hz := zI_0
  refine zv_aload_n (j := 3) G dL_law_808 rfl rfl ?_
  refine zv_aldR (j := 4) G dL_law_809 rfl rfl ?_
  refine zv_iload (j := 0) G dL_law_810 rfl ?_
  refine zv_iconst (v := 1) G dL_law_812 (by decide) ?_
  refine zv_iadd G dL_law_813 ?_
  refine zv_scr G hX9 hbl hbA (hin 1 (by decide) (by decide)) dL_law_814 ?_
  refine zv_aldR (j := 4) G dL_law_815 rfl rfl ?_
  refine zv_iload (j := 0) G dL_law_816 rfl ?_
  refine zv_iconst (v := 2) G dL_law_818 (by decide) ?_
  refine zv_iadd G dL_law_819 ?_
  refine zv_scr G hX9 hbl hbA (hin 2 (by decide) (by decide)) dL_law_820 ?_
  refine zv_aldR (j := 4) G dL_law_821 rfl rfl ?_
  refine zv_iload (j := 0) G dL_law_822 rfl ?_
  refine zv_iconst (v := 3) G dL_law_824 (by decide) ?_
  refine zv_iadd G dL_law_825 ?_
  refine zv_scr G hX9 hbl hbA (hin 3 (by decide) (by decide)) dL_law_826 ?_
  refine zv_callVi (as := [za_I (xs (i + 1).toNatClampNeg), za_I (xs (i + 2).toNatClampNeg), za_I (xs (i + 3).toNatClampNeg)]) G (by decide) rfl rfl (zc_X9_at_at0 l E (xs (i + 1).toNatClampNeg) (xs (i + 2).toNatClampNeg) (xs (i + 3).toNatClampNeg) z0 zE_0) zk_X9_at zm_762 rfl ⟨(Nat.le_of_ble_eq_true rfl), (Nat.le_of_ble_eq_true rfl)⟩ ⟨hc1, hc2⟩ (Nat.le_of_ble_eq_true rfl) dL_law_827 (fun r1 σ1 h1 => ?_)
  refine zv_aload_n (j := 2) G dL_law_830 rfl rfl ?_
  refine zv_aldR (j := 4) G dL_law_831 rfl rfl ?_
  refine zv_iload (j := 0) G dL_law_832 rfl ?_
  refine zv_iconst (v := 1) G dL_law_834 (by decide) ?_
  refine zv_iadd G dL_law_835 ?_
  refine zv_scr G hX9 hbl hbA (hin 1 (by decide) (by decide)) dL_law_836 ?_
  refine zv_aldR (j := 4) G dL_law_837 rfl rfl ?_
  refine zv_iload (j := 0) G dL_law_838 rfl ?_
  refine zv_iconst (v := 2) G dL_law_840 (by decide) ?_
  refine zv_iadd G dL_law_841 ?_
  refine zv_scr G hX9 hbl hbA (hin 2 (by decide) (by decide)) dL_law_842 ?_
  refine zv_aldR (j := 4) G dL_law_843 rfl rfl ?_
  refine zv_iload (j := 0) G dL_law_844 rfl ?_
  refine zv_iconst (v := 3) G dL_law_846 (by decide) ?_
  refine zv_iadd G dL_law_847 ?_
  refine zv_scr G hX9 hbl hbA (hin 3 (by decide) (by decide)) dL_law_848 ?_
  refine zv_callVi (as := [za_I (xs (i + 1).toNatClampNeg), za_I (xs (i + 2).toNatClampNeg), za_I (xs (i + 3).toNatClampNeg)]) G (by decide) rfl rfl (zc_X10_at_at0 l E (xs (i + 1).toNatClampNeg) (xs (i + 2).toNatClampNeg) (xs (i + 3).toNatClampNeg) σ1 h1.2) zk_X10_at zm_1529 rfl ⟨(Nat.le_of_ble_eq_true rfl), (Nat.le_of_ble_eq_true rfl)⟩ ⟨hc1, hc2⟩ (Nat.le_of_ble_eq_true rfl) dL_law_849 (fun r2 σ2 h2 => ?_)
  refine zv_icmp_eq (tgt := 1827) G dL_law_852 (by decide) (fun _ => ?_) (fun c9 => absurd (wzAn_u h1.1 h2) c9)
  refine zv_wid (Nat.le_succ cells) (Nat.le_add_right slots 6) ?_
  exact kk σ2
set_option maxHeartbeats 4000000 in
set_option maxRecDepth 100000 in
theorem zl_14 (hl : l.stackTraces = false) (G : zC p s m args meth c cL_law RL 8 E A) (hX : zX E s s.heap) (hX9 : va_X b L xs s s.heap) (hbl : b < s.heap.size) (hbA : ¬ A b) (hin : ∀ x : Int32, 0 ≤ x.toInt → x.toInt ≤ 5 → vp_in (i + x) L) (hc : cells + 1 ≤ room_1.cells ∧ slots + 6 ≤ room_1.slots) (kk : ∀ σ' : za_S, zV p l e room_1 s m args below meth c E A 8 (cells + 1) (slots + 6) Q 1827 [(4, za_I i), (3, za_O 29 193), (2, za_O 19 93), (1, za_O 0 0), (0, za_O 52 (b + 1))] [] σ') : zV p l e room_1 s m args below meth c E A 8 cells slots Q 857 [(4, za_I i), (3, za_O 29 193), (2, za_O 19 93), (1, za_O 0 0), (0, za_O 52 (b + 1))] [] z0 := by
  have hc1 : cells ≤ room_1.cells := by omega
  have hc2 : slots ≤ room_1.slots := by omega
  have hz := zI_0
  refine zv_aload_n (j := 3) G dL_law_857 rfl rfl ?_
  refine zv_aldR (j := 4) G dL_law_858 rfl rfl ?_
  refine zv_iload (j := 0) G dL_law_859 rfl ?_
  refine zv_iconst (v := 1) G dL_law_861 (by decide) ?_
  refine zv_iadd G dL_law_862 ?_
  refine zv_scr G hX9 hbl hbA (hin 1 (by decide) (by decide)) dL_law_863 ?_
  refine zv_aldR (j := 4) G dL_law_864 rfl rfl ?_
  refine zv_iload (j := 0) G dL_law_865 rfl ?_
  refine zv_iconst (v := 2) G dL_law_867 (by decide) ?_
  refine zv_iadd G dL_law_868 ?_
  refine zv_scr G hX9 hbl hbA (hin 2 (by decide) (by decide)) dL_law_869 ?_
  refine zv_callVi (as := [za_I (xs (i + 1).toNatClampNeg), za_I (xs (i + 2).toNatClampNeg)]) G (by decide) rfl rfl (zc_X9_slice_at0 l E (xs (i + 1).toNatClampNeg) (xs (i + 2).toNatClampNeg) z0 zE_0) zk_X9_slice zm_772 rfl ⟨(Nat.le_of_ble_eq_true rfl), (Nat.le_of_ble_eq_true rfl)⟩ ⟨hc1, hc2⟩ (Nat.le_of_ble_eq_true rfl) dL_law_870 (fun r1 σ1 h1 => ?_)
  refine zv_aload_n (j := 2) G dL_law_873 rfl rfl ?_
  refine zv_aldR (j := 4) G dL_law_874 rfl rfl ?_
  refine zv_iload (j := 0) G dL_law_875 rfl ?_
  refine zv_iconst (v := 1) G dL_law_877 (by decide) ?_
  refine zv_iadd G dL_law_878 ?_
  refine zv_scr G hX9 hbl hbA (hin 1 (by decide) (by decide)) dL_law_879 ?_
  refine zv_aldR (j := 4) G dL_law_880 rfl rfl ?_
  refine zv_iload (j := 0) G dL_law_881 rfl ?_
  refine zv_iconst (v := 2) G dL_law_883 (by decide) ?_
  refine zv_iadd G dL_law_884 ?_
  refine zv_scr G hX9 hbl hbA (hin 2 (by decide) (by decide)) dL_law_885 ?_
  refine zv_callVi (as := [za_I (xs (i + 1).toNatClampNeg), za_I (xs (i + 2).toNatClampNeg)]) G (by decide) rfl rfl (zc_X10_slice_at0 l E (xs (i + 1).toNatClampNeg) (xs (i + 2).toNatClampNeg) σ1 h1.2) zk_X10_slice zm_1536 rfl ⟨(Nat.le_of_ble_eq_true rfl), (Nat.le_of_ble_eq_true rfl)⟩ ⟨hc1, hc2⟩ (Nat.le_of_ble_eq_true rfl) dL_law_886 (fun r2 σ2 h2 => ?_)
  refine zv_icmp_eq (tgt := 1827) G dL_law_889 (by decide) (fun _ => ?_) (fun c9 => absurd (wzAn_u h1.1 h2) c9)
  refine zv_wid (Nat.le_succ cells) (Nat.le_add_right slots 6) ?_
  exact kk σ2
set_option maxHeartbeats 4000000 in
set_option maxRecDepth 100000 in
theorem zl_15 (hl : l.stackTraces = false) (G : zC p s m args meth c cL_law RL 8 E A) (hX : zX E s s.heap) (hX9 : va_X b L xs s s.heap) (hbl : b < s.heap.size) (hbA : ¬ A b) (hin : ∀ x : Int32, 0 ≤ x.toInt → x.toInt ≤ 5 → vp_in (i + x) L) (hc : cells + 1 ≤ room_1.cells ∧ slots + 6 ≤ room_1.slots) (kk : ∀ σ' : za_S, zV p l e room_1 s m args below meth c E A 8 (cells + 1) (slots + 6) Q 1827 [(4, za_I i), (3, za_O 29 193), (2, za_O 19 93), (1, za_O 0 0), (0, za_O 52 (b + 1))] [] σ') : zV p l e room_1 s m args below meth c E A 8 cells slots Q 894 [(4, za_I i), (3, za_O 29 193), (2, za_O 19 93), (1, za_O 0 0), (0, za_O 52 (b + 1))] [] z0 := by
  have hc1 : cells ≤ room_1.cells := by omega
  have hc2 : slots ≤ room_1.slots := by omega
  have hz := zI_0
  refine zv_aload_n (j := 3) G dL_law_894 rfl rfl ?_
  refine zv_aldR (j := 4) G dL_law_895 rfl rfl ?_
  refine zv_iload (j := 0) G dL_law_896 rfl ?_
  refine zv_iconst (v := 1) G dL_law_898 (by decide) ?_
  refine zv_iadd G dL_law_899 ?_
  refine zv_scr G hX9 hbl hbA (hin 1 (by decide) (by decide)) dL_law_900 ?_
  refine zv_aldR (j := 4) G dL_law_901 rfl rfl ?_
  refine zv_iload (j := 0) G dL_law_902 rfl ?_
  refine zv_iconst (v := 2) G dL_law_904 (by decide) ?_
  refine zv_iadd G dL_law_905 ?_
  refine zv_scr G hX9 hbl hbA (hin 2 (by decide) (by decide)) dL_law_906 ?_
  refine zv_aldR (j := 4) G dL_law_907 rfl rfl ?_
  refine zv_iload (j := 0) G dL_law_908 rfl ?_
  refine zv_iconst (v := 3) G dL_law_910 (by decide) ?_
  refine zv_iadd G dL_law_911 ?_
  refine zv_scr G hX9 hbl hbA (hin 3 (by decide) (by decide)) dL_law_912 ?_
  refine zv_aldR (j := 4) G dL_law_913 rfl rfl ?_
  refine zv_iload (j := 0) G dL_law_914 rfl ?_
  refine zv_iconst (v := 4) G dL_law_916 (by decide) ?_
  refine zv_iadd G dL_law_917 ?_
  refine zv_scr G hX9 hbl hbA (hin 4 (by decide) (by decide)) dL_law_918 ?_
  refine zv_callVi (as := [za_I (xs (i + 1).toNatClampNeg), za_I (xs (i + 2).toNatClampNeg), za_I (xs (i + 3).toNatClampNeg), za_I (xs (i + 4).toNatClampNeg)]) G (by decide) rfl rfl (zc_X9_gaps_at0 l E (xs (i + 1).toNatClampNeg) (xs (i + 2).toNatClampNeg) (xs (i + 3).toNatClampNeg) (xs (i + 4).toNatClampNeg) z0 zE_0) zk_X9_gaps zm_779 rfl ⟨(Nat.le_of_ble_eq_true rfl), (Nat.le_of_ble_eq_true rfl)⟩ ⟨hc1, hc2⟩ (Nat.le_of_ble_eq_true rfl) dL_law_919 (fun r1 σ1 h1 => ?_)
  refine zv_aload_n (j := 2) G dL_law_922 rfl rfl ?_
  refine zv_aldR (j := 4) G dL_law_923 rfl rfl ?_
  refine zv_iload (j := 0) G dL_law_924 rfl ?_
  refine zv_iconst (v := 1) G dL_law_926 (by decide) ?_
  refine zv_iadd G dL_law_927 ?_
  refine zv_scr G hX9 hbl hbA (hin 1 (by decide) (by decide)) dL_law_928 ?_
  refine zv_aldR (j := 4) G dL_law_929 rfl rfl ?_
  refine zv_iload (j := 0) G dL_law_930 rfl ?_
  refine zv_iconst (v := 2) G dL_law_932 (by decide) ?_
  refine zv_iadd G dL_law_933 ?_
  refine zv_scr G hX9 hbl hbA (hin 2 (by decide) (by decide)) dL_law_934 ?_
  refine zv_aldR (j := 4) G dL_law_935 rfl rfl ?_
  refine zv_iload (j := 0) G dL_law_936 rfl ?_
  refine zv_iconst (v := 3) G dL_law_938 (by decide) ?_
  refine zv_iadd G dL_law_939 ?_
  refine zv_scr G hX9 hbl hbA (hin 3 (by decide) (by decide)) dL_law_940 ?_
  refine zv_aldR (j := 4) G dL_law_941 rfl rfl ?_
  refine zv_iload (j := 0) G dL_law_942 rfl ?_
  refine zv_iconst (v := 4) G dL_law_944 (by decide) ?_
  refine zv_iadd G dL_law_945 ?_
  refine zv_scr G hX9 hbl hbA (hin 4 (by decide) (by decide)) dL_law_946 ?_
  refine zv_callVi (as := [za_I (xs (i + 1).toNatClampNeg), za_I (xs (i + 2).toNatClampNeg), za_I (xs (i + 3).toNatClampNeg), za_I (xs (i + 4).toNatClampNeg)]) G (by decide) rfl rfl (zc_X10_gaps_at0 l E (xs (i + 1).toNatClampNeg) (xs (i + 2).toNatClampNeg) (xs (i + 3).toNatClampNeg) (xs (i + 4).toNatClampNeg) σ1 h1.2) zk_X10_gaps zm_1540 rfl ⟨(Nat.le_of_ble_eq_true rfl), (Nat.le_of_ble_eq_true rfl)⟩ ⟨hc1, hc2⟩ (Nat.le_of_ble_eq_true rfl) dL_law_947 (fun r2 σ2 h2 => ?_)
  refine zv_icmp_eq (tgt := 1827) G dL_law_950 (by decide) (fun _ => ?_) (fun c9 => absurd (wzAn_u h1.1 h2) c9)
  refine zv_wid (Nat.le_succ cells) (Nat.le_add_right slots 6) ?_
  exact kk σ2
set_option maxHeartbeats 4000000 in
set_option maxRecDepth 100000 in
theorem zl_16 (hl : l.stackTraces = false) (G : zC p s m args meth c cL_law RL 8 E A) (hX : zX E s s.heap) (hX9 : va_X b L xs s s.heap) (hbl : b < s.heap.size) (hbA : ¬ A b) (hin : ∀ x : Int32, 0 ≤ x.toInt → x.toInt ≤ 5 → vp_in (i + x) L) (hc : cells + 1 ≤ room_1.cells ∧ slots + 6 ≤ room_1.slots) (kk : ∀ σ' : za_S, zV p l e room_1 s m args below meth c E A 8 (cells + 1) (slots + 6) Q 1827 [(4, za_I i), (3, za_O 29 193), (2, za_O 19 93), (1, za_O 0 0), (0, za_O 52 (b + 1))] [] σ') : zV p l e room_1 s m args below meth c E A 8 cells slots Q 955 [(4, za_I i), (3, za_O 29 193), (2, za_O 19 93), (1, za_O 0 0), (0, za_O 52 (b + 1))] [] z0 := by
  have hc1 : cells ≤ room_1.cells := by omega
  have hc2 : slots ≤ room_1.slots := by omega
  have hz := zI_0
  refine zv_aload_n (j := 3) G dL_law_955 rfl rfl ?_
  refine zv_aldR (j := 4) G dL_law_956 rfl rfl ?_
  refine zv_iload (j := 0) G dL_law_957 rfl ?_
  refine zv_iconst (v := 1) G dL_law_959 (by decide) ?_
  refine zv_iadd G dL_law_960 ?_
  refine zv_scr G hX9 hbl hbA (hin 1 (by decide) (by decide)) dL_law_961 ?_
  refine zv_aldR (j := 4) G dL_law_962 rfl rfl ?_
  refine zv_iload (j := 0) G dL_law_963 rfl ?_
  refine zv_iconst (v := 2) G dL_law_965 (by decide) ?_
  refine zv_iadd G dL_law_966 ?_
  refine zv_scr G hX9 hbl hbA (hin 2 (by decide) (by decide)) dL_law_967 ?_
  refine zv_aldR (j := 4) G dL_law_968 rfl rfl ?_
  refine zv_iload (j := 0) G dL_law_969 rfl ?_
  refine zv_iconst (v := 3) G dL_law_971 (by decide) ?_
  refine zv_iadd G dL_law_972 ?_
  refine zv_scr G hX9 hbl hbA (hin 3 (by decide) (by decide)) dL_law_973 ?_
  refine zv_callVi (as := [za_I (xs (i + 1).toNatClampNeg), za_I (xs (i + 2).toNatClampNeg), za_I (xs (i + 3).toNatClampNeg)]) G (by decide) rfl rfl (zc_X9_covers_at0 l E (xs (i + 1).toNatClampNeg) (xs (i + 2).toNatClampNeg) (xs (i + 3).toNatClampNeg) z0 zE_0) zk_X9_covers zm_791 rfl ⟨(Nat.le_of_ble_eq_true rfl), (Nat.le_of_ble_eq_true rfl)⟩ ⟨hc1, hc2⟩ (Nat.le_of_ble_eq_true rfl) dL_law_974 (fun r1 σ1 h1 => ?_)
  refine zv_aload_n (j := 2) G dL_law_977 rfl rfl ?_
  refine zv_aldR (j := 4) G dL_law_978 rfl rfl ?_
  refine zv_iload (j := 0) G dL_law_979 rfl ?_
  refine zv_iconst (v := 1) G dL_law_981 (by decide) ?_
  refine zv_iadd G dL_law_982 ?_
  refine zv_scr G hX9 hbl hbA (hin 1 (by decide) (by decide)) dL_law_983 ?_
  refine zv_aldR (j := 4) G dL_law_984 rfl rfl ?_
  refine zv_iload (j := 0) G dL_law_985 rfl ?_
  refine zv_iconst (v := 2) G dL_law_987 (by decide) ?_
  refine zv_iadd G dL_law_988 ?_
  refine zv_scr G hX9 hbl hbA (hin 2 (by decide) (by decide)) dL_law_989 ?_
  refine zv_aldR (j := 4) G dL_law_990 rfl rfl ?_
  refine zv_iload (j := 0) G dL_law_991 rfl ?_
  refine zv_iconst (v := 3) G dL_law_993 (by decide) ?_
  refine zv_iadd G dL_law_994 ?_
  refine zv_scr G hX9 hbl hbA (hin 3 (by decide) (by decide)) dL_law_995 ?_
  refine zv_callVi (as := [za_I (xs (i + 1).toNatClampNeg), za_I (xs (i + 2).toNatClampNeg), za_I (xs (i + 3).toNatClampNeg)]) G (by decide) rfl rfl (zc_X10_covers_at0 l E (xs (i + 1).toNatClampNeg) (xs (i + 2).toNatClampNeg) (xs (i + 3).toNatClampNeg) σ1 h1.2) zk_X10_covers zm_1544 rfl ⟨(Nat.le_of_ble_eq_true rfl), (Nat.le_of_ble_eq_true rfl)⟩ ⟨hc1, hc2⟩ (Nat.le_of_ble_eq_true rfl) dL_law_996 (fun r2 σ2 h2 => ?_)
  refine zv_icmp_eq (tgt := 1827) G dL_law_999 (by decide) (fun _ => ?_) (fun c9 => absurd (wzAn_u h1.1 h2) c9)
  refine zv_wid (Nat.le_succ cells) (Nat.le_add_right slots 6) ?_
  exact kk σ2
set_option maxHeartbeats 4000000 in
set_option maxRecDepth 100000 in
theorem zl_17 (hl : l.stackTraces = false) (G : zC p s m args meth c cL_law RL 8 E A) (hX : zX E s s.heap) (hX9 : va_X b L xs s s.heap) (hbl : b < s.heap.size) (hbA : ¬ A b) (hin : ∀ x : Int32, 0 ≤ x.toInt → x.toInt ≤ 5 → vp_in (i + x) L) (hc : cells + 1 ≤ room_1.cells ∧ slots + 6 ≤ room_1.slots) (kk : ∀ σ' : za_S, zV p l e room_1 s m args below meth c E A 8 (cells + 1) (slots + 6) Q 1827 [(4, za_I i), (3, za_O 29 193), (2, za_O 19 93), (1, za_O 0 0), (0, za_O 52 (b + 1))] [] σ') : zV p l e room_1 s m args below meth c E A 8 cells slots Q 1004 [(4, za_I i), (3, za_O 29 193), (2, za_O 19 93), (1, za_O 0 0), (0, za_O 52 (b + 1))] [] z0 := by
  have hc1 : cells ≤ room_1.cells := by omega
  have hc2 : slots ≤ room_1.slots := by omega
  have hz := zI_0
  refine zv_aload_n (j := 3) G dL_law_1004 rfl rfl ?_
  refine zv_aldR (j := 4) G dL_law_1005 rfl rfl ?_
  refine zv_iload (j := 0) G dL_law_1006 rfl ?_
  refine zv_iconst (v := 1) G dL_law_1008 (by decide) ?_
  refine zv_iadd G dL_law_1009 ?_
  refine zv_scr G hX9 hbl hbA (hin 1 (by decide) (by decide)) dL_law_1010 ?_
  refine zv_aldR (j := 4) G dL_law_1011 rfl rfl ?_
  refine zv_iload (j := 0) G dL_law_1012 rfl ?_
  refine zv_iconst (v := 2) G dL_law_1014 (by decide) ?_
  refine zv_iadd G dL_law_1015 ?_
  refine zv_scr G hX9 hbl hbA (hin 2 (by decide) (by decide)) dL_law_1016 ?_
  refine zv_aldR (j := 4) G dL_law_1017 rfl rfl ?_
  refine zv_iload (j := 0) G dL_law_1018 rfl ?_
  refine zv_iconst (v := 3) G dL_law_1020 (by decide) ?_
  refine zv_iadd G dL_law_1021 ?_
  refine zv_scr G hX9 hbl hbA (hin 3 (by decide) (by decide)) dL_law_1022 ?_
  refine zv_aldR (j := 4) G dL_law_1023 rfl rfl ?_
  refine zv_iload (j := 0) G dL_law_1024 rfl ?_
  refine zv_iconst (v := 4) G dL_law_1026 (by decide) ?_
  refine zv_iadd G dL_law_1027 ?_
  refine zv_scr G hX9 hbl hbA (hin 4 (by decide) (by decide)) dL_law_1028 ?_
  refine zv_callVi (as := [za_I (xs (i + 1).toNatClampNeg), za_I (xs (i + 2).toNatClampNeg), za_I (xs (i + 3).toNatClampNeg), za_I (xs (i + 4).toNatClampNeg)]) G (by decide) rfl rfl (zc_X9_lies_at0 l E (xs (i + 1).toNatClampNeg) (xs (i + 2).toNatClampNeg) (xs (i + 3).toNatClampNeg) (xs (i + 4).toNatClampNeg) z0 zE_0) zk_X9_lies zm_795 rfl ⟨(Nat.le_of_ble_eq_true rfl), (Nat.le_of_ble_eq_true rfl)⟩ ⟨hc1, hc2⟩ (Nat.le_of_ble_eq_true rfl) dL_law_1029 (fun r1 σ1 h1 => ?_)
  refine zv_aload_n (j := 2) G dL_law_1032 rfl rfl ?_
  refine zv_aldR (j := 4) G dL_law_1033 rfl rfl ?_
  refine zv_iload (j := 0) G dL_law_1034 rfl ?_
  refine zv_iconst (v := 1) G dL_law_1036 (by decide) ?_
  refine zv_iadd G dL_law_1037 ?_
  refine zv_scr G hX9 hbl hbA (hin 1 (by decide) (by decide)) dL_law_1038 ?_
  refine zv_aldR (j := 4) G dL_law_1039 rfl rfl ?_
  refine zv_iload (j := 0) G dL_law_1040 rfl ?_
  refine zv_iconst (v := 2) G dL_law_1042 (by decide) ?_
  refine zv_iadd G dL_law_1043 ?_
  refine zv_scr G hX9 hbl hbA (hin 2 (by decide) (by decide)) dL_law_1044 ?_
  refine zv_aldR (j := 4) G dL_law_1045 rfl rfl ?_
  refine zv_iload (j := 0) G dL_law_1046 rfl ?_
  refine zv_iconst (v := 3) G dL_law_1048 (by decide) ?_
  refine zv_iadd G dL_law_1049 ?_
  refine zv_scr G hX9 hbl hbA (hin 3 (by decide) (by decide)) dL_law_1050 ?_
  refine zv_aldR (j := 4) G dL_law_1051 rfl rfl ?_
  refine zv_iload (j := 0) G dL_law_1052 rfl ?_
  refine zv_iconst (v := 4) G dL_law_1054 (by decide) ?_
  refine zv_iadd G dL_law_1055 ?_
  refine zv_scr G hX9 hbl hbA (hin 4 (by decide) (by decide)) dL_law_1056 ?_
  refine zv_callVi (as := [za_I (xs (i + 1).toNatClampNeg), za_I (xs (i + 2).toNatClampNeg), za_I (xs (i + 3).toNatClampNeg), za_I (xs (i + 4).toNatClampNeg)]) G (by decide) rfl rfl (zc_X10_lies_at0 l E (xs (i + 1).toNatClampNeg) (xs (i + 2).toNatClampNeg) (xs (i + 3).toNatClampNeg) (xs (i + 4).toNatClampNeg) σ1 h1.2) zk_X10_lies zm_1548 rfl ⟨(Nat.le_of_ble_eq_true rfl), (Nat.le_of_ble_eq_true rfl)⟩ ⟨hc1, hc2⟩ (Nat.le_of_ble_eq_true rfl) dL_law_1057 (fun r2 σ2 h2 => ?_)
  refine zv_icmp_eq (tgt := 1827) G dL_law_1060 (by decide) (fun _ => ?_) (fun c9 => absurd (h1.1.trans h2.symm) c9)
  refine zv_wid (Nat.le_succ cells) (Nat.le_add_right slots 6) ?_
  exact kk σ2
set_option maxHeartbeats 4000000 in
set_option maxRecDepth 100000 in
theorem zl_18 (hl : l.stackTraces = false) (G : zC p s m args meth c cL_law RL 8 E A) (hX : zX E s s.heap) (hX9 : va_X b L xs s s.heap) (hbl : b < s.heap.size) (hbA : ¬ A b) (hin : ∀ x : Int32, 0 ≤ x.toInt → x.toInt ≤ 5 → vp_in (i + x) L) (hc : cells + 1 ≤ room_1.cells ∧ slots + 6 ≤ room_1.slots) (kk : ∀ σ' : za_S, zV p l e room_1 s m args below meth c E A 8 (cells + 1) (slots + 6) Q 1827 [(4, za_I i), (3, za_O 29 193), (2, za_O 19 93), (1, za_O 0 0), (0, za_O 52 (b + 1))] [] σ') : zV p l e room_1 s m args below meth c E A 8 cells slots Q 1065 [(4, za_I i), (3, za_O 29 193), (2, za_O 19 93), (1, za_O 0 0), (0, za_O 52 (b + 1))] [] z0 := by
  have hc1 : cells ≤ room_1.cells := by omega
  have hc2 : slots ≤ room_1.slots := by omega
  have hz := zI_0
  refine zv_aload_n (j := 3) G dL_law_1065 rfl rfl ?_
  refine zv_aldR (j := 4) G dL_law_1066 rfl rfl ?_
  refine zv_iload (j := 0) G dL_law_1067 rfl ?_
  refine zv_iconst (v := 1) G dL_law_1069 (by decide) ?_
  refine zv_iadd G dL_law_1070 ?_
  refine zv_scr G hX9 hbl hbA (hin 1 (by decide) (by decide)) dL_law_1071 ?_
  refine zv_aldR (j := 4) G dL_law_1072 rfl rfl ?_
  refine zv_iload (j := 0) G dL_law_1073 rfl ?_
  refine zv_iconst (v := 2) G dL_law_1075 (by decide) ?_
  refine zv_iadd G dL_law_1076 ?_
  refine zv_scr G hX9 hbl hbA (hin 2 (by decide) (by decide)) dL_law_1077 ?_
  refine zv_callVi (as := [za_I (xs (i + 1).toNatClampNeg), za_I (xs (i + 2).toNatClampNeg)]) G (by decide) rfl rfl (zc_X9_changes_at0 l E (xs (i + 1).toNatClampNeg) (xs (i + 2).toNatClampNeg) z0 zE_0) zk_X9_changes zm_803 rfl ⟨(Nat.le_of_ble_eq_true rfl), (Nat.le_of_ble_eq_true rfl)⟩ ⟨hc1, hc2⟩ (Nat.le_of_ble_eq_true rfl) dL_law_1078 (fun r1 σ1 h1 => ?_)
  refine zv_aload_n (j := 2) G dL_law_1081 rfl rfl ?_
  refine zv_aldR (j := 4) G dL_law_1082 rfl rfl ?_
  refine zv_iload (j := 0) G dL_law_1083 rfl ?_
  refine zv_iconst (v := 1) G dL_law_1085 (by decide) ?_
  refine zv_iadd G dL_law_1086 ?_
  refine zv_scr G hX9 hbl hbA (hin 1 (by decide) (by decide)) dL_law_1087 ?_
  refine zv_aldR (j := 4) G dL_law_1088 rfl rfl ?_
  refine zv_iload (j := 0) G dL_law_1089 rfl ?_
  refine zv_iconst (v := 2) G dL_law_1091 (by decide) ?_
  refine zv_iadd G dL_law_1092 ?_
  refine zv_scr G hX9 hbl hbA (hin 2 (by decide) (by decide)) dL_law_1093 ?_
  refine zv_callVi (as := [za_I (xs (i + 1).toNatClampNeg), za_I (xs (i + 2).toNatClampNeg)]) G (by decide) rfl rfl (zc_X10_changes_at0 l E (xs (i + 1).toNatClampNeg) (xs (i + 2).toNatClampNeg) σ1 h1.2) zk_X10_changes zm_1552 rfl ⟨(Nat.le_of_ble_eq_true rfl), (Nat.le_of_ble_eq_true rfl)⟩ ⟨hc1, hc2⟩ (Nat.le_of_ble_eq_true rfl) dL_law_1094 (fun r2 σ2 h2 => ?_)
  refine zv_icmp_eq (tgt := 1827) G dL_law_1097 (by decide) (fun _ => ?_) (fun c9 => absurd (wzAn_u h1.1 h2) c9)
  refine zv_wid (Nat.le_succ cells) (Nat.le_add_right slots 6) ?_
  exact kk σ2
set_option maxHeartbeats 4000000 in
set_option maxRecDepth 100000 in
theorem zl_19 (hl : l.stackTraces = false) (G : zC p s m args meth c cL_law RL 8 E A) (hX : zX E s s.heap) (hX9 : va_X b L xs s s.heap) (hbl : b < s.heap.size) (hbA : ¬ A b) (hin : ∀ x : Int32, 0 ≤ x.toInt → x.toInt ≤ 5 → vp_in (i + x) L) (hc : cells + 1 ≤ room_1.cells ∧ slots + 6 ≤ room_1.slots) (kk : ∀ σ' : za_S, zV p l e room_1 s m args below meth c E A 8 (cells + 1) (slots + 6) Q 1827 [(4, za_I i), (3, za_O 29 193), (2, za_O 19 93), (1, za_O 0 0), (0, za_O 52 (b + 1))] [] σ') : zV p l e room_1 s m args below meth c E A 8 cells slots Q 1102 [(4, za_I i), (3, za_O 29 193), (2, za_O 19 93), (1, za_O 0 0), (0, za_O 52 (b + 1))] [] z0 := by
  have hc1 : cells ≤ room_1.cells := by omega
  have hc2 : slots ≤ room_1.slots := by omega
  have hz := zI_0
  refine zv_aload_n (j := 3) G dL_law_1102 rfl rfl ?_
  refine zv_aldR (j := 4) G dL_law_1103 rfl rfl ?_
  refine zv_iload (j := 0) G dL_law_1104 rfl ?_
  refine zv_iconst (v := 1) G dL_law_1106 (by decide) ?_
  refine zv_iadd G dL_law_1107 ?_
  refine zv_scr G hX9 hbl hbA (hin 1 (by decide) (by decide)) dL_law_1108 ?_
  refine zv_callVi (as := [za_I (xs (i + 1).toNatClampNeg)]) G (by decide) rfl rfl (zc_X9_rows_at0 l E (xs (i + 1).toNatClampNeg) z0 zE_0) zk_X9_rows zm_808 rfl ⟨(Nat.le_of_ble_eq_true rfl), (Nat.le_of_ble_eq_true rfl)⟩ ⟨hc1, hc2⟩ (Nat.le_of_ble_eq_true rfl) dL_law_1109 (fun r1 σ1 h1 => ?_)
  refine zv_aload_n (j := 2) G dL_law_1112 rfl rfl ?_
  refine zv_aldR (j := 4) G dL_law_1113 rfl rfl ?_
  refine zv_iload (j := 0) G dL_law_1114 rfl ?_
  refine zv_iconst (v := 1) G dL_law_1116 (by decide) ?_
  refine zv_iadd G dL_law_1117 ?_
  refine zv_scr G hX9 hbl hbA (hin 1 (by decide) (by decide)) dL_law_1118 ?_
  refine zv_callVi (as := [za_I (xs (i + 1).toNatClampNeg)]) G (by decide) rfl rfl (zc_X10_rows_at0 l E (xs (i + 1).toNatClampNeg) σ1 h1.2) zk_X10_rows zm_1556 rfl ⟨(Nat.le_of_ble_eq_true rfl), (Nat.le_of_ble_eq_true rfl)⟩ ⟨hc1, hc2⟩ (Nat.le_of_ble_eq_true rfl) dL_law_1119 (fun r2 σ2 h2 => ?_)
  refine zv_icmp_eq (tgt := 1827) G dL_law_1122 (by decide) (fun _ => ?_) (fun c9 => absurd (wzAn_u h1.1 h2) c9)
  refine zv_wid (Nat.le_succ cells) (Nat.le_add_right slots 6) ?_
  exact kk σ2
set_option maxHeartbeats 4000000 in
set_option maxRecDepth 100000 in
theorem zl_20 (hl : l.stackTraces = false) (G : zC p s m args meth c cL_law RL 8 E A) (hX : zX E s s.heap) (hX9 : va_X b L xs s s.heap) (hbl : b < s.heap.size) (hbA : ¬ A b) (hin : ∀ x : Int32, 0 ≤ x.toInt → x.toInt ≤ 5 → vp_in (i + x) L) (hc : cells + 1 ≤ room_1.cells ∧ slots + 6 ≤ room_1.slots) (kk : ∀ σ' : za_S, zV p l e room_1 s m args below meth c E A 8 (cells + 1) (slots + 6) Q 1827 [(4, za_I i), (3, za_O 29 193), (2, za_O 19 93), (1, za_O 0 0), (0, za_O 52 (b + 1))] [] σ') : zV p l e room_1 s m args below meth c E A 8 cells slots Q 1127 [(4, za_I i), (3, za_O 29 193), (2, za_O 19 93), (1, za_O 0 0), (0, za_O 52 (b + 1))] [] z0 := by
  have hc1 : cells ≤ room_1.cells := by omega
  have hc2 : slots ≤ room_1.slots := by omega
  have hz := zI_0
  refine zv_aload_n (j := 3) G dL_law_1127 rfl rfl ?_
  refine zv_aldR (j := 4) G dL_law_1128 rfl rfl ?_
  refine zv_iload (j := 0) G dL_law_1129 rfl ?_
  refine zv_iconst (v := 1) G dL_law_1131 (by decide) ?_
  refine zv_iadd G dL_law_1132 ?_
  refine zv_scr G hX9 hbl hbA (hin 1 (by decide) (by decide)) dL_law_1133 ?_
  refine zv_callVi (as := [za_I (xs (i + 1).toNatClampNeg)]) G (by decide) rfl rfl (zc_X9_longest_at0 l E (xs (i + 1).toNatClampNeg) z0 zE_0) zk_X9_longest zm_817 rfl ⟨(Nat.le_of_ble_eq_true rfl), (Nat.le_of_ble_eq_true rfl)⟩ ⟨hc1, hc2⟩ (Nat.le_of_ble_eq_true rfl) dL_law_1134 (fun r1 σ1 h1 => ?_)
  refine zv_aload_n (j := 2) G dL_law_1137 rfl rfl ?_
  refine zv_aldR (j := 4) G dL_law_1138 rfl rfl ?_
  refine zv_iload (j := 0) G dL_law_1139 rfl ?_
  refine zv_iconst (v := 1) G dL_law_1141 (by decide) ?_
  refine zv_iadd G dL_law_1142 ?_
  refine zv_scr G hX9 hbl hbA (hin 1 (by decide) (by decide)) dL_law_1143 ?_
  refine zv_callVi (as := [za_I (xs (i + 1).toNatClampNeg)]) G (by decide) rfl rfl (zc_X10_longest_at0 l E (xs (i + 1).toNatClampNeg) σ1 h1.2) zk_X10_longest zm_1567 rfl ⟨(Nat.le_of_ble_eq_true rfl), (Nat.le_of_ble_eq_true rfl)⟩ ⟨hc1, hc2⟩ (Nat.le_of_ble_eq_true rfl) dL_law_1144 (fun r2 σ2 h2 => ?_)
  refine zv_icmp_eq (tgt := 1827) G dL_law_1147 (by decide) (fun _ => ?_) (fun c9 => absurd (wzAn_u h1.1 h2) c9)
  refine zv_wid (Nat.le_succ cells) (Nat.le_add_right slots 6) ?_
  exact kk σ2
set_option maxHeartbeats 4000000 in
set_option maxRecDepth 100000 in
theorem zl_21 (hl : l.stackTraces = false) (G : zC p s m args meth c cL_law RL 8 E A) (hX : zX E s s.heap) (hX9 : va_X b L xs s s.heap) (hbl : b < s.heap.size) (hbA : ¬ A b) (hin : ∀ x : Int32, 0 ≤ x.toInt → x.toInt ≤ 5 → vp_in (i + x) L) (hc : cells + 1 ≤ room_1.cells ∧ slots + 6 ≤ room_1.slots) (kk : ∀ σ' : za_S, zV p l e room_1 s m args below meth c E A 8 (cells + 1) (slots + 6) Q 1827 [(4, za_I i), (3, za_O 29 193), (2, za_O 19 93), (1, za_O 0 0), (0, za_O 52 (b + 1))] [] σ') : zV p l e room_1 s m args below meth c E A 8 cells slots Q 1152 [(4, za_I i), (3, za_O 29 193), (2, za_O 19 93), (1, za_O 0 0), (0, za_O 52 (b + 1))] [] z0 := by
  have hc1 : cells ≤ room_1.cells := by omega
  have hc2 : slots ≤ room_1.slots := by omega
  have hz := zI_0
  refine zv_aload_n (j := 3) G dL_law_1152 rfl rfl ?_
  refine zv_aldR (j := 4) G dL_law_1153 rfl rfl ?_
  refine zv_iload (j := 0) G dL_law_1154 rfl ?_
  refine zv_iconst (v := 1) G dL_law_1156 (by decide) ?_
  refine zv_iadd G dL_law_1157 ?_
  refine zv_scr G hX9 hbl hbA (hin 1 (by decide) (by decide)) dL_law_1158 ?_
  refine zv_aldR (j := 4) G dL_law_1159 rfl rfl ?_
  refine zv_iload (j := 0) G dL_law_1160 rfl ?_
  refine zv_iconst (v := 2) G dL_law_1162 (by decide) ?_
  refine zv_iadd G dL_law_1163 ?_
  refine zv_scr G hX9 hbl hbA (hin 2 (by decide) (by decide)) dL_law_1164 ?_
  refine zv_aldR (j := 4) G dL_law_1165 rfl rfl ?_
  refine zv_iload (j := 0) G dL_law_1166 rfl ?_
  refine zv_iconst (v := 3) G dL_law_1168 (by decide) ?_
  refine zv_iadd G dL_law_1169 ?_
  refine zv_scr G hX9 hbl hbA (hin 3 (by decide) (by decide)) dL_law_1170 ?_
  refine zv_aldR (j := 4) G dL_law_1171 rfl rfl ?_
  refine zv_iload (j := 0) G dL_law_1172 rfl ?_
  refine zv_iconst (v := 4) G dL_law_1174 (by decide) ?_
  refine zv_iadd G dL_law_1175 ?_
  refine zv_scr G hX9 hbl hbA (hin 4 (by decide) (by decide)) dL_law_1176 ?_
  refine zv_callVi (as := [za_I (xs (i + 1).toNatClampNeg), za_I (xs (i + 2).toNatClampNeg), za_I (xs (i + 3).toNatClampNeg), za_I (xs (i + 4).toNatClampNeg)]) G (by decide) rfl rfl (zc_X9_free_at0 l E (xs (i + 1).toNatClampNeg) (xs (i + 2).toNatClampNeg) (xs (i + 3).toNatClampNeg) (xs (i + 4).toNatClampNeg) z0 zE_0) zk_X9_free zm_822 rfl ⟨(Nat.le_of_ble_eq_true rfl), (Nat.le_of_ble_eq_true rfl)⟩ ⟨hc1, hc2⟩ (Nat.le_of_ble_eq_true rfl) dL_law_1177 (fun r1 σ1 h1 => ?_)
  refine zv_aload_n (j := 2) G dL_law_1180 rfl rfl ?_
  refine zv_aldR (j := 4) G dL_law_1181 rfl rfl ?_
  refine zv_iload (j := 0) G dL_law_1182 rfl ?_
  refine zv_iconst (v := 1) G dL_law_1184 (by decide) ?_
  refine zv_iadd G dL_law_1185 ?_
  refine zv_scr G hX9 hbl hbA (hin 1 (by decide) (by decide)) dL_law_1186 ?_
  refine zv_aldR (j := 4) G dL_law_1187 rfl rfl ?_
  refine zv_iload (j := 0) G dL_law_1188 rfl ?_
  refine zv_iconst (v := 2) G dL_law_1190 (by decide) ?_
  refine zv_iadd G dL_law_1191 ?_
  refine zv_scr G hX9 hbl hbA (hin 2 (by decide) (by decide)) dL_law_1192 ?_
  refine zv_aldR (j := 4) G dL_law_1193 rfl rfl ?_
  refine zv_iload (j := 0) G dL_law_1194 rfl ?_
  refine zv_iconst (v := 3) G dL_law_1196 (by decide) ?_
  refine zv_iadd G dL_law_1197 ?_
  refine zv_scr G hX9 hbl hbA (hin 3 (by decide) (by decide)) dL_law_1198 ?_
  refine zv_aldR (j := 4) G dL_law_1199 rfl rfl ?_
  refine zv_iload (j := 0) G dL_law_1200 rfl ?_
  refine zv_iconst (v := 4) G dL_law_1202 (by decide) ?_
  refine zv_iadd G dL_law_1203 ?_
  refine zv_scr G hX9 hbl hbA (hin 4 (by decide) (by decide)) dL_law_1204 ?_
  refine zv_callVi (as := [za_I (xs (i + 1).toNatClampNeg), za_I (xs (i + 2).toNatClampNeg), za_I (xs (i + 3).toNatClampNeg), za_I (xs (i + 4).toNatClampNeg)]) G (by decide) rfl rfl (zc_X10_free_at0 l E (xs (i + 1).toNatClampNeg) (xs (i + 2).toNatClampNeg) (xs (i + 3).toNatClampNeg) (xs (i + 4).toNatClampNeg) σ1 h1.2) zk_X10_free zm_1571 rfl ⟨(Nat.le_of_ble_eq_true rfl), (Nat.le_of_ble_eq_true rfl)⟩ ⟨hc1, hc2⟩ (Nat.le_of_ble_eq_true rfl) dL_law_1205 (fun r2 σ2 h2 => ?_)
  refine zv_icmp_eq (tgt := 1827) G dL_law_1208 (by decide) (fun _ => ?_) (fun c9 => absurd (wzFr_u h1.1 h2) c9)
  refine zv_wid (Nat.le_succ cells) (Nat.le_add_right slots 6) ?_
  exact kk σ2
set_option maxHeartbeats 4000000 in
set_option maxRecDepth 100000 in
theorem zl_22 (hl : l.stackTraces = false) (G : zC p s m args meth c cL_law RL 8 E A) (hX : zX E s s.heap) (hX9 : va_X b L xs s s.heap) (hbl : b < s.heap.size) (hbA : ¬ A b) (hin : ∀ x : Int32, 0 ≤ x.toInt → x.toInt ≤ 5 → vp_in (i + x) L) (hc : cells + 1 ≤ room_1.cells ∧ slots + 6 ≤ room_1.slots) (kk : ∀ σ' : za_S, zV p l e room_1 s m args below meth c E A 8 (cells + 1) (slots + 6) Q 1827 [(4, za_I i), (3, za_O 29 193), (2, za_O 19 93), (1, za_O 0 0), (0, za_O 52 (b + 1))] [] σ') : zV p l e room_1 s m args below meth c E A 8 cells slots Q 1213 [(4, za_I i), (3, za_O 29 193), (2, za_O 19 93), (1, za_O 0 0), (0, za_O 52 (b + 1))] [] z0 := by
  have hc1 : cells ≤ room_1.cells := by omega
  have hc2 : slots ≤ room_1.slots := by omega
  have hz := zI_0
  refine zv_aload_n (j := 3) G dL_law_1213 rfl rfl ?_
  refine zv_aldR (j := 4) G dL_law_1214 rfl rfl ?_
  refine zv_iload (j := 0) G dL_law_1215 rfl ?_
  refine zv_iconst (v := 1) G dL_law_1217 (by decide) ?_
  refine zv_iadd G dL_law_1218 ?_
  refine zv_scr G hX9 hbl hbA (hin 1 (by decide) (by decide)) dL_law_1219 ?_
  refine zv_aldR (j := 4) G dL_law_1220 rfl rfl ?_
  refine zv_iload (j := 0) G dL_law_1221 rfl ?_
  refine zv_iconst (v := 2) G dL_law_1223 (by decide) ?_
  refine zv_iadd G dL_law_1224 ?_
  refine zv_scr G hX9 hbl hbA (hin 2 (by decide) (by decide)) dL_law_1225 ?_
  refine zv_callVi (as := [za_I (xs (i + 1).toNatClampNeg), za_I (xs (i + 2).toNatClampNeg)]) G (by decide) rfl rfl (zc_X9_meets_at0 l E (xs (i + 1).toNatClampNeg) (xs (i + 2).toNatClampNeg) z0 zE_0) zk_X9_meets zm_826 rfl ⟨(Nat.le_of_ble_eq_true rfl), (Nat.le_of_ble_eq_true rfl)⟩ ⟨hc1, hc2⟩ (Nat.le_of_ble_eq_true rfl) dL_law_1226 (fun r1 σ1 h1 => ?_)
  refine zv_aload_n (j := 2) G dL_law_1229 rfl rfl ?_
  refine zv_aldR (j := 4) G dL_law_1230 rfl rfl ?_
  refine zv_iload (j := 0) G dL_law_1231 rfl ?_
  refine zv_iconst (v := 1) G dL_law_1233 (by decide) ?_
  refine zv_iadd G dL_law_1234 ?_
  refine zv_scr G hX9 hbl hbA (hin 1 (by decide) (by decide)) dL_law_1235 ?_
  refine zv_aldR (j := 4) G dL_law_1236 rfl rfl ?_
  refine zv_iload (j := 0) G dL_law_1237 rfl ?_
  refine zv_iconst (v := 2) G dL_law_1239 (by decide) ?_
  refine zv_iadd G dL_law_1240 ?_
  refine zv_scr G hX9 hbl hbA (hin 2 (by decide) (by decide)) dL_law_1241 ?_
  refine zv_callVi (as := [za_I (xs (i + 1).toNatClampNeg), za_I (xs (i + 2).toNatClampNeg)]) G (by decide) rfl rfl (zc_X10_meets_at0 l E (xs (i + 1).toNatClampNeg) (xs (i + 2).toNatClampNeg) σ1 h1.2) zk_X10_meets zm_1576 rfl ⟨(Nat.le_of_ble_eq_true rfl), (Nat.le_of_ble_eq_true rfl)⟩ ⟨hc1, hc2⟩ (Nat.le_of_ble_eq_true rfl) dL_law_1242 (fun r2 σ2 h2 => ?_)
  refine zv_icmp_eq (tgt := 1827) G dL_law_1245 (by decide) (fun _ => ?_) (fun c9 => absurd (wzAn_u h1.1 h2) c9)
  refine zv_wid (Nat.le_succ cells) (Nat.le_add_right slots 6) ?_
  exact kk σ2
set_option maxHeartbeats 4000000 in
set_option maxRecDepth 100000 in
theorem zl_23 (hl : l.stackTraces = false) (G : zC p s m args meth c cL_law RL 8 E A) (hX : zX E s s.heap) (hX9 : va_X b L xs s s.heap) (hbl : b < s.heap.size) (hbA : ¬ A b) (hin : ∀ x : Int32, 0 ≤ x.toInt → x.toInt ≤ 5 → vp_in (i + x) L) (hc : cells + 1 ≤ room_1.cells ∧ slots + 6 ≤ room_1.slots) (kk : ∀ σ' : za_S, zV p l e room_1 s m args below meth c E A 8 (cells + 1) (slots + 6) Q 1827 [(4, za_I i), (3, za_O 29 193), (2, za_O 19 93), (1, za_O 0 0), (0, za_O 52 (b + 1))] [] σ') : zV p l e room_1 s m args below meth c E A 8 cells slots Q 1250 [(4, za_I i), (3, za_O 29 193), (2, za_O 19 93), (1, za_O 0 0), (0, za_O 52 (b + 1))] [] z0 := by
  have hc1 : cells ≤ room_1.cells := by omega
  have hc2 : slots ≤ room_1.slots := by omega
  have hz := zI_0
  refine zv_aload_n (j := 3) G dL_law_1250 rfl rfl ?_
  refine zv_aldR (j := 4) G dL_law_1251 rfl rfl ?_
  refine zv_iload (j := 0) G dL_law_1252 rfl ?_
  refine zv_iconst (v := 1) G dL_law_1254 (by decide) ?_
  refine zv_iadd G dL_law_1255 ?_
  refine zv_scr G hX9 hbl hbA (hin 1 (by decide) (by decide)) dL_law_1256 ?_
  refine zv_callVi (as := [za_I (xs (i + 1).toNatClampNeg)]) G (by decide) rfl rfl (zc_X9_lacks_at0 l E (xs (i + 1).toNatClampNeg) z0 zE_0) zk_X9_lacks zm_846 rfl ⟨(Nat.le_of_ble_eq_true rfl), (Nat.le_of_ble_eq_true rfl)⟩ ⟨hc1, hc2⟩ (Nat.le_of_ble_eq_true rfl) dL_law_1257 (fun r1 σ1 h1 => ?_)
  refine zv_aload_n (j := 2) G dL_law_1260 rfl rfl ?_
  refine zv_aldR (j := 4) G dL_law_1261 rfl rfl ?_
  refine zv_iload (j := 0) G dL_law_1262 rfl ?_
  refine zv_iconst (v := 1) G dL_law_1264 (by decide) ?_
  refine zv_iadd G dL_law_1265 ?_
  refine zv_scr G hX9 hbl hbA (hin 1 (by decide) (by decide)) dL_law_1266 ?_
  refine zv_callVi (as := [za_I (xs (i + 1).toNatClampNeg)]) G (by decide) rfl rfl (zc_X10_lacks_at0 l E (xs (i + 1).toNatClampNeg) σ1 h1.2) zk_X10_lacks zm_1588 rfl ⟨(Nat.le_of_ble_eq_true rfl), (Nat.le_of_ble_eq_true rfl)⟩ ⟨hc1, hc2⟩ (Nat.le_of_ble_eq_true rfl) dL_law_1267 (fun r2 σ2 h2 => ?_)
  refine zv_icmp_eq (tgt := 1827) G dL_law_1270 (by decide) (fun _ => ?_) (fun c9 => absurd (wzAn_u h1.1 h2) c9)
  refine zv_wid (Nat.le_succ cells) (Nat.le_add_right slots 6) ?_
  exact kk σ2
set_option maxHeartbeats 4000000 in
set_option maxRecDepth 100000 in
theorem zl_24 (hl : l.stackTraces = false) (G : zC p s m args meth c cL_law RL 8 E A) (hX : zX E s s.heap) (hX9 : va_X b L xs s s.heap) (hbl : b < s.heap.size) (hbA : ¬ A b) (hin : ∀ x : Int32, 0 ≤ x.toInt → x.toInt ≤ 5 → vp_in (i + x) L) (hc : cells + 1 ≤ room_1.cells ∧ slots + 6 ≤ room_1.slots) (kk : ∀ σ' : za_S, zV p l e room_1 s m args below meth c E A 8 (cells + 1) (slots + 6) Q 1827 [(4, za_I i), (3, za_O 29 193), (2, za_O 19 93), (1, za_O 0 0), (0, za_O 52 (b + 1))] [] σ') : zV p l e room_1 s m args below meth c E A 8 cells slots Q 1275 [(4, za_I i), (3, za_O 29 193), (2, za_O 19 93), (1, za_O 0 0), (0, za_O 52 (b + 1))] [] z0 := by
  have hc1 : cells ≤ room_1.cells := by omega
  have hc2 : slots ≤ room_1.slots := by omega
  have hz := zI_0
  refine zv_aload_n (j := 3) G dL_law_1275 rfl rfl ?_
  refine zv_callVi (as := []) G (by decide) rfl rfl (zc_X9_either_at0 l E  z0 zE_0) zk_X9_either zm_854 rfl ⟨(Nat.le_of_ble_eq_true rfl), (Nat.le_of_ble_eq_true rfl)⟩ ⟨hc1, hc2⟩ (Nat.le_of_ble_eq_true rfl) dL_law_1276 (fun r1 σ1 h1 => ?_)
  refine zv_aload_n (j := 2) G dL_law_1279 rfl rfl ?_
  refine zv_callVi (as := []) G (by decide) rfl rfl (zc_X10_either_at0 l E  σ1 h1.2) zk_X10_either zm_1592 rfl ⟨(Nat.le_of_ble_eq_true rfl), (Nat.le_of_ble_eq_true rfl)⟩ ⟨hc1, hc2⟩ (Nat.le_of_ble_eq_true rfl) dL_law_1280 (fun r2 σ2 h2 => ?_)
  refine zv_icmp_eq (tgt := 1827) G dL_law_1283 (by decide) (fun _ => ?_) (fun c9 => absurd (h1.1.trans h2.symm) c9)
  refine zv_wid (Nat.le_succ cells) (Nat.le_add_right slots 6) ?_
  exact kk σ2
set_option maxHeartbeats 4000000 in
set_option maxRecDepth 100000 in
theorem zl_25 (hl : l.stackTraces = false) (G : zC p s m args meth c cL_law RL 8 E A) (hX : zX E s s.heap) (hX9 : va_X b L xs s s.heap) (hbl : b < s.heap.size) (hbA : ¬ A b) (hin : ∀ x : Int32, 0 ≤ x.toInt → x.toInt ≤ 5 → vp_in (i + x) L) (hc : cells + 1 ≤ room_1.cells ∧ slots + 6 ≤ room_1.slots) (kk : ∀ σ' : za_S, zV p l e room_1 s m args below meth c E A 8 (cells + 1) (slots + 6) Q 1827 [(4, za_I i), (3, za_O 29 193), (2, za_O 19 93), (1, za_O 0 0), (0, za_O 52 (b + 1))] [] σ') : zV p l e room_1 s m args below meth c E A 8 cells slots Q 1288 [(4, za_I i), (3, za_O 29 193), (2, za_O 19 93), (1, za_O 0 0), (0, za_O 52 (b + 1))] [] z0 := by
  have hc1 : cells ≤ room_1.cells := by omega
  have hc2 : slots ≤ room_1.slots := by omega
  have hz := zI_0
  refine zv_aload_n (j := 3) G dL_law_1288 rfl rfl ?_
  refine zv_aldR (j := 4) G dL_law_1289 rfl rfl ?_
  refine zv_iload (j := 0) G dL_law_1290 rfl ?_
  refine zv_iconst (v := 1) G dL_law_1292 (by decide) ?_
  refine zv_iadd G dL_law_1293 ?_
  refine zv_scr G hX9 hbl hbA (hin 1 (by decide) (by decide)) dL_law_1294 ?_
  refine zv_aldR (j := 4) G dL_law_1295 rfl rfl ?_
  refine zv_iload (j := 0) G dL_law_1296 rfl ?_
  refine zv_iconst (v := 2) G dL_law_1298 (by decide) ?_
  refine zv_iadd G dL_law_1299 ?_
  refine zv_scr G hX9 hbl hbA (hin 2 (by decide) (by decide)) dL_law_1300 ?_
  refine zv_aldR (j := 4) G dL_law_1301 rfl rfl ?_
  refine zv_iload (j := 0) G dL_law_1302 rfl ?_
  refine zv_iconst (v := 3) G dL_law_1304 (by decide) ?_
  refine zv_iadd G dL_law_1305 ?_
  refine zv_scr G hX9 hbl hbA (hin 3 (by decide) (by decide)) dL_law_1306 ?_
  refine zv_callVi (as := [za_I (xs (i + 1).toNatClampNeg), za_I (xs (i + 2).toNatClampNeg), za_I (xs (i + 3).toNatClampNeg)]) G (by decide) rfl rfl (zc_X9_sums_at0 l E (xs (i + 1).toNatClampNeg) (xs (i + 2).toNatClampNeg) (xs (i + 3).toNatClampNeg) z0 zE_0) zk_X9_sums zm_858 rfl ⟨(Nat.le_of_ble_eq_true rfl), (Nat.le_of_ble_eq_true rfl)⟩ ⟨hc1, hc2⟩ (Nat.le_of_ble_eq_true rfl) dL_law_1307 (fun r1 σ1 h1 => ?_)
  refine zv_aload_n (j := 2) G dL_law_1310 rfl rfl ?_
  refine zv_aldR (j := 4) G dL_law_1311 rfl rfl ?_
  refine zv_iload (j := 0) G dL_law_1312 rfl ?_
  refine zv_iconst (v := 1) G dL_law_1314 (by decide) ?_
  refine zv_iadd G dL_law_1315 ?_
  refine zv_scr G hX9 hbl hbA (hin 1 (by decide) (by decide)) dL_law_1316 ?_
  refine zv_aldR (j := 4) G dL_law_1317 rfl rfl ?_
  refine zv_iload (j := 0) G dL_law_1318 rfl ?_
  refine zv_iconst (v := 2) G dL_law_1320 (by decide) ?_
  refine zv_iadd G dL_law_1321 ?_
  refine zv_scr G hX9 hbl hbA (hin 2 (by decide) (by decide)) dL_law_1322 ?_
  refine zv_aldR (j := 4) G dL_law_1323 rfl rfl ?_
  refine zv_iload (j := 0) G dL_law_1324 rfl ?_
  refine zv_iconst (v := 3) G dL_law_1326 (by decide) ?_
  refine zv_iadd G dL_law_1327 ?_
  refine zv_scr G hX9 hbl hbA (hin 3 (by decide) (by decide)) dL_law_1328 ?_
  refine zv_callVi (as := [za_I (xs (i + 1).toNatClampNeg), za_I (xs (i + 2).toNatClampNeg), za_I (xs (i + 3).toNatClampNeg)]) G (by decide) rfl rfl (zc_X10_sums_at0 l E (xs (i + 1).toNatClampNeg) (xs (i + 2).toNatClampNeg) (xs (i + 3).toNatClampNeg) σ1 h1.2) zk_X10_sums zm_1596 rfl ⟨(Nat.le_of_ble_eq_true rfl), (Nat.le_of_ble_eq_true rfl)⟩ ⟨hc1, hc2⟩ (Nat.le_of_ble_eq_true rfl) dL_law_1329 (fun r2 σ2 h2 => ?_)
  refine zv_icmp_eq (tgt := 1827) G dL_law_1332 (by decide) (fun _ => ?_) (fun c9 => absurd (wzAn_u h1.1 h2) c9)
  refine zv_wid (Nat.le_succ cells) (Nat.le_add_right slots 6) ?_
  exact kk σ2
set_option maxHeartbeats 4000000 in
set_option maxRecDepth 100000 in
theorem zl_26 (hl : l.stackTraces = false) (G : zC p s m args meth c cL_law RL 8 E A) (hX : zX E s s.heap) (hX9 : va_X b L xs s s.heap) (hbl : b < s.heap.size) (hbA : ¬ A b) (hin : ∀ x : Int32, 0 ≤ x.toInt → x.toInt ≤ 5 → vp_in (i + x) L) (hc : cells + 1 ≤ room_1.cells ∧ slots + 6 ≤ room_1.slots) (kk : ∀ σ' : za_S, zV p l e room_1 s m args below meth c E A 8 (cells + 1) (slots + 6) Q 1827 [(4, za_I i), (3, za_O 29 193), (2, za_O 19 93), (1, za_O 0 0), (0, za_O 52 (b + 1))] [] σ') : zV p l e room_1 s m args below meth c E A 8 cells slots Q 1337 [(4, za_I i), (3, za_O 29 193), (2, za_O 19 93), (1, za_O 0 0), (0, za_O 52 (b + 1))] [] z0 := by
  have hc1 : cells ≤ room_1.cells := by omega
  have hc2 : slots ≤ room_1.slots := by omega
  have hz := zI_0
  refine zv_aload_n (j := 3) G dL_law_1337 rfl rfl ?_
  refine zv_aldR (j := 4) G dL_law_1338 rfl rfl ?_
  refine zv_iload (j := 0) G dL_law_1339 rfl ?_
  refine zv_iconst (v := 1) G dL_law_1341 (by decide) ?_
  refine zv_iadd G dL_law_1342 ?_
  refine zv_scr G hX9 hbl hbA (hin 1 (by decide) (by decide)) dL_law_1343 ?_
  refine zv_aldR (j := 4) G dL_law_1344 rfl rfl ?_
  refine zv_iload (j := 0) G dL_law_1345 rfl ?_
  refine zv_iconst (v := 2) G dL_law_1347 (by decide) ?_
  refine zv_iadd G dL_law_1348 ?_
  refine zv_scr G hX9 hbl hbA (hin 2 (by decide) (by decide)) dL_law_1349 ?_
  refine zv_callVi (as := [za_I (xs (i + 1).toNatClampNeg), za_I (xs (i + 2).toNatClampNeg)]) G (by decide) rfl rfl (zc_X9_mean_at0 l E (xs (i + 1).toNatClampNeg) (xs (i + 2).toNatClampNeg) z0 zE_0) zk_X9_mean zm_863 rfl ⟨(Nat.le_of_ble_eq_true rfl), (Nat.le_of_ble_eq_true rfl)⟩ ⟨hc1, hc2⟩ (Nat.le_of_ble_eq_true rfl) dL_law_1350 (fun r1 σ1 h1 => ?_)
  refine zv_aload_n (j := 2) G dL_law_1353 rfl rfl ?_
  refine zv_aldR (j := 4) G dL_law_1354 rfl rfl ?_
  refine zv_iload (j := 0) G dL_law_1355 rfl ?_
  refine zv_iconst (v := 1) G dL_law_1357 (by decide) ?_
  refine zv_iadd G dL_law_1358 ?_
  refine zv_scr G hX9 hbl hbA (hin 1 (by decide) (by decide)) dL_law_1359 ?_
  refine zv_aldR (j := 4) G dL_law_1360 rfl rfl ?_
  refine zv_iload (j := 0) G dL_law_1361 rfl ?_
  refine zv_iconst (v := 2) G dL_law_1363 (by decide) ?_
  refine zv_iadd G dL_law_1364 ?_
  refine zv_scr G hX9 hbl hbA (hin 2 (by decide) (by decide)) dL_law_1365 ?_
  refine zv_callVi (as := [za_I (xs (i + 1).toNatClampNeg), za_I (xs (i + 2).toNatClampNeg)]) G (by decide) rfl rfl (zc_X10_mean_at0 l E (xs (i + 1).toNatClampNeg) (xs (i + 2).toNatClampNeg) σ1 h1.2) zk_X10_mean zm_1600 rfl ⟨(Nat.le_of_ble_eq_true rfl), (Nat.le_of_ble_eq_true rfl)⟩ ⟨hc1, hc2⟩ (Nat.le_of_ble_eq_true rfl) dL_law_1366 (fun r2 σ2 h2 => ?_)
  refine zv_icmp_eq (tgt := 1827) G dL_law_1369 (by decide) (fun _ => ?_) (fun c9 => absurd (wzAn_u h1.1 h2) c9)
  refine zv_wid (Nat.le_succ cells) (Nat.le_add_right slots 6) ?_
  exact kk σ2
set_option maxHeartbeats 4000000 in
set_option maxRecDepth 100000 in
theorem zl_27 (hl : l.stackTraces = false) (G : zC p s m args meth c cL_law RL 8 E A) (hX : zX E s s.heap) (hX9 : va_X b L xs s s.heap) (hbl : b < s.heap.size) (hbA : ¬ A b) (hin : ∀ x : Int32, 0 ≤ x.toInt → x.toInt ≤ 5 → vp_in (i + x) L) (hc : cells + 1 ≤ room_1.cells ∧ slots + 6 ≤ room_1.slots) (kk : ∀ σ' : za_S, zV p l e room_1 s m args below meth c E A 8 (cells + 1) (slots + 6) Q 1827 [(4, za_I i), (3, za_O 29 193), (2, za_O 19 93), (1, za_O 0 0), (0, za_O 52 (b + 1))] [] σ') : zV p l e room_1 s m args below meth c E A 8 cells slots Q 1374 [(4, za_I i), (3, za_O 29 193), (2, za_O 19 93), (1, za_O 0 0), (0, za_O 52 (b + 1))] [] z0 := by
  have hc1 : cells ≤ room_1.cells := by omega
  have hc2 : slots ≤ room_1.slots := by omega
  have hz := zI_0
  refine zv_aload_n (j := 3) G dL_law_1374 rfl rfl ?_
  refine zv_aldR (j := 4) G dL_law_1375 rfl rfl ?_
  refine zv_iload (j := 0) G dL_law_1376 rfl ?_
  refine zv_iconst (v := 1) G dL_law_1378 (by decide) ?_
  refine zv_iadd G dL_law_1379 ?_
  refine zv_scr G hX9 hbl hbA (hin 1 (by decide) (by decide)) dL_law_1380 ?_
  refine zv_callVi (as := [za_I (xs (i + 1).toNatClampNeg)]) G (by decide) rfl rfl (zc_X9_fullest_at0 l E (xs (i + 1).toNatClampNeg) z0 zE_0) zk_X9_fullest zm_870 rfl ⟨(Nat.le_of_ble_eq_true rfl), (Nat.le_of_ble_eq_true rfl)⟩ ⟨hc1, hc2⟩ (Nat.le_of_ble_eq_true rfl) dL_law_1381 (fun r1 σ1 h1 => ?_)
  refine zv_aload_n (j := 2) G dL_law_1384 rfl rfl ?_
  refine zv_aldR (j := 4) G dL_law_1385 rfl rfl ?_
  refine zv_iload (j := 0) G dL_law_1386 rfl ?_
  refine zv_iconst (v := 1) G dL_law_1388 (by decide) ?_
  refine zv_iadd G dL_law_1389 ?_
  refine zv_scr G hX9 hbl hbA (hin 1 (by decide) (by decide)) dL_law_1390 ?_
  refine zv_callVi (as := [za_I (xs (i + 1).toNatClampNeg)]) G (by decide) rfl rfl (zc_X10_fullest_at0 l E (xs (i + 1).toNatClampNeg) σ1 h1.2) zk_X10_fullest zm_1607 rfl ⟨(Nat.le_of_ble_eq_true rfl), (Nat.le_of_ble_eq_true rfl)⟩ ⟨hc1, hc2⟩ (Nat.le_of_ble_eq_true rfl) dL_law_1391 (fun r2 σ2 h2 => ?_)
  refine zv_icmp_eq (tgt := 1827) G dL_law_1394 (by decide) (fun _ => ?_) (fun c9 => absurd (wzAn_u h1.1 h2) c9)
  refine zv_wid (Nat.le_succ cells) (Nat.le_add_right slots 6) ?_
  exact kk σ2
set_option maxHeartbeats 4000000 in
set_option maxRecDepth 100000 in
theorem zl_28 (hl : l.stackTraces = false) (G : zC p s m args meth c cL_law RL 8 E A) (hX : zX E s s.heap) (hX9 : va_X b L xs s s.heap) (hbl : b < s.heap.size) (hbA : ¬ A b) (hin : ∀ x : Int32, 0 ≤ x.toInt → x.toInt ≤ 5 → vp_in (i + x) L) (hc : cells + 1 ≤ room_1.cells ∧ slots + 6 ≤ room_1.slots) (kk : ∀ σ' : za_S, zV p l e room_1 s m args below meth c E A 8 (cells + 1) (slots + 6) Q 1827 [(4, za_I i), (3, za_O 29 193), (2, za_O 19 93), (1, za_O 0 0), (0, za_O 52 (b + 1))] [] σ') : zV p l e room_1 s m args below meth c E A 8 cells slots Q 1399 [(4, za_I i), (3, za_O 29 193), (2, za_O 19 93), (1, za_O 0 0), (0, za_O 52 (b + 1))] [] z0 := by
  have hc1 : cells ≤ room_1.cells := by omega
  have hc2 : slots ≤ room_1.slots := by omega
  have hz := zI_0
  refine zv_aload_n (j := 3) G dL_law_1399 rfl rfl ?_
  refine zv_aldR (j := 4) G dL_law_1400 rfl rfl ?_
  refine zv_iload (j := 0) G dL_law_1401 rfl ?_
  refine zv_iconst (v := 1) G dL_law_1403 (by decide) ?_
  refine zv_iadd G dL_law_1404 ?_
  refine zv_scr G hX9 hbl hbA (hin 1 (by decide) (by decide)) dL_law_1405 ?_
  refine zv_aldR (j := 4) G dL_law_1406 rfl rfl ?_
  refine zv_iload (j := 0) G dL_law_1407 rfl ?_
  refine zv_iconst (v := 2) G dL_law_1409 (by decide) ?_
  refine zv_iadd G dL_law_1410 ?_
  refine zv_scr G hX9 hbl hbA (hin 2 (by decide) (by decide)) dL_law_1411 ?_
  refine zv_aldR (j := 4) G dL_law_1412 rfl rfl ?_
  refine zv_iload (j := 0) G dL_law_1413 rfl ?_
  refine zv_iconst (v := 3) G dL_law_1415 (by decide) ?_
  refine zv_iadd G dL_law_1416 ?_
  refine zv_scr G hX9 hbl hbA (hin 3 (by decide) (by decide)) dL_law_1417 ?_
  refine zv_callVi (as := [za_I (xs (i + 1).toNatClampNeg), za_I (xs (i + 2).toNatClampNeg), za_I (xs (i + 3).toNatClampNeg)]) G (by decide) rfl rfl (zc_X9_spans_at0 l E (xs (i + 1).toNatClampNeg) (xs (i + 2).toNatClampNeg) (xs (i + 3).toNatClampNeg) z0 zE_0) zk_X9_spans zm_874 rfl ⟨(Nat.le_of_ble_eq_true rfl), (Nat.le_of_ble_eq_true rfl)⟩ ⟨hc1, hc2⟩ (Nat.le_of_ble_eq_true rfl) dL_law_1418 (fun r1 σ1 h1 => ?_)
  refine zv_aload_n (j := 2) G dL_law_1421 rfl rfl ?_
  refine zv_aldR (j := 4) G dL_law_1422 rfl rfl ?_
  refine zv_iload (j := 0) G dL_law_1423 rfl ?_
  refine zv_iconst (v := 1) G dL_law_1425 (by decide) ?_
  refine zv_iadd G dL_law_1426 ?_
  refine zv_scr G hX9 hbl hbA (hin 1 (by decide) (by decide)) dL_law_1427 ?_
  refine zv_aldR (j := 4) G dL_law_1428 rfl rfl ?_
  refine zv_iload (j := 0) G dL_law_1429 rfl ?_
  refine zv_iconst (v := 2) G dL_law_1431 (by decide) ?_
  refine zv_iadd G dL_law_1432 ?_
  refine zv_scr G hX9 hbl hbA (hin 2 (by decide) (by decide)) dL_law_1433 ?_
  refine zv_aldR (j := 4) G dL_law_1434 rfl rfl ?_
  refine zv_iload (j := 0) G dL_law_1435 rfl ?_
  refine zv_iconst (v := 3) G dL_law_1437 (by decide) ?_
  refine zv_iadd G dL_law_1438 ?_
  refine zv_scr G hX9 hbl hbA (hin 3 (by decide) (by decide)) dL_law_1439 ?_
  refine zv_callVi (as := [za_I (xs (i + 1).toNatClampNeg), za_I (xs (i + 2).toNatClampNeg), za_I (xs (i + 3).toNatClampNeg)]) G (by decide) rfl rfl (zc_X10_spans_at0 l E (xs (i + 1).toNatClampNeg) (xs (i + 2).toNatClampNeg) (xs (i + 3).toNatClampNeg) σ1 h1.2) zk_X10_spans zm_1611 rfl ⟨(Nat.le_of_ble_eq_true rfl), (Nat.le_of_ble_eq_true rfl)⟩ ⟨hc1, hc2⟩ (Nat.le_of_ble_eq_true rfl) dL_law_1440 (fun r2 σ2 h2 => ?_)
  refine zv_icmp_eq (tgt := 1827) G dL_law_1443 (by decide) (fun _ => ?_) (fun c9 => absurd (wzAn_u h1.1 h2) c9)
  refine zv_wid (Nat.le_succ cells) (Nat.le_add_right slots 6) ?_
  exact kk σ2
set_option maxHeartbeats 4000000 in
set_option maxRecDepth 100000 in
theorem zl_29 (hl : l.stackTraces = false) (G : zC p s m args meth c cL_law RL 8 E A) (hX : zX E s s.heap) (hX9 : va_X b L xs s s.heap) (hbl : b < s.heap.size) (hbA : ¬ A b) (hin : ∀ x : Int32, 0 ≤ x.toInt → x.toInt ≤ 5 → vp_in (i + x) L) (hc : cells + 1 ≤ room_1.cells ∧ slots + 6 ≤ room_1.slots) (kk : ∀ σ' : za_S, zV p l e room_1 s m args below meth c E A 8 (cells + 1) (slots + 6) Q 1827 [(4, za_I i), (3, za_O 29 193), (2, za_O 19 93), (1, za_O 0 0), (0, za_O 52 (b + 1))] [] σ') : zV p l e room_1 s m args below meth c E A 8 cells slots Q 1448 [(4, za_I i), (3, za_O 29 193), (2, za_O 19 93), (1, za_O 0 0), (0, za_O 52 (b + 1))] [] z0 := by
  have hc1 : cells ≤ room_1.cells := by omega
  have hc2 : slots ≤ room_1.slots := by omega
  have hz := zI_0
  refine zv_aload_n (j := 3) G dL_law_1448 rfl rfl ?_
  refine zv_aldR (j := 4) G dL_law_1449 rfl rfl ?_
  refine zv_iload (j := 0) G dL_law_1450 rfl ?_
  refine zv_iconst (v := 1) G dL_law_1452 (by decide) ?_
  refine zv_iadd G dL_law_1453 ?_
  refine zv_scr G hX9 hbl hbA (hin 1 (by decide) (by decide)) dL_law_1454 ?_
  refine zv_callVi (as := [za_I (xs (i + 1).toNatClampNeg)]) G (by decide) rfl rfl (zc_X9_users_at0 l E (xs (i + 1).toNatClampNeg) z0 zE_0) zk_X9_users zm_882 rfl ⟨(Nat.le_of_ble_eq_true rfl), (Nat.le_of_ble_eq_true rfl)⟩ ⟨hc1, hc2⟩ (Nat.le_of_ble_eq_true rfl) dL_law_1455 (fun r1 σ1 h1 => ?_)
  refine zv_aload_n (j := 2) G dL_law_1458 rfl rfl ?_
  refine zv_aldR (j := 4) G dL_law_1459 rfl rfl ?_
  refine zv_iload (j := 0) G dL_law_1460 rfl ?_
  refine zv_iconst (v := 1) G dL_law_1462 (by decide) ?_
  refine zv_iadd G dL_law_1463 ?_
  refine zv_scr G hX9 hbl hbA (hin 1 (by decide) (by decide)) dL_law_1464 ?_
  refine zv_callVi (as := [za_I (xs (i + 1).toNatClampNeg)]) G (by decide) rfl rfl (zc_X10_users_at0 l E (xs (i + 1).toNatClampNeg) σ1 h1.2) zk_X10_users zm_1627 rfl ⟨(Nat.le_of_ble_eq_true rfl), (Nat.le_of_ble_eq_true rfl)⟩ ⟨hc1, hc2⟩ (Nat.le_of_ble_eq_true rfl) dL_law_1465 (fun r2 σ2 h2 => ?_)
  refine zv_icmp_eq (tgt := 1827) G dL_law_1468 (by decide) (fun _ => ?_) (fun c9 => absurd (wzAn_u h1.1 h2) c9)
  refine zv_wid (Nat.le_succ cells) (Nat.le_add_right slots 6) ?_
  exact kk σ2
set_option maxHeartbeats 4000000 in
set_option maxRecDepth 100000 in
theorem zl_30 (hl : l.stackTraces = false) (G : zC p s m args meth c cL_law RL 8 E A) (hX : zX E s s.heap) (hX9 : va_X b L xs s s.heap) (hbl : b < s.heap.size) (hbA : ¬ A b) (hin : ∀ x : Int32, 0 ≤ x.toInt → x.toInt ≤ 5 → vp_in (i + x) L) (hc : cells + 1 ≤ room_1.cells ∧ slots + 6 ≤ room_1.slots) (kk : ∀ σ' : za_S, zV p l e room_1 s m args below meth c E A 8 (cells + 1) (slots + 6) Q 1827 [(4, za_I i), (3, za_O 29 193), (2, za_O 19 93), (1, za_O 0 0), (0, za_O 52 (b + 1))] [] σ') : zV p l e room_1 s m args below meth c E A 8 cells slots Q 1473 [(4, za_I i), (3, za_O 29 193), (2, za_O 19 93), (1, za_O 0 0), (0, za_O 52 (b + 1))] [] z0 := by
  have hc1 : cells ≤ room_1.cells := by omega
  have hc2 : slots ≤ room_1.slots := by omega
  have hz := zI_0
  refine zv_aload_n (j := 3) G dL_law_1473 rfl rfl ?_
  refine zv_aldR (j := 4) G dL_law_1474 rfl rfl ?_
  refine zv_iload (j := 0) G dL_law_1475 rfl ?_
  refine zv_iconst (v := 1) G dL_law_1477 (by decide) ?_
  refine zv_iadd G dL_law_1478 ?_
  refine zv_scr G hX9 hbl hbA (hin 1 (by decide) (by decide)) dL_law_1479 ?_
  refine zv_aldR (j := 4) G dL_law_1480 rfl rfl ?_
  refine zv_iload (j := 0) G dL_law_1481 rfl ?_
  refine zv_iconst (v := 2) G dL_law_1483 (by decide) ?_
  refine zv_iadd G dL_law_1484 ?_
  refine zv_scr G hX9 hbl hbA (hin 2 (by decide) (by decide)) dL_law_1485 ?_
  refine zv_aldR (j := 4) G dL_law_1486 rfl rfl ?_
  refine zv_iload (j := 0) G dL_law_1487 rfl ?_
  refine zv_iconst (v := 3) G dL_law_1489 (by decide) ?_
  refine zv_iadd G dL_law_1490 ?_
  refine zv_scr G hX9 hbl hbA (hin 3 (by decide) (by decide)) dL_law_1491 ?_
  refine zv_callVi (as := [za_I (xs (i + 1).toNatClampNeg), za_I (xs (i + 2).toNatClampNeg), za_I (xs (i + 3).toNatClampNeg)]) G (by decide) rfl rfl (zc_X9_drags_at0 l E (xs (i + 1).toNatClampNeg) (xs (i + 2).toNatClampNeg) (xs (i + 3).toNatClampNeg) z0 zE_0) zk_X9_drags zm_890 rfl ⟨(Nat.le_of_ble_eq_true rfl), (Nat.le_of_ble_eq_true rfl)⟩ ⟨hc1, hc2⟩ (Nat.le_of_ble_eq_true rfl) dL_law_1492 (fun r1 σ1 h1 => ?_)
  refine zv_aload_n (j := 2) G dL_law_1495 rfl rfl ?_
  refine zv_aldR (j := 4) G dL_law_1496 rfl rfl ?_
  refine zv_iload (j := 0) G dL_law_1497 rfl ?_
  refine zv_iconst (v := 1) G dL_law_1499 (by decide) ?_
  refine zv_iadd G dL_law_1500 ?_
  refine zv_scr G hX9 hbl hbA (hin 1 (by decide) (by decide)) dL_law_1501 ?_
  refine zv_aldR (j := 4) G dL_law_1502 rfl rfl ?_
  refine zv_iload (j := 0) G dL_law_1503 rfl ?_
  refine zv_iconst (v := 2) G dL_law_1505 (by decide) ?_
  refine zv_iadd G dL_law_1506 ?_
  refine zv_scr G hX9 hbl hbA (hin 2 (by decide) (by decide)) dL_law_1507 ?_
  refine zv_aldR (j := 4) G dL_law_1508 rfl rfl ?_
  refine zv_iload (j := 0) G dL_law_1509 rfl ?_
  refine zv_iconst (v := 3) G dL_law_1511 (by decide) ?_
  refine zv_iadd G dL_law_1512 ?_
  refine zv_scr G hX9 hbl hbA (hin 3 (by decide) (by decide)) dL_law_1513 ?_
  refine zv_callVi (as := [za_I (xs (i + 1).toNatClampNeg), za_I (xs (i + 2).toNatClampNeg), za_I (xs (i + 3).toNatClampNeg)]) G (by decide) rfl rfl (zc_X10_drags_at0 l E (xs (i + 1).toNatClampNeg) (xs (i + 2).toNatClampNeg) (xs (i + 3).toNatClampNeg) σ1 h1.2) zk_X10_drags zm_1634 rfl ⟨(Nat.le_of_ble_eq_true rfl), (Nat.le_of_ble_eq_true rfl)⟩ ⟨hc1, hc2⟩ (Nat.le_of_ble_eq_true rfl) dL_law_1514 (fun r2 σ2 h2 => ?_)
  refine zv_icmp_eq (tgt := 1827) G dL_law_1517 (by decide) (fun _ => ?_) (fun c9 => absurd (wzAn_u h1.1 h2) c9)
  refine zv_wid (Nat.le_succ cells) (Nat.le_add_right slots 6) ?_
  exact kk σ2
set_option maxHeartbeats 4000000 in
set_option maxRecDepth 100000 in
theorem zl_31 (hl : l.stackTraces = false) (G : zC p s m args meth c cL_law RL 8 E A) (hX : zX E s s.heap) (hX9 : va_X b L xs s s.heap) (hbl : b < s.heap.size) (hbA : ¬ A b) (hin : ∀ x : Int32, 0 ≤ x.toInt → x.toInt ≤ 5 → vp_in (i + x) L) (hc : cells + 1 ≤ room_1.cells ∧ slots + 6 ≤ room_1.slots) (kk : ∀ σ' : za_S, zV p l e room_1 s m args below meth c E A 8 (cells + 1) (slots + 6) Q 1827 [(4, za_I i), (3, za_O 29 193), (2, za_O 19 93), (1, za_O 0 0), (0, za_O 52 (b + 1))] [] σ') : zV p l e room_1 s m args below meth c E A 8 cells slots Q 1522 [(4, za_I i), (3, za_O 29 193), (2, za_O 19 93), (1, za_O 0 0), (0, za_O 52 (b + 1))] [] z0 := by
  have hc1 : cells ≤ room_1.cells := by omega
  have hc2 : slots ≤ room_1.slots := by omega
  have hz := zI_0
  refine zv_aload_n (j := 3) G dL_law_1522 rfl rfl ?_
  refine zv_aldR (j := 4) G dL_law_1523 rfl rfl ?_
  refine zv_iload (j := 0) G dL_law_1524 rfl ?_
  refine zv_iconst (v := 1) G dL_law_1526 (by decide) ?_
  refine zv_iadd G dL_law_1527 ?_
  refine zv_scr G hX9 hbl hbA (hin 1 (by decide) (by decide)) dL_law_1528 ?_
  refine zv_callVi (as := [za_I (xs (i + 1).toNatClampNeg)]) G (by decide) rfl rfl (zc_X9_where_at0 l E (xs (i + 1).toNatClampNeg) z0 zE_0) zk_X9_where zm_894 rfl ⟨(Nat.le_of_ble_eq_true rfl), (Nat.le_of_ble_eq_true rfl)⟩ ⟨hc1, hc2⟩ (Nat.le_of_ble_eq_true rfl) dL_law_1529 (fun r1 σ1 h1 => ?_)
  refine zv_aload_n (j := 2) G dL_law_1532 rfl rfl ?_
  refine zv_aldR (j := 4) G dL_law_1533 rfl rfl ?_
  refine zv_iload (j := 0) G dL_law_1534 rfl ?_
  refine zv_iconst (v := 1) G dL_law_1536 (by decide) ?_
  refine zv_iadd G dL_law_1537 ?_
  refine zv_scr G hX9 hbl hbA (hin 1 (by decide) (by decide)) dL_law_1538 ?_
  refine zv_callVi (as := [za_I (xs (i + 1).toNatClampNeg)]) G (by decide) rfl rfl (zc_X10_where_at0 l E (xs (i + 1).toNatClampNeg) σ1 h1.2) zk_X10_where zm_1638 rfl ⟨(Nat.le_of_ble_eq_true rfl), (Nat.le_of_ble_eq_true rfl)⟩ ⟨hc1, hc2⟩ (Nat.le_of_ble_eq_true rfl) dL_law_1539 (fun r2 σ2 h2 => ?_)
  refine zv_icmp_eq (tgt := 1827) G dL_law_1542 (by decide) (fun _ => ?_) (fun c9 => absurd (h1.1.trans h2.symm) c9)
  refine zv_wid (Nat.le_succ cells) (Nat.le_add_right slots 6) ?_
  exact kk σ2
set_option maxHeartbeats 4000000 in
set_option maxRecDepth 100000 in
theorem zl_32 (hl : l.stackTraces = false) (G : zC p s m args meth c cL_law RL 8 E A) (hX : zX E s s.heap) (hX9 : va_X b L xs s s.heap) (hbl : b < s.heap.size) (hbA : ¬ A b) (hin : ∀ x : Int32, 0 ≤ x.toInt → x.toInt ≤ 5 → vp_in (i + x) L) (hc : cells + 1 ≤ room_1.cells ∧ slots + 6 ≤ room_1.slots) (kk : ∀ σ' : za_S, zV p l e room_1 s m args below meth c E A 8 (cells + 1) (slots + 6) Q 1827 [(4, za_I i), (3, za_O 29 193), (2, za_O 19 93), (1, za_O 0 0), (0, za_O 52 (b + 1))] [] σ') : zV p l e room_1 s m args below meth c E A 8 cells slots Q 1547 [(4, za_I i), (3, za_O 29 193), (2, za_O 19 93), (1, za_O 0 0), (0, za_O 52 (b + 1))] [] z0 := by
  have hc1 : cells ≤ room_1.cells := by omega
  have hc2 : slots ≤ room_1.slots := by omega
  have hz := zI_0
  refine zv_aload_n (j := 3) G dL_law_1547 rfl rfl ?_
  refine zv_aldR (j := 4) G dL_law_1548 rfl rfl ?_
  refine zv_iload (j := 0) G dL_law_1549 rfl ?_
  refine zv_iconst (v := 1) G dL_law_1551 (by decide) ?_
  refine zv_iadd G dL_law_1552 ?_
  refine zv_scr G hX9 hbl hbA (hin 1 (by decide) (by decide)) dL_law_1553 ?_
  refine zv_aldR (j := 4) G dL_law_1554 rfl rfl ?_
  refine zv_iload (j := 0) G dL_law_1555 rfl ?_
  refine zv_iconst (v := 2) G dL_law_1557 (by decide) ?_
  refine zv_iadd G dL_law_1558 ?_
  refine zv_scr G hX9 hbl hbA (hin 2 (by decide) (by decide)) dL_law_1559 ?_
  refine zv_callVi (as := [za_I (xs (i + 1).toNatClampNeg), za_I (xs (i + 2).toNatClampNeg)]) G (by decide) rfl rfl (zc_X9_differs_at0 l E (xs (i + 1).toNatClampNeg) (xs (i + 2).toNatClampNeg) z0 zE_0) zk_X9_differs zm_1008 rfl ⟨(Nat.le_of_ble_eq_true rfl), (Nat.le_of_ble_eq_true rfl)⟩ ⟨hc1, hc2⟩ (Nat.le_of_ble_eq_true rfl) dL_law_1560 (fun r1 σ1 h1 => ?_)
  refine zv_aload_n (j := 2) G dL_law_1563 rfl rfl ?_
  refine zv_aldR (j := 4) G dL_law_1564 rfl rfl ?_
  refine zv_iload (j := 0) G dL_law_1565 rfl ?_
  refine zv_iconst (v := 1) G dL_law_1567 (by decide) ?_
  refine zv_iadd G dL_law_1568 ?_
  refine zv_scr G hX9 hbl hbA (hin 1 (by decide) (by decide)) dL_law_1569 ?_
  refine zv_aldR (j := 4) G dL_law_1570 rfl rfl ?_
  refine zv_iload (j := 0) G dL_law_1571 rfl ?_
  refine zv_iconst (v := 2) G dL_law_1573 (by decide) ?_
  refine zv_iadd G dL_law_1574 ?_
  refine zv_scr G hX9 hbl hbA (hin 2 (by decide) (by decide)) dL_law_1575 ?_
  refine zv_callVi (as := [za_I (xs (i + 1).toNatClampNeg), za_I (xs (i + 2).toNatClampNeg)]) G (by decide) rfl rfl (zc_X10_differs_at0 l E (xs (i + 1).toNatClampNeg) (xs (i + 2).toNatClampNeg) σ1 h1.2) zk_X10_differs zm_1674 rfl ⟨(Nat.le_of_ble_eq_true rfl), (Nat.le_of_ble_eq_true rfl)⟩ ⟨hc1, hc2⟩ (Nat.le_of_ble_eq_true rfl) dL_law_1576 (fun r2 σ2 h2 => ?_)
  refine zv_icmp_eq (tgt := 1827) G dL_law_1579 (by decide) (fun _ => ?_) (fun c9 => absurd (wzAn_u h1.1 h2) c9)
  refine zv_wid (Nat.le_succ cells) (Nat.le_add_right slots 6) ?_
  exact kk σ2
set_option maxHeartbeats 4000000 in
set_option maxRecDepth 100000 in
theorem zl_33 (hl : l.stackTraces = false) (G : zC p s m args meth c cL_law RL 8 E A) (hX : zX E s s.heap) (hX9 : va_X b L xs s s.heap) (hbl : b < s.heap.size) (hbA : ¬ A b) (hin : ∀ x : Int32, 0 ≤ x.toInt → x.toInt ≤ 5 → vp_in (i + x) L) (hc : cells + 1 ≤ room_1.cells ∧ slots + 6 ≤ room_1.slots) (kk : ∀ σ' : za_S, zV p l e room_1 s m args below meth c E A 8 (cells + 1) (slots + 6) Q 1827 [(4, za_I i), (3, za_O 29 193), (2, za_O 19 93), (1, za_O 0 0), (0, za_O 52 (b + 1))] [] σ') : zV p l e room_1 s m args below meth c E A 8 cells slots Q 1584 [(4, za_I i), (3, za_O 29 193), (2, za_O 19 93), (1, za_O 0 0), (0, za_O 52 (b + 1))] [] z0 := by
  have hc1 : cells ≤ room_1.cells := by omega
  have hc2 : slots ≤ room_1.slots := by omega
  have hz := zI_0
  refine zv_aload_n (j := 3) G dL_law_1584 rfl rfl ?_
  refine zv_aldR (j := 4) G dL_law_1585 rfl rfl ?_
  refine zv_iload (j := 0) G dL_law_1586 rfl ?_
  refine zv_iconst (v := 1) G dL_law_1588 (by decide) ?_
  refine zv_iadd G dL_law_1589 ?_
  refine zv_scr G hX9 hbl hbA (hin 1 (by decide) (by decide)) dL_law_1590 ?_
  refine zv_aldR (j := 4) G dL_law_1591 rfl rfl ?_
  refine zv_iload (j := 0) G dL_law_1592 rfl ?_
  refine zv_iconst (v := 2) G dL_law_1594 (by decide) ?_
  refine zv_iadd G dL_law_1595 ?_
  refine zv_scr G hX9 hbl hbA (hin 2 (by decide) (by decide)) dL_law_1596 ?_
  refine zv_callVi (as := [za_I (xs (i + 1).toNatClampNeg), za_I (xs (i + 2).toNatClampNeg)]) G (by decide) rfl rfl (zc_X9_heard l E (xs (i + 1).toNatClampNeg) (xs (i + 2).toNatClampNeg) z0 (zP_heard hz)) zk_X9_heard zm_1023 rfl ⟨(Nat.le_of_ble_eq_true rfl), (Nat.le_of_ble_eq_true rfl)⟩ ⟨hc1, hc2⟩ (Nat.le_of_ble_eq_true rfl) dL_law_1597 (fun r1 σ1 h1 => ?_)
  refine zv_aload_n (j := 2) G dL_law_1600 rfl rfl ?_
  refine zv_aldR (j := 4) G dL_law_1601 rfl rfl ?_
  refine zv_iload (j := 0) G dL_law_1602 rfl ?_
  refine zv_iconst (v := 1) G dL_law_1604 (by decide) ?_
  refine zv_iadd G dL_law_1605 ?_
  refine zv_scr G hX9 hbl hbA (hin 1 (by decide) (by decide)) dL_law_1606 ?_
  refine zv_aldR (j := 4) G dL_law_1607 rfl rfl ?_
  refine zv_iload (j := 0) G dL_law_1608 rfl ?_
  refine zv_iconst (v := 2) G dL_law_1610 (by decide) ?_
  refine zv_iadd G dL_law_1611 ?_
  refine zv_scr G hX9 hbl hbA (hin 2 (by decide) (by decide)) dL_law_1612 ?_
  refine zv_callVi (as := [za_I (xs (i + 1).toNatClampNeg), za_I (xs (i + 2).toNatClampNeg)]) G (by decide) rfl rfl (zc_X10_heard l E (xs (i + 1).toNatClampNeg) (xs (i + 2).toNatClampNeg) σ1 (zM_heard hz h1)) zk_X10_heard zm_1678 rfl ⟨(Nat.le_of_ble_eq_true rfl), (Nat.le_of_ble_eq_true rfl)⟩ ⟨hc1, hc2⟩ (Nat.le_of_ble_eq_true rfl) dL_law_1613 (fun r2 σ2 h2 => ?_)
  obtain ⟨z2, e2⟩ := zI_heard hz h1 h2
  refine zv_icmp_eq (tgt := 1827) G dL_law_1616 (by decide) (fun _ => ?_) (fun c9 => absurd (e2) c9)
  refine zv_wid (Nat.le_succ cells) (Nat.le_add_right slots 6) ?_
  exact kk σ2
set_option maxHeartbeats 4000000 in
set_option maxRecDepth 100000 in
theorem zl_34 (hl : l.stackTraces = false) (G : zC p s m args meth c cL_law RL 8 E A) (hX : zX E s s.heap) (hX9 : va_X b L xs s s.heap) (hbl : b < s.heap.size) (hbA : ¬ A b) (hin : ∀ x : Int32, 0 ≤ x.toInt → x.toInt ≤ 5 → vp_in (i + x) L) (hc : cells + 1 ≤ room_1.cells ∧ slots + 6 ≤ room_1.slots) (kk : ∀ σ' : za_S, zV p l e room_1 s m args below meth c E A 8 (cells + 1) (slots + 6) Q 1827 [(4, za_I i), (3, za_O 29 193), (2, za_O 19 93), (1, za_O 0 0), (0, za_O 52 (b + 1))] [] σ') : zV p l e room_1 s m args below meth c E A 8 cells slots Q 1621 [(4, za_I i), (3, za_O 29 193), (2, za_O 19 93), (1, za_O 0 0), (0, za_O 52 (b + 1))] [] z0 := by
  have hc1 : cells ≤ room_1.cells := by omega
  have hc2 : slots ≤ room_1.slots := by omega
  have hz := zI_0
  refine zv_aload_n (j := 3) G dL_law_1621 rfl rfl ?_
  refine zv_callVi (as := []) G (by decide) rfl rfl (zc_X9_denies l E  z0 ) zk_X9_denies zm_1031 rfl ⟨(Nat.le_of_ble_eq_true rfl), (Nat.le_of_ble_eq_true rfl)⟩ ⟨hc1, hc2⟩ (Nat.le_of_ble_eq_true rfl) dL_law_1622 (fun r1 σ1 h1 => ?_)
  refine zv_aload_n (j := 2) G dL_law_1625 rfl rfl ?_
  refine zv_callVi (as := []) G (by decide) rfl rfl (zc_X10_denies l E  σ1 ) zk_X10_denies zm_1685 rfl ⟨(Nat.le_of_ble_eq_true rfl), (Nat.le_of_ble_eq_true rfl)⟩ ⟨hc1, hc2⟩ (Nat.le_of_ble_eq_true rfl) dL_law_1626 (fun r2 σ2 h2 => ?_)
  obtain ⟨z2, e2⟩ := zI_denies hz h1 h2
  refine zv_icmp_eq (tgt := 1827) G dL_law_1629 (by decide) (fun _ => ?_) (fun c9 => absurd (e2) c9)
  refine zv_wid (Nat.le_succ cells) (Nat.le_add_right slots 6) ?_
  exact kk σ2
set_option maxHeartbeats 4000000 in
set_option maxRecDepth 100000 in
theorem zl_35 (hl : l.stackTraces = false) (G : zC p s m args meth c cL_law RL 8 E A) (hX : zX E s s.heap) (hX9 : va_X b L xs s s.heap) (hbl : b < s.heap.size) (hbA : ¬ A b) (hin : ∀ x : Int32, 0 ≤ x.toInt → x.toInt ≤ 5 → vp_in (i + x) L) (hc : cells + 1 ≤ room_1.cells ∧ slots + 6 ≤ room_1.slots) (kk : ∀ σ' : za_S, zV p l e room_1 s m args below meth c E A 8 (cells + 1) (slots + 6) Q 1827 [(4, za_I i), (3, za_O 29 193), (2, za_O 19 93), (1, za_O 0 0), (0, za_O 52 (b + 1))] [] σ') : zV p l e room_1 s m args below meth c E A 8 cells slots Q 1634 [(4, za_I i), (3, za_O 29 193), (2, za_O 19 93), (1, za_O 0 0), (0, za_O 52 (b + 1))] [] z0 := by
  have hc1 : cells ≤ room_1.cells := by omega
  have hc2 : slots ≤ room_1.slots := by omega
  have hz := zI_0
  refine zv_aload_n (j := 3) G dL_law_1634 rfl rfl ?_
  refine zv_callVi (as := []) G (by decide) rfl rfl (zc_X9_fits_at0 l E  z0 zE_0) zk_X9_fits zm_1035 rfl ⟨(Nat.le_of_ble_eq_true rfl), (Nat.le_of_ble_eq_true rfl)⟩ ⟨hc1, hc2⟩ (Nat.le_of_ble_eq_true rfl) dL_law_1635 (fun r1 σ1 h1 => ?_)
  refine zv_aload_n (j := 2) G dL_law_1638 rfl rfl ?_
  refine zv_callVi (as := []) G (by decide) rfl rfl (zc_X10_fits_at0 l E  σ1 h1.2) zk_X10_fits zm_1689 rfl ⟨(Nat.le_of_ble_eq_true rfl), (Nat.le_of_ble_eq_true rfl)⟩ ⟨hc1, hc2⟩ (Nat.le_of_ble_eq_true rfl) dL_law_1639 (fun r2 σ2 h2 => ?_)
  refine zv_icmp_eq (tgt := 1827) G dL_law_1642 (by decide) (fun _ => ?_) (fun c9 => absurd (h1.1.trans h2.symm) c9)
  refine zv_wid (Nat.le_succ cells) (Nat.le_add_right slots 6) ?_
  exact kk σ2
set_option maxHeartbeats 4000000 in
set_option maxRecDepth 100000 in
theorem zl_36 (hl : l.stackTraces = false) (G : zC p s m args meth c cL_law RL 8 E A) (hX : zX E s s.heap) (hX9 : va_X b L xs s s.heap) (hbl : b < s.heap.size) (hbA : ¬ A b) (hin : ∀ x : Int32, 0 ≤ x.toInt → x.toInt ≤ 5 → vp_in (i + x) L) (hc : cells + 1 ≤ room_1.cells ∧ slots + 6 ≤ room_1.slots) (kk : ∀ σ' : za_S, zV p l e room_1 s m args below meth c E A 8 (cells + 1) (slots + 6) Q 1827 [(4, za_I i), (3, za_O 29 193), (2, za_O 19 93), (1, za_O 0 0), (0, za_O 52 (b + 1))] [] σ') : zV p l e room_1 s m args below meth c E A 8 cells slots Q 1647 [(4, za_I i), (3, za_O 29 193), (2, za_O 19 93), (1, za_O 0 0), (0, za_O 52 (b + 1))] [] z0 := by
  have hc1 : cells ≤ room_1.cells := by omega
  have hc2 : slots ≤ room_1.slots := by omega
  have hz := zI_0
  refine zv_aload_n (j := 3) G dL_law_1647 rfl rfl ?_
  refine zv_callVi (as := []) G (by decide) rfl rfl (zc_X9_asks_at0 l E  z0 zE_0) zk_X9_asks zm_1055 rfl ⟨(Nat.le_of_ble_eq_true rfl), (Nat.le_of_ble_eq_true rfl)⟩ ⟨hc1, hc2⟩ (Nat.le_of_ble_eq_true rfl) dL_law_1648 (fun r1 σ1 h1 => ?_)
  refine zv_aload_n (j := 2) G dL_law_1651 rfl rfl ?_
  refine zv_callVi (as := []) G (by decide) rfl rfl (zc_X10_asks_at0 l E  σ1 h1.2) zk_X10_asks zm_1701 rfl ⟨(Nat.le_of_ble_eq_true rfl), (Nat.le_of_ble_eq_true rfl)⟩ ⟨hc1, hc2⟩ (Nat.le_of_ble_eq_true rfl) dL_law_1652 (fun r2 σ2 h2 => ?_)
  refine zv_icmp_eq (tgt := 1827) G dL_law_1655 (by decide) (fun _ => ?_) (fun c9 => absurd (h1.1.trans h2.symm) c9)
  refine zv_wid (Nat.le_succ cells) (Nat.le_add_right slots 6) ?_
  exact kk σ2
set_option maxHeartbeats 4000000 in
set_option maxRecDepth 100000 in
theorem zl_37 (hl : l.stackTraces = false) (G : zC p s m args meth c cL_law RL 8 E A) (hX : zX E s s.heap) (hX9 : va_X b L xs s s.heap) (hbl : b < s.heap.size) (hbA : ¬ A b) (hin : ∀ x : Int32, 0 ≤ x.toInt → x.toInt ≤ 5 → vp_in (i + x) L) (hc : cells + 1 ≤ room_1.cells ∧ slots + 6 ≤ room_1.slots) (kk : ∀ σ' : za_S, zV p l e room_1 s m args below meth c E A 8 (cells + 1) (slots + 6) Q 1827 [(4, za_I i), (3, za_O 29 193), (2, za_O 19 93), (1, za_O 0 0), (0, za_O 52 (b + 1))] [] σ') : zV p l e room_1 s m args below meth c E A 8 cells slots Q 1660 [(4, za_I i), (3, za_O 29 193), (2, za_O 19 93), (1, za_O 0 0), (0, za_O 52 (b + 1))] [] z0 := by
  have hc1 : cells ≤ room_1.cells := by omega
  have hc2 : slots ≤ room_1.slots := by omega
  have hz := zI_0
  refine zv_aload_n (j := 3) G dL_law_1660 rfl rfl ?_
  refine zv_aldR (j := 4) G dL_law_1661 rfl rfl ?_
  refine zv_iload (j := 0) G dL_law_1662 rfl ?_
  refine zv_iconst (v := 1) G dL_law_1664 (by decide) ?_
  refine zv_iadd G dL_law_1665 ?_
  refine zv_scr G hX9 hbl hbA (hin 1 (by decide) (by decide)) dL_law_1666 ?_
  refine zv_aldR (j := 4) G dL_law_1667 rfl rfl ?_
  refine zv_iload (j := 0) G dL_law_1668 rfl ?_
  refine zv_iconst (v := 2) G dL_law_1670 (by decide) ?_
  refine zv_iadd G dL_law_1671 ?_
  refine zv_scr G hX9 hbl hbA (hin 2 (by decide) (by decide)) dL_law_1672 ?_
  refine zv_callVi (as := [za_I (xs (i + 1).toNatClampNeg), za_I (xs (i + 2).toNatClampNeg)]) G (by decide) rfl rfl (zc_X9_years_atx l E (xs (i + 1).toNatClampNeg) (xs (i + 2).toNatClampNeg) z0 (wzE_N zE_0)) zk_X9_years zm_1059 rfl ⟨(Nat.le_of_ble_eq_true rfl), (Nat.le_of_ble_eq_true rfl)⟩ ⟨hc1, hc2⟩ (Nat.le_of_ble_eq_true rfl) dL_law_1673 (fun r1 σ1 h1 => ?_)
  refine zv_aload_n (j := 2) G dL_law_1676 rfl rfl ?_
  refine zv_aldR (j := 4) G dL_law_1677 rfl rfl ?_
  refine zv_iload (j := 0) G dL_law_1678 rfl ?_
  refine zv_iconst (v := 1) G dL_law_1680 (by decide) ?_
  refine zv_iadd G dL_law_1681 ?_
  refine zv_scr G hX9 hbl hbA (hin 1 (by decide) (by decide)) dL_law_1682 ?_
  refine zv_aldR (j := 4) G dL_law_1683 rfl rfl ?_
  refine zv_iload (j := 0) G dL_law_1684 rfl ?_
  refine zv_iconst (v := 2) G dL_law_1686 (by decide) ?_
  refine zv_iadd G dL_law_1687 ?_
  refine zv_scr G hX9 hbl hbA (hin 2 (by decide) (by decide)) dL_law_1688 ?_
  refine zv_callVi (as := [za_I (xs (i + 1).toNatClampNeg), za_I (xs (i + 2).toNatClampNeg)]) G (by decide) rfl rfl (zc_X10_years_atx l E (xs (i + 1).toNatClampNeg) (xs (i + 2).toNatClampNeg) σ1 (fun i _ => by rw [(h1.2 99 (by decide)).1]; rfl)) zk_X10_years zm_1709 rfl ⟨(Nat.le_of_ble_eq_true rfl), (Nat.le_of_ble_eq_true rfl)⟩ ⟨hc1, hc2⟩ (Nat.le_of_ble_eq_true rfl) dL_law_1689 (fun r2 σ2 h2 => ?_)
  refine zv_icmp_eq (tgt := 1827) G dL_law_1692 (by decide) (fun _ => ?_) (fun c9 => absurd (Int32.toInt_inj.mp (wzyears h1.1 h2)) c9)
  refine zv_wid (Nat.le_succ cells) (Nat.le_add_right slots 6) ?_
  exact kk σ2
set_option maxHeartbeats 4000000 in
set_option maxRecDepth 100000 in
theorem zl_38 (hl : l.stackTraces = false) (G : zC p s m args meth c cL_law RL 8 E A) (hX : zX E s s.heap) (hX9 : va_X b L xs s s.heap) (hbl : b < s.heap.size) (hbA : ¬ A b) (hin : ∀ x : Int32, 0 ≤ x.toInt → x.toInt ≤ 5 → vp_in (i + x) L) (hc : cells + 1 ≤ room_1.cells ∧ slots + 6 ≤ room_1.slots) (kk : ∀ σ' : za_S, zV p l e room_1 s m args below meth c E A 8 (cells + 1) (slots + 6) Q 1827 [(4, za_I i), (3, za_O 29 193), (2, za_O 19 93), (1, za_O 0 0), (0, za_O 52 (b + 1))] [] σ') : zV p l e room_1 s m args below meth c E A 8 cells slots Q 1697 [(4, za_I i), (3, za_O 29 193), (2, za_O 19 93), (1, za_O 0 0), (0, za_O 52 (b + 1))] [] z0 := by
  have hc1 : cells ≤ room_1.cells := by omega
  have hc2 : slots ≤ room_1.slots := by omega
  have hz := zI_0
  refine zv_aload_n (j := 3) G dL_law_1697 rfl rfl ?_
  refine zv_aldR (j := 4) G dL_law_1698 rfl rfl ?_
  refine zv_iload (j := 0) G dL_law_1699 rfl ?_
  refine zv_iconst (v := 1) G dL_law_1701 (by decide) ?_
  refine zv_iadd G dL_law_1702 ?_
  refine zv_scr G hX9 hbl hbA (hin 1 (by decide) (by decide)) dL_law_1703 ?_
  refine zv_callVi (as := [za_I (xs (i + 1).toNatClampNeg)]) G (by decide) rfl rfl (zc_X9_keep l E (xs (i + 1).toNatClampNeg) z0 ) zk_X9_keep zm_1076 rfl ⟨(Nat.le_of_ble_eq_true rfl), (Nat.le_of_ble_eq_true rfl)⟩ ⟨hc1, hc2⟩ (Nat.le_of_ble_eq_true rfl) dL_law_1704 (fun r1 σ1 h1 => ?_)
  refine zv_aload_n (j := 2) G dL_law_1707 rfl rfl ?_
  refine zv_aldR (j := 4) G dL_law_1708 rfl rfl ?_
  refine zv_iload (j := 0) G dL_law_1709 rfl ?_
  refine zv_iconst (v := 1) G dL_law_1711 (by decide) ?_
  refine zv_iadd G dL_law_1712 ?_
  refine zv_scr G hX9 hbl hbA (hin 1 (by decide) (by decide)) dL_law_1713 ?_
  refine zv_callVi (as := [za_I (xs (i + 1).toNatClampNeg)]) G (by decide) rfl rfl (zc_X10_keep l E (xs (i + 1).toNatClampNeg) σ1 (zM_keep hz h1)) zk_X10_keep zm_1723 rfl ⟨(Nat.le_of_ble_eq_true rfl), (Nat.le_of_ble_eq_true rfl)⟩ ⟨hc1, hc2⟩ (Nat.le_of_ble_eq_true rfl) dL_law_1714 (fun r2 σ2 h2 => ?_)
  obtain ⟨z2, e2⟩ := zI_keep hz h1 h2
  refine zv_icmp_eq (tgt := 1827) G dL_law_1717 (by decide) (fun _ => ?_) (fun c9 => absurd (e2) c9)
  refine zv_wid (Nat.le_succ cells) (Nat.le_add_right slots 6) ?_
  exact kk σ2
set_option maxHeartbeats 4000000 in
set_option maxRecDepth 100000 in
theorem zl_39 (hl : l.stackTraces = false) (G : zC p s m args meth c cL_law RL 8 E A) (hX : zX E s s.heap) (hX9 : va_X b L xs s s.heap) (hbl : b < s.heap.size) (hbA : ¬ A b) (hin : ∀ x : Int32, 0 ≤ x.toInt → x.toInt ≤ 5 → vp_in (i + x) L) (hc : cells + 1 ≤ room_1.cells ∧ slots + 6 ≤ room_1.slots) (kk : ∀ σ' : za_S, zV p l e room_1 s m args below meth c E A 8 (cells + 1) (slots + 6) Q 1827 [(4, za_I i), (3, za_O 29 193), (2, za_O 19 93), (1, za_O 0 0), (0, za_O 52 (b + 1))] [] σ') : zV p l e room_1 s m args below meth c E A 8 cells slots Q 1722 [(4, za_I i), (3, za_O 29 193), (2, za_O 19 93), (1, za_O 0 0), (0, za_O 52 (b + 1))] [] z0 := by
  have hc1 : cells ≤ room_1.cells := by omega
  have hc2 : slots ≤ room_1.slots := by omega
  have hz := zI_0
  refine zv_aload_n (j := 3) G dL_law_1722 rfl rfl ?_
  refine zv_aldR (j := 4) G dL_law_1723 rfl rfl ?_
  refine zv_iload (j := 0) G dL_law_1724 rfl ?_
  refine zv_iconst (v := 1) G dL_law_1726 (by decide) ?_
  refine zv_iadd G dL_law_1727 ?_
  refine zv_scr G hX9 hbl hbA (hin 1 (by decide) (by decide)) dL_law_1728 ?_
  refine zv_callVi (as := [za_I (xs (i + 1).toNatClampNeg)]) G (by decide) rfl rfl (zc_X9_again l E (xs (i + 1).toNatClampNeg) z0 ) zk_X9_again zm_1080 rfl ⟨(Nat.le_of_ble_eq_true rfl), (Nat.le_of_ble_eq_true rfl)⟩ ⟨hc1, hc2⟩ (Nat.le_of_ble_eq_true rfl) dL_law_1729 (fun r1 σ1 h1 => ?_)
  refine zv_aload_n (j := 2) G dL_law_1732 rfl rfl ?_
  refine zv_aldR (j := 4) G dL_law_1733 rfl rfl ?_
  refine zv_iload (j := 0) G dL_law_1734 rfl ?_
  refine zv_iconst (v := 1) G dL_law_1736 (by decide) ?_
  refine zv_iadd G dL_law_1737 ?_
  refine zv_scr G hX9 hbl hbA (hin 1 (by decide) (by decide)) dL_law_1738 ?_
  refine zv_callVi (as := [za_I (xs (i + 1).toNatClampNeg)]) G (by decide) rfl rfl (zc_X10_again l E (xs (i + 1).toNatClampNeg) σ1 (zI_c hz h1.2.1).1) zk_X10_again zm_1727 rfl ⟨(Nat.le_of_ble_eq_true rfl), (Nat.le_of_ble_eq_true rfl)⟩ ⟨hc1, hc2⟩ (Nat.le_of_ble_eq_true rfl) dL_law_1739 (fun r2 σ2 h2 => ?_)
  obtain ⟨z2, e2⟩ := zI_again hz h1 h2
  refine zv_icmp_eq (tgt := 1827) G dL_law_1742 (by decide) (fun _ => ?_) (fun c9 => absurd (e2) c9)
  refine zv_wid (Nat.le_succ cells) (Nat.le_add_right slots 6) ?_
  exact kk σ2
set_option maxHeartbeats 4000000 in
set_option maxRecDepth 100000 in
theorem zl_40 (hl : l.stackTraces = false) (G : zC p s m args meth c cL_law RL 8 E A) (hX : zX E s s.heap) (hX9 : va_X b L xs s s.heap) (hbl : b < s.heap.size) (hbA : ¬ A b) (hin : ∀ x : Int32, 0 ≤ x.toInt → x.toInt ≤ 5 → vp_in (i + x) L) (hc : cells + 1 ≤ room_1.cells ∧ slots + 6 ≤ room_1.slots) (kk : ∀ σ' : za_S, zV p l e room_1 s m args below meth c E A 8 (cells + 1) (slots + 6) Q 1827 [(4, za_I i), (3, za_O 29 193), (2, za_O 19 93), (1, za_O 0 0), (0, za_O 52 (b + 1))] [] σ') : zV p l e room_1 s m args below meth c E A 8 cells slots Q 1747 [(4, za_I i), (3, za_O 29 193), (2, za_O 19 93), (1, za_O 0 0), (0, za_O 52 (b + 1))] [] z0 := by
  have hc1 : cells ≤ room_1.cells := by omega
  have hc2 : slots ≤ room_1.slots := by omega
  have hz := zI_0
  refine zv_aload_n (j := 3) G dL_law_1747 rfl rfl ?_
  refine zv_aldR (j := 4) G dL_law_1748 rfl rfl ?_
  refine zv_iload (j := 0) G dL_law_1749 rfl ?_
  refine zv_iconst (v := 1) G dL_law_1751 (by decide) ?_
  refine zv_iadd G dL_law_1752 ?_
  refine zv_scr G hX9 hbl hbA (hin 1 (by decide) (by decide)) dL_law_1753 ?_
  refine zv_callVi (as := [za_I (xs (i + 1).toNatClampNeg)]) G (by decide) rfl rfl (zc_X9_count_at0 l E (xs (i + 1).toNatClampNeg) z0 zE_0 rfl) zk_X9_count zm_1084 rfl ⟨(Nat.le_of_ble_eq_true rfl), (Nat.le_of_ble_eq_true rfl)⟩ ⟨hc1, hc2⟩ (Nat.le_of_ble_eq_true rfl) dL_law_1754 (fun r1 σ1 h1 => ?_)
  refine zv_aload_n (j := 2) G dL_law_1757 rfl rfl ?_
  refine zv_aldR (j := 4) G dL_law_1758 rfl rfl ?_
  refine zv_iload (j := 0) G dL_law_1759 rfl ?_
  refine zv_iconst (v := 1) G dL_law_1761 (by decide) ?_
  refine zv_iadd G dL_law_1762 ?_
  refine zv_scr G hX9 hbl hbA (hin 1 (by decide) (by decide)) dL_law_1763 ?_
  refine zv_callVi (as := [za_I (xs (i + 1).toNatClampNeg)]) G (by decide) rfl rfl (zc_X10_count_at0 l E (xs (i + 1).toNatClampNeg) σ1 h1.2) zk_X10_count zm_1731 rfl ⟨(Nat.le_of_ble_eq_true rfl), (Nat.le_of_ble_eq_true rfl)⟩ ⟨hc1, hc2⟩ (Nat.le_of_ble_eq_true rfl) dL_law_1764 (fun r2 σ2 h2 => ?_)
  refine zv_icmp_eq (tgt := 1827) G dL_law_1767 (by decide) (fun _ => ?_) (fun c9 => absurd (wzAn_u h1.1 h2) c9)
  refine zv_wid (Nat.le_succ cells) (Nat.le_add_right slots 6) ?_
  exact kk σ2
set_option maxHeartbeats 4000000 in
set_option maxRecDepth 100000 in
theorem zl_41 (hl : l.stackTraces = false) (G : zC p s m args meth c cL_law RL 8 E A) (hX : zX E s s.heap) (hX9 : va_X b L xs s s.heap) (hbl : b < s.heap.size) (hbA : ¬ A b) (hin : ∀ x : Int32, 0 ≤ x.toInt → x.toInt ≤ 5 → vp_in (i + x) L) (hc : cells + 1 ≤ room_1.cells ∧ slots + 6 ≤ room_1.slots) (kk : ∀ σ' : za_S, zV p l e room_1 s m args below meth c E A 8 (cells + 1) (slots + 6) Q 1827 [(4, za_I i), (3, za_O 29 193), (2, za_O 19 93), (1, za_O 0 0), (0, za_O 52 (b + 1))] [] σ') : zV p l e room_1 s m args below meth c E A 8 cells slots Q 1772 [(4, za_I i), (3, za_O 29 193), (2, za_O 19 93), (1, za_O 0 0), (0, za_O 52 (b + 1))] [] z0 := by
  have hc1 : cells ≤ room_1.cells := by omega
  have hc2 : slots ≤ room_1.slots := by omega
  have hz := zI_0
  refine zv_aload_n (j := 3) G dL_law_1772 rfl rfl ?_
  refine zv_aldR (j := 4) G dL_law_1773 rfl rfl ?_
  refine zv_iload (j := 0) G dL_law_1774 rfl ?_
  refine zv_iconst (v := 1) G dL_law_1776 (by decide) ?_
  refine zv_iadd G dL_law_1777 ?_
  refine zv_scr G hX9 hbl hbA (hin 1 (by decide) (by decide)) dL_law_1778 ?_
  refine zv_aload_n (j := 1) G dL_law_1779 rfl rfl ?_
  refine zvy_callS (n := 3) (as := [za_O 0 0, za_I (xs (i + 1).toNatClampNeg), za_O 29 193]) G hX (zy0_row l hl E (xs (i + 1).toNatClampNeg) z0 zE_0 rfl) zm_1162 zm_131 zm_1163x ⟨by decide +kernel, by decide +kernel, by decide +kernel⟩ zm_1161 rfl ⟨(Nat.le_of_ble_eq_true rfl), (Nat.le_of_ble_eq_true rfl)⟩ hc (Nat.le_of_ble_eq_true rfl) dL_law_1780 (fun r1 σ1 h1 => ?_)
  have z1 : wzZ σ1 := fun w _ i => by rw [h1.2.1]; rfl
  refine zv_istore G dL_law_1783 (by decide) rfl ?_
  refine zv_aload_n (j := 3) G dL_law_1785 rfl rfl ?_
  refine zv_aldR (j := 5) G dL_law_1786 rfl rfl ?_
  refine zv_iload (j := 1) G dL_law_1787 rfl ?_
  refine zv_iconst (v := 1) G dL_law_1789 (by decide) ?_
  refine zv_iadd G dL_law_1790 ?_
  refine zv_scr G hX9 hbl hbA (hin 1 (by decide) (by decide)) dL_law_1791 ?_
  refine zv_callVl (as := [za_I (xs (i + 1).toNatClampNeg)]) G (by decide) rfl rfl (zc_X10_row_at0 l E (xs (i + 1).toNatClampNeg) σ1 z1) zk_X10_row zm_1735 rfl ⟨(Nat.le_of_ble_eq_true rfl), (Nat.le_of_ble_eq_true rfl)⟩ ⟨hc.1, hc.2⟩ (Nat.le_of_ble_eq_true rfl) dL_law_1792 (fun r2 σ2 h2 => ?_)
  refine zv_lstore G dL_law_1795 (by decide) rfl ?_
  refine zv_aload_n (j := 4) G dL_law_1797 rfl rfl ?_
  refine zv_callVi (as := []) G (by decide) rfl rfl (zc_X10_thrown_atx l E  σ2 ) zk_X10_thrown zm_1172 rfl ⟨(Nat.le_of_ble_eq_true rfl), (Nat.le_of_ble_eq_true rfl)⟩ ⟨hc.1, hc.2⟩ (Nat.le_of_ble_eq_true rfl) dL_law_1798 (fun r3 σ3 h3 => ?_)
  refine zv_iload (j := 1) G dL_law_1801 rfl ?_
  refine zv_icmp_eq (tgt := 1808) G dL_law_1803 (by decide) (fun _ => ?_) (fun c9 => absurd (h3.1.trans (h2.trans h1.1.symm)) c9)
  refine zv_iload (j := 1) G dL_law_1808 rfl ?_
  refine zv_if_ne (tgt := 1824) G dL_law_1810 (by decide) (fun _ => ?_) (fun c9 => absurd (h1.1.symm.trans c9) (by decide))
  refine zv_goto (tgt := 1827) G dL_law_1824 (by decide) ?_
  refine zv_sub [2, 3, 4, 5, 6] rfl ?_
  exact kk σ3
set_option maxHeartbeats 4000000 in
set_option maxRecDepth 100000 in
theorem zl_turn (hl : l.stackTraces = false) (G : zC p s m args meth c cL_law RL 8 E A) (hX : zX E s s.heap) (hX9 : va_X b L xs s s.heap) (hbl : b < s.heap.size) (hbA : ¬ A b) (hin : ∀ x : Int32, 0 ≤ x.toInt → x.toInt ≤ 5 → vp_in (i + x) L) (hi0 : vp_in i L) (hc : cells + 1 ≤ room_1.cells ∧ slots + 6 ≤ room_1.slots) (kk : ∀ σ' : za_S, zV p l e room_1 s m args below meth c E A 8 (cells + 1) (slots + 6) Q 1827 [(4, za_I i), (3, za_O 29 193), (2, za_O 19 93), (1, za_O 0 0), (0, za_O 52 (b + 1))] [] σ') : zV p l e room_1 s m args below meth c E A 8 cells slots Q 33 [(4, za_I i), (3, za_O 29 193), (2, za_O 19 93), (1, za_O 0 0), (0, za_O 52 (b + 1))] [] z0 := by
  refine zv_aldR (j := 4) G dL_law_33 rfl rfl ?_
  refine zv_iload (j := 0) G dL_law_34 rfl ?_
  refine zv_scr G hX9 hbl hbA hi0 dL_law_36 ?_
  refine zv_bipush (v := 63) G dL_law_37 (by decide) ?_
  refine zv_iand G dL_law_39 ?_
  refine zv_top (fun x _ => ?_)
  rcases Decidable.em (x = 0) with q0 | q0
  · refine zv_tabIn (off := 184) (tgt := 224) G dL_law_40 (by rw [q0]; decide) (by rw [q0]; decide) (by rw [q0]; rfl) (by decide) ?_
    exact zl_0 hl G hX hX9 hbl hbA hin hc kk
  rcases Decidable.em (x = 1) with q1 | q1
  · refine zv_tabIn (off := 209) (tgt := 249) G dL_law_40 (by rw [q1]; decide) (by rw [q1]; decide) (by rw [q1]; rfl) (by decide) ?_
    exact zl_1 hl G hX hX9 hbl hbA hin hc kk
  rcases Decidable.em (x = 2) with q2 | q2
  · refine zv_tabIn (off := 234) (tgt := 274) G dL_law_40 (by rw [q2]; decide) (by rw [q2]; decide) (by rw [q2]; rfl) (by decide) ?_
    exact zl_2 hl G hX hX9 hbl hbA hin hc kk
  rcases Decidable.em (x = 3) with q3 | q3
  · refine zv_tabIn (off := 314) (tgt := 354) G dL_law_40 (by rw [q3]; decide) (by rw [q3]; decide) (by rw [q3]; rfl) (by decide) ?_
    exact zl_3 hl G hX hX9 hbl hbA hin hc kk
  rcases Decidable.em (x = 4) with q4 | q4
  · refine zv_tabIn (off := 375) (tgt := 415) G dL_law_40 (by rw [q4]; decide) (by rw [q4]; decide) (by rw [q4]; rfl) (by decide) ?_
    exact zl_4 hl G hX hX9 hbl hbA hin hc kk
  rcases Decidable.em (x = 5) with q5 | q5
  · refine zv_tabIn (off := 448) (tgt := 488) G dL_law_40 (by rw [q5]; decide) (by rw [q5]; decide) (by rw [q5]; rfl) (by decide) ?_
    exact zl_5 hl G hX hX9 hbl hbA hin hc kk
  rcases Decidable.em (x = 6) with q6 | q6
  · refine zv_tabIn (off := 521) (tgt := 561) G dL_law_40 (by rw [q6]; decide) (by rw [q6]; decide) (by rw [q6]; rfl) (by decide) ?_
    exact zl_6 hl G hX hX9 hbl hbA hin hc kk
  rcases Decidable.em (x = 7) with q7 | q7
  · refine zv_tabIn (off := 582) (tgt := 622) G dL_law_40 (by rw [q7]; decide) (by rw [q7]; decide) (by rw [q7]; rfl) (by decide) ?_
    exact zl_7 hl G hX hX9 hbl hbA hin hc kk
  rcases Decidable.em (x = 8) with q8 | q8
  · refine zv_tabIn (off := 643) (tgt := 683) G dL_law_40 (by rw [q8]; decide) (by rw [q8]; decide) (by rw [q8]; rfl) (by decide) ?_
    exact zl_8 hl G hX hX9 hbl hbA hin hc kk
  rcases Decidable.em (x = 9) with q9 | q9
  · refine zv_tabIn (off := 692) (tgt := 732) G dL_law_40 (by rw [q9]; decide) (by rw [q9]; decide) (by rw [q9]; rfl) (by decide) ?_
    exact zl_9 hl G hX hX9 hbl hbA hin hc kk
  rcases Decidable.em (x = 10) with q10 | q10
  · refine zv_tabIn (off := 717) (tgt := 757) G dL_law_40 (by rw [q10]; decide) (by rw [q10]; decide) (by rw [q10]; rfl) (by decide) ?_
    exact zl_10 hl G hX hX9 hbl hbA hin hc kk
  rcases Decidable.em (x = 11) with q11 | q11
  · refine zv_tabIn (off := 742) (tgt := 782) G dL_law_40 (by rw [q11]; decide) (by rw [q11]; decide) (by rw [q11]; rfl) (by decide) ?_
    exact zl_11 hl G hX hX9 hbl hbA hin hc kk
  rcases Decidable.em (x = 12) with q12 | q12
  · refine zv_tabIn (off := 755) (tgt := 795) G dL_law_40 (by rw [q12]; decide) (by rw [q12]; decide) (by rw [q12]; rfl) (by decide) ?_
    exact zl_12 hl G hX hX9 hbl hbA hin hc kk
  rcases Decidable.em (x = 13) with q13 | q13
  · refine zv_tabIn (off := 768) (tgt := 808) G dL_law_40 (by rw [q13]; decide) (by rw [q13]; decide) (by rw [q13]; rfl) (by decide) ?_
    exact zl_13 hl G hX hX9 hbl hbA hin hc kk
  rcases Decidable.em (x = 14) with q14 | q14
  · refine zv_tabIn (off := 817) (tgt := 857) G dL_law_40 (by rw [q14]; decide) (by rw [q14]; decide) (by rw [q14]; rfl) (by decide) ?_
    exact zl_14 hl G hX hX9 hbl hbA hin hc kk
  rcases Decidable.em (x = 15) with q15 | q15
  · refine zv_tabIn (off := 854) (tgt := 894) G dL_law_40 (by rw [q15]; decide) (by rw [q15]; decide) (by rw [q15]; rfl) (by decide) ?_
    exact zl_15 hl G hX hX9 hbl hbA hin hc kk
  rcases Decidable.em (x = 16) with q16 | q16
  · refine zv_tabIn (off := 915) (tgt := 955) G dL_law_40 (by rw [q16]; decide) (by rw [q16]; decide) (by rw [q16]; rfl) (by decide) ?_
    exact zl_16 hl G hX hX9 hbl hbA hin hc kk
  rcases Decidable.em (x = 17) with q17 | q17
  · refine zv_tabIn (off := 964) (tgt := 1004) G dL_law_40 (by rw [q17]; decide) (by rw [q17]; decide) (by rw [q17]; rfl) (by decide) ?_
    exact zl_17 hl G hX hX9 hbl hbA hin hc kk
  rcases Decidable.em (x = 18) with q18 | q18
  · refine zv_tabIn (off := 1025) (tgt := 1065) G dL_law_40 (by rw [q18]; decide) (by rw [q18]; decide) (by rw [q18]; rfl) (by decide) ?_
    exact zl_18 hl G hX hX9 hbl hbA hin hc kk
  rcases Decidable.em (x = 19) with q19 | q19
  · refine zv_tabIn (off := 1062) (tgt := 1102) G dL_law_40 (by rw [q19]; decide) (by rw [q19]; decide) (by rw [q19]; rfl) (by decide) ?_
    exact zl_19 hl G hX hX9 hbl hbA hin hc kk
  rcases Decidable.em (x = 20) with q20 | q20
  · refine zv_tabIn (off := 1087) (tgt := 1127) G dL_law_40 (by rw [q20]; decide) (by rw [q20]; decide) (by rw [q20]; rfl) (by decide) ?_
    exact zl_20 hl G hX hX9 hbl hbA hin hc kk
  rcases Decidable.em (x = 21) with q21 | q21
  · refine zv_tabIn (off := 1112) (tgt := 1152) G dL_law_40 (by rw [q21]; decide) (by rw [q21]; decide) (by rw [q21]; rfl) (by decide) ?_
    exact zl_21 hl G hX hX9 hbl hbA hin hc kk
  rcases Decidable.em (x = 22) with q22 | q22
  · refine zv_tabIn (off := 1173) (tgt := 1213) G dL_law_40 (by rw [q22]; decide) (by rw [q22]; decide) (by rw [q22]; rfl) (by decide) ?_
    exact zl_22 hl G hX hX9 hbl hbA hin hc kk
  rcases Decidable.em (x = 23) with q23 | q23
  · refine zv_tabIn (off := 1210) (tgt := 1250) G dL_law_40 (by rw [q23]; decide) (by rw [q23]; decide) (by rw [q23]; rfl) (by decide) ?_
    exact zl_23 hl G hX hX9 hbl hbA hin hc kk
  rcases Decidable.em (x = 24) with q24 | q24
  · refine zv_tabIn (off := 1235) (tgt := 1275) G dL_law_40 (by rw [q24]; decide) (by rw [q24]; decide) (by rw [q24]; rfl) (by decide) ?_
    exact zl_24 hl G hX hX9 hbl hbA hin hc kk
  rcases Decidable.em (x = 25) with q25 | q25
  · refine zv_tabIn (off := 1248) (tgt := 1288) G dL_law_40 (by rw [q25]; decide) (by rw [q25]; decide) (by rw [q25]; rfl) (by decide) ?_
    exact zl_25 hl G hX hX9 hbl hbA hin hc kk
  rcases Decidable.em (x = 26) with q26 | q26
  · refine zv_tabIn (off := 1297) (tgt := 1337) G dL_law_40 (by rw [q26]; decide) (by rw [q26]; decide) (by rw [q26]; rfl) (by decide) ?_
    exact zl_26 hl G hX hX9 hbl hbA hin hc kk
  rcases Decidable.em (x = 27) with q27 | q27
  · refine zv_tabIn (off := 1334) (tgt := 1374) G dL_law_40 (by rw [q27]; decide) (by rw [q27]; decide) (by rw [q27]; rfl) (by decide) ?_
    exact zl_27 hl G hX hX9 hbl hbA hin hc kk
  rcases Decidable.em (x = 28) with q28 | q28
  · refine zv_tabIn (off := 1359) (tgt := 1399) G dL_law_40 (by rw [q28]; decide) (by rw [q28]; decide) (by rw [q28]; rfl) (by decide) ?_
    exact zl_28 hl G hX hX9 hbl hbA hin hc kk
  rcases Decidable.em (x = 29) with q29 | q29
  · refine zv_tabIn (off := 1408) (tgt := 1448) G dL_law_40 (by rw [q29]; decide) (by rw [q29]; decide) (by rw [q29]; rfl) (by decide) ?_
    exact zl_29 hl G hX hX9 hbl hbA hin hc kk
  rcases Decidable.em (x = 30) with q30 | q30
  · refine zv_tabIn (off := 1433) (tgt := 1473) G dL_law_40 (by rw [q30]; decide) (by rw [q30]; decide) (by rw [q30]; rfl) (by decide) ?_
    exact zl_30 hl G hX hX9 hbl hbA hin hc kk
  rcases Decidable.em (x = 31) with q31 | q31
  · refine zv_tabIn (off := 1482) (tgt := 1522) G dL_law_40 (by rw [q31]; decide) (by rw [q31]; decide) (by rw [q31]; rfl) (by decide) ?_
    exact zl_31 hl G hX hX9 hbl hbA hin hc kk
  rcases Decidable.em (x = 32) with q32 | q32
  · refine zv_tabIn (off := 1507) (tgt := 1547) G dL_law_40 (by rw [q32]; decide) (by rw [q32]; decide) (by rw [q32]; rfl) (by decide) ?_
    exact zl_32 hl G hX hX9 hbl hbA hin hc kk
  rcases Decidable.em (x = 33) with q33 | q33
  · refine zv_tabIn (off := 1544) (tgt := 1584) G dL_law_40 (by rw [q33]; decide) (by rw [q33]; decide) (by rw [q33]; rfl) (by decide) ?_
    exact zl_33 hl G hX hX9 hbl hbA hin hc kk
  rcases Decidable.em (x = 34) with q34 | q34
  · refine zv_tabIn (off := 1581) (tgt := 1621) G dL_law_40 (by rw [q34]; decide) (by rw [q34]; decide) (by rw [q34]; rfl) (by decide) ?_
    exact zl_34 hl G hX hX9 hbl hbA hin hc kk
  rcases Decidable.em (x = 35) with q35 | q35
  · refine zv_tabIn (off := 1594) (tgt := 1634) G dL_law_40 (by rw [q35]; decide) (by rw [q35]; decide) (by rw [q35]; rfl) (by decide) ?_
    exact zl_35 hl G hX hX9 hbl hbA hin hc kk
  rcases Decidable.em (x = 36) with q36 | q36
  · refine zv_tabIn (off := 1607) (tgt := 1647) G dL_law_40 (by rw [q36]; decide) (by rw [q36]; decide) (by rw [q36]; rfl) (by decide) ?_
    exact zl_36 hl G hX hX9 hbl hbA hin hc kk
  rcases Decidable.em (x = 37) with q37 | q37
  · refine zv_tabIn (off := 1620) (tgt := 1660) G dL_law_40 (by rw [q37]; decide) (by rw [q37]; decide) (by rw [q37]; rfl) (by decide) ?_
    exact zl_37 hl G hX hX9 hbl hbA hin hc kk
  rcases Decidable.em (x = 38) with q38 | q38
  · refine zv_tabIn (off := 1657) (tgt := 1697) G dL_law_40 (by rw [q38]; decide) (by rw [q38]; decide) (by rw [q38]; rfl) (by decide) ?_
    exact zl_38 hl G hX hX9 hbl hbA hin hc kk
  rcases Decidable.em (x = 39) with q39 | q39
  · refine zv_tabIn (off := 1682) (tgt := 1722) G dL_law_40 (by rw [q39]; decide) (by rw [q39]; decide) (by rw [q39]; rfl) (by decide) ?_
    exact zl_39 hl G hX hX9 hbl hbA hin hc kk
  rcases Decidable.em (x = 40) with q40 | q40
  · refine zv_tabIn (off := 1707) (tgt := 1747) G dL_law_40 (by rw [q40]; decide) (by rw [q40]; decide) (by rw [q40]; rfl) (by decide) ?_
    exact zl_40 hl G hX hX9 hbl hbA hin hc kk
  rcases Decidable.em (x = 41) with q41 | q41
  · refine zv_tabIn (off := 1732) (tgt := 1772) G dL_law_40 (by rw [q41]; decide) (by rw [q41]; decide) (by rw [q41]; rfl) (by decide) ?_
    exact zl_41 hl G hX hX9 hbl hbA hin hc kk
  have n0 := lv_neT q0 (a := 0) rfl
  have n1 := lv_neT q1 (a := 1) rfl
  have n2 := lv_neT q2 (a := 2) rfl
  have n3 := lv_neT q3 (a := 3) rfl
  have n4 := lv_neT q4 (a := 4) rfl
  have n5 := lv_neT q5 (a := 5) rfl
  have n6 := lv_neT q6 (a := 6) rfl
  have n7 := lv_neT q7 (a := 7) rfl
  have n8 := lv_neT q8 (a := 8) rfl
  have n9 := lv_neT q9 (a := 9) rfl
  have n10 := lv_neT q10 (a := 10) rfl
  have n11 := lv_neT q11 (a := 11) rfl
  have n12 := lv_neT q12 (a := 12) rfl
  have n13 := lv_neT q13 (a := 13) rfl
  have n14 := lv_neT q14 (a := 14) rfl
  have n15 := lv_neT q15 (a := 15) rfl
  have n16 := lv_neT q16 (a := 16) rfl
  have n17 := lv_neT q17 (a := 17) rfl
  have n18 := lv_neT q18 (a := 18) rfl
  have n19 := lv_neT q19 (a := 19) rfl
  have n20 := lv_neT q20 (a := 20) rfl
  have n21 := lv_neT q21 (a := 21) rfl
  have n22 := lv_neT q22 (a := 22) rfl
  have n23 := lv_neT q23 (a := 23) rfl
  have n24 := lv_neT q24 (a := 24) rfl
  have n25 := lv_neT q25 (a := 25) rfl
  have n26 := lv_neT q26 (a := 26) rfl
  have n27 := lv_neT q27 (a := 27) rfl
  have n28 := lv_neT q28 (a := 28) rfl
  have n29 := lv_neT q29 (a := 29) rfl
  have n30 := lv_neT q30 (a := 30) rfl
  have n31 := lv_neT q31 (a := 31) rfl
  have n32 := lv_neT q32 (a := 32) rfl
  have n33 := lv_neT q33 (a := 33) rfl
  have n34 := lv_neT q34 (a := 34) rfl
  have n35 := lv_neT q35 (a := 35) rfl
  have n36 := lv_neT q36 (a := 36) rfl
  have n37 := lv_neT q37 (a := 37) rfl
  have n38 := lv_neT q38 (a := 38) rfl
  have n39 := lv_neT q39 (a := 39) rfl
  have n40 := lv_neT q40 (a := 40) rfl
  have n41 := lv_neT q41 (a := 41) rfl
  refine zv_tabOut (tgt := 1827) G dL_law_40 (by omega) (by decide) ?_
  refine zv_wid (Nat.le_succ cells) (Nat.le_add_right slots 6) ?_
  exact kk z0
set_option maxHeartbeats 4000000 in
set_option maxRecDepth 100000 in
theorem zl_test (hl : l.stackTraces = false) (G : zC p s m args meth c cL_law RL 8 E A) (hX : zX E s s.heap) (hX9 : va_X b L xs s s.heap) (hbl : b < s.heap.size) (hbA : ¬ A b) (hL : L ≤ 6) (h1 : ¬ i.toInt ≤ (L : Int) - 6 → zV p l e room_1 s m args below meth c E A 8 cells slots Q 1833 [(4, za_I i), (3, za_O 29 193), (2, za_O 19 93), (1, za_O 0 0), (0, za_O 52 (b + 1))] [] σ) (h2 : i.toInt ≤ (L : Int) - 6 → zV p l e room_1 s m args below meth c E A 8 cells slots Q 33 [(4, za_I i), (3, za_O 29 193), (2, za_O 19 93), (1, za_O 0 0), (0, za_O 52 (b + 1))] [] σ) : zV p l e room_1 s m args below meth c E A 8 cells slots Q 23 [(4, za_I i), (3, za_O 29 193), (2, za_O 19 93), (1, za_O 0 0), (0, za_O 52 (b + 1))] [] σ := by
  have hLi : (Int32.ofNat L).toInt = L := by
    have h9 := Int32.toInt_ofNat_of_lt (n := L) (by omega)
    exact h9
  have h8 : (6 : Int32).toInt = 6 := by decide
  have h6 : (Int32.ofNat L - 6).toInt = L - 6 := by
    rw [z_sub (by rw [hLi, h8]; omega) (by rw [hLi, h8]; omega), hLi]
    rfl
  refine zv_iload (j := 0) G dL_law_23 rfl ?_
  refine zv_aldR (j := 4) G dL_law_25 rfl rfl ?_
  refine zv_sln G hX9 hbl hbA dL_law_26 ?_
  refine zv_bipush (v := 6) G dL_law_27 (by decide) ?_
  refine zv_isub G dL_law_29 ?_
  refine zv_icmp_gt (tgt := 1833) G dL_law_30 (by decide) (fun c9 => h1 ?_) (fun c9 => h2 ?_)
  · rw [z_lt, h6] at c9
    omega
  · rw [z_lt, h6] at c9
    omega
set_option maxHeartbeats 4000000 in
set_option maxRecDepth 100000 in
theorem zl_loop (S0 : Nat) (hS0 : S0 + 6 * 520 ≤ 7293034) (hl : l.stackTraces = false) (G : zC p s m args meth c cL_law RL 8 E A) (hX : zX E s s.heap) (hX9 : va_X b L xs s s.heap) (hbl : b < s.heap.size) (hbA : ¬ A b) (hL : L ≤ 6) (kx : ∀ (k : Nat) (i : Int32) (σ : za_S), k ≤ 512 → zV p l e room_1 s m args below meth c E A 8 (194 + k) (S0 + 6 * k) Q 1833 [(4, za_I i), (3, za_O 29 193), (2, za_O 19 93), (1, za_O 0 0), (0, za_O 52 (b + 1))] [] σ) : zV p l e room_1 s m args below meth c E A 8 194 S0 Q 23 [(4, za_I 0), (3, za_O 29 193), (2, za_O 19 93), (1, za_O 0 0), (0, za_O 52 (b + 1))] [] z0 := by
  refine zl_test (i := 0) hl G hX hX9 hbl hbA hL (fun _ => kx 0 0 z0 (by decide)) (fun c9 => ?_)
  have h0 : (0 : Int32).toInt = 0 := by decide
  have hin : ∀ x : Int32, 0 ≤ x.toInt → x.toInt ≤ 5 → vp_in (0 + x) L := fun x x0 x5 => by
    have hx : (0 + x : Int32).toInt = (0 : Int32).toInt + x.toInt := z_add (by omega) (by omega)
    exact z_in (by omega) (by omega)
  refine zl_turn hl G hX hX9 hbl hbA hin (z_in (by omega) (by omega)) ⟨show 194 + 1 ≤ 600002 by decide, show S0 + 6 ≤ 7302232 by omega⟩ (fun σ' => ?_)
  refine zv_iinc (j := 0) (v := 6) G dL_law_1827 rfl (by decide) (by decide) rfl ?_
  refine zv_goto (tgt := 23) G dL_law_1830 (by decide) ?_
  have h6 : (6 : Int32).toInt = 6 := by decide
  exact zl_test (i := 6) hl G hX hX9 hbl hbA hL (fun _ => kx 1 6 σ' (by decide)) (fun c => absurd c (by omega))
end ZLL
