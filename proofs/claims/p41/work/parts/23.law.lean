/-! what holds between two calls of the law -/
def zI (σ : za_S) : Prop := zJ σ ∧ σ.1 79 1 = σ.1 93 4 ∧ σ.1 83 1 = σ.1 93 32 ∧ σ.1 69 3 = σ.1 189 0 ∧ σ.1 74 3 = σ.1 189 1
theorem zJ_x {σ σ' : za_S} (h : zJ σ) (k99 : σ'.1 99 = σ.1 99) (k102 : σ'.1 102 = σ.1 102) (k188 : σ'.1 188 = σ.1 188) (k190 : ∀ k, k < 2 → zG (fun i => σ'.1 190 (2001 * k + i))) (k1 : σ'.1 93 1 = σ.1 93 1) (k15 : σ'.1 93 15 = σ.1 93 15) (k16 : σ'.1 93 16 = σ.1 93 16) (k17 : σ'.1 93 17 = σ.1 93 17) (r32 : 0 ≤ (σ'.1 93 32).toInt ∧ (σ'.1 93 32).toInt ≤ 12) (r4 : 0 ≤ (σ'.1 93 4).toInt ∧ (σ'.1 93 4).toInt ≤ 80) : zJ σ' := by
  obtain ⟨h1, h2, h3, h4, -, -, h7, h8, -⟩ := h
  refine ⟨?_, ?_, ?_, ?_, r32, r4, ?_, ?_, k190⟩
  · unfold zkr
    rw [k15, k16]
    exact h1
  · unfold zch
    rw [k188]
    exact h2
  · rw [k1]
    exact h3
  · rw [k17]
    exact h4
  · rw [k99]
    exact h7
  · rw [k102]
    exact h8
theorem zJ_c {σ σ' : za_S} (h : ∀ w, 93 ≤ w → σ'.1 w = σ.1 w ∧ σ'.2 w = σ.2 w) (hJ : zJ σ) : zJ σ' := by
  have h93 := (h 93 (by decide)).1
  refine zJ_x hJ (h 99 (by decide)).1 (h 102 (by decide)).1 (h 188 (by decide)).1 ?_ (by rw [h93]) (by rw [h93]) (by rw [h93]) (by rw [h93]) ?_ ?_
  · rw [(h 190 (by decide)).1]
    exact hJ.2.2.2.2.2.2.2.2
  · rw [h93]
    exact hJ.2.2.2.2.1
  · rw [h93]
    exact hJ.2.2.2.2.2.1
theorem zI_c {σ σ' : za_S} (h : zI σ) (k : zc σ σ') : zI σ' := by
  have h93 := (k.1 93 (by decide)).1
  have h189 := (k.1 189 (by decide)).1
  refine ⟨zJ_c k.1 h.1, ?_, ?_, ?_, ?_⟩
  · rw [k.2.1, h93]; exact h.2.1
  · rw [k.2.2.1, h93]; exact h.2.2.1
  · rw [k.2.2.2.1, h189]; exact h.2.2.2.1
  · rw [k.2.2.2.2, h189]; exact h.2.2.2.2
theorem zI_q {σ σ' : za_S} (h : zI σ) (k : zq 12 σ σ') : zI σ' := by
  have h189 := (k.1.1 189 (by decide)).1
  refine ⟨zq_J h.1 k, ?_, ?_, ?_, ?_⟩
  · rw [(k.1.1 79 (by decide)).1, k.1.2.1]; exact h.2.1
  · rw [(k.1.1 83 (by decide)).1, k.1.2.2.2]; exact h.2.2.1
  · rw [(k.1.1 69 (by decide)).1, h189]; exact h.2.2.2.1
  · rw [(k.1.1 74 (by decide)).1, h189]; exact h.2.2.2.2
theorem zI_m {σ σ' : za_S} (h : zI σ) (k : zm 12 10 σ σ') : zI σ' := by
  have h189 := (k.1.1.1 189 (by decide)).1
  refine ⟨zm_J h.1 k, ?_, ?_, ?_, ?_⟩
  · rw [(k.1.1.1 79 (by decide)).1, k.1.1.2.1]; exact h.2.1
  · rw [(k.1.1.1 83 (by decide)).1, k.1.1.2.2]; exact h.2.2.1
  · rw [(k.1.1.1 69 (by decide)).1, h189]; exact h.2.2.2.1
  · rw [(k.1.1.1 74 (by decide)).1, h189]; exact h.2.2.2.2
theorem zI_o {σ σ' : za_S} (h : zI σ) (k : zol σ σ') : zI σ' := by
  have e := k.1
  unfold zI zJ zkr zch at h ⊢
  rw [e]
  exact h
theorem zI_e {σ σ' : za_S} (h : zI σ) (k : σ' = σ) : zI σ' := by rw [k]; exact h
theorem zP_sign {σ : za_S} (h : zI σ) : 0 ≤ (σ.1 79 1).toInt ∧ (σ.1 79 1).toInt ≤ 80 := by rw [h.2.1]; exact h.1.2.2.2.2.2.1
theorem zP_heard {σ : za_S} (h : zI σ) : 0 ≤ (σ.1 83 1).toInt ∧ (σ.1 83 1).toInt ≤ 12 := by rw [h.2.2.1]; exact h.1.2.2.2.2.1
theorem zM_sign {σ σ1 : za_S} {X : Prop} (h : zI σ) (a : zcT σ σ1 ∧ X) : 0 ≤ (σ1.1 93 4).toInt ∧ (σ1.1 93 4).toInt ≤ 80 := by rw [(a.1.1 93 (by decide)).1]; exact h.1.2.2.2.2.2.1
theorem zM_heard {σ σ1 : za_S} {X : Prop} (h : zI σ) (a : zcR σ σ1 ∧ X) : 0 ≤ (σ1.1 93 32).toInt ∧ (σ1.1 93 32).toInt ≤ 12 := by rw [(a.1.1 93 (by decide)).1]; exact h.1.2.2.2.2.1
theorem zI_t {σ σ1 σ2 : za_S} (h : zI σ) (a : zcT σ σ1) (b : zft σ1 σ2) (e : σ2.1 79 1 = σ2.1 93 4) (r : 0 ≤ (σ2.1 93 4).toInt ∧ (σ2.1 93 4).toInt ≤ 80) : zI σ2 := by
  have h93 := (a.1 93 (by decide)).1
  have h1 : ∀ w, 93 < w → w ≠ 95 → σ2.1 w = σ.1 w := fun w hw h5 => (b.1 w (by omega) h5).trans (a.1 w (by omega)).1
  have h2 : ∀ j, j ≠ 0 → j ≠ 4 → σ2.1 93 j = σ.1 93 j := fun j hj h4 => by rw [b.2.2 j hj h4, h93]
  refine ⟨zJ_x h.1 (h1 99 (by decide) (by decide)) (h1 102 (by decide) (by decide)) (h1 188 (by decide) (by decide)) ?_ (h2 1 (by decide) (by decide)) (h2 15 (by decide) (by decide)) (h2 16 (by decide) (by decide)) (h2 17 (by decide) (by decide)) ?_ r, e, ?_, ?_, ?_⟩
  · rw [h1 190 (by decide) (by decide)]
    exact h.1.2.2.2.2.2.2.2.2
  · rw [h2 32 (by decide) (by decide)]
    exact h.1.2.2.2.2.1
  · rw [b.1 83 (by decide) (by decide), a.2.1, h2 32 (by decide) (by decide)]; exact h.2.2.1
  · rw [b.1 69 (by decide) (by decide), a.2.2.1, h1 189 (by decide) (by decide)]; exact h.2.2.2.1
  · rw [b.1 74 (by decide) (by decide), a.2.2.2, h1 189 (by decide) (by decide)]; exact h.2.2.2.2
theorem zI_sign {σ σ1 σ2 : za_S} {r1 r2 : Int32} (h : zI σ) (a : zcT σ σ1 ∧ zsg (σ.1 79 1).toInt r1.toInt (σ1.1 79 1).toInt) (b : zft σ1 σ2 ∧ zsg (σ1.1 93 4).toInt r2.toInt (σ2.1 93 4).toInt) : zI σ2 ∧ r1 = r2 := by
  obtain ⟨a1, a2⟩ := a
  obtain ⟨b1, b2⟩ := b
  have h4 := h.1.2.2.2.2.2.1
  rw [(a1.1 93 (by decide)).1] at b2
  rw [h.2.1] at a2
  have e79 : σ2.1 79 1 = σ1.1 79 1 := by rw [b1.1 79 (by decide) (by decide)]
  unfold zsg at a2 b2
  refine ⟨zI_t h a1 b1 ?_ (by omega), Int32.toInt_inj.mp (by omega)⟩
  rw [e79]
  exact Int32.toInt_inj.mp (by omega)
theorem zI_end {σ σ1 σ2 : za_S} {r1 r2 : Int32} {n : Int} {X Y : Prop} (h : zI σ) (a : X ∧ zcT σ σ1 ∧ zen (σ.1 79 1).toInt n r1 (σ1.1 79 1).toInt) (b : Y ∧ zft σ1 σ2 ∧ zen (σ1.1 93 4).toInt n r2 (σ2.1 93 4).toInt) : zI σ2 ∧ r1 = r2 := by
  obtain ⟨-, a1, a2⟩ := a
  obtain ⟨-, b1, b2⟩ := b
  have h4 := h.1.2.2.2.2.2.1
  rw [(a1.1 93 (by decide)).1] at b2
  rw [h.2.1] at a2
  have e79 : σ2.1 79 1 = σ1.1 79 1 := by rw [b1.1 79 (by decide) (by decide)]
  unfold zen at a2 b2
  rcases a2 with ⟨x1, x2, x3, x4⟩ | ⟨x1, x3, x4⟩ <;> rcases b2 with ⟨y1, y2, y3, y4⟩ | ⟨y1, y3, y4⟩
  · exact ⟨zI_t h a1 b1 (by rw [e79]; exact Int32.toInt_inj.mp (by omega)) (by omega), x3.trans y3.symm⟩
  · exact absurd ⟨x1, x2⟩ y1
  · exact absurd ⟨y1, y2⟩ x1
  · exact ⟨zI_t h a1 b1 (by rw [e79]; exact Int32.toInt_inj.mp (by omega)) (by omega), x3.trans y3.symm⟩
theorem zI_work {σ σ1 σ2 : za_S} (h : zI σ) (a : zct σ σ1) (b : zwx σ1 σ2) : zI σ2 := by
  have h93 := (a.1.1 93 (by decide)).1
  have h189 : σ2.1 189 = σ.1 189 := ((b.1.1 189 (Or.inr (by decide))).1).trans (a.1.1 189 (by decide)).1
  refine ⟨b.2, ?_, ?_, ?_, ?_⟩
  · rw [(b.1.1 79 (Or.inl (by decide))).1, a.2, b.1.2.2]
  · rw [(b.1.1 83 (Or.inl (by decide))).1, a.1.2.1, b.1.2.1, h93]; exact h.2.2.1
  · rw [(b.1.1 69 (Or.inl (by decide))).1, a.1.2.2.1, h189]; exact h.2.2.2.1
  · rw [(b.1.1 74 (Or.inl (by decide))).1, a.1.2.2.2, h189]; exact h.2.2.2.2
theorem zI_r {σ σ1 σ2 : za_S} (h : zI σ) (a : zcR σ σ1) (b : zfh σ1 σ2) (e : σ2.1 83 1 = σ2.1 93 32) (r : 0 ≤ (σ2.1 93 32).toInt ∧ (σ2.1 93 32).toInt ≤ 12) : zI σ2 := by
  have h93 := (a.1 93 (by decide)).1
  have h1 : ∀ w, 93 < w → w < 191 → σ2.1 w = σ.1 w := fun w hw h5 => (b.1 w (by omega) (by omega) (by omega)).trans (a.1 w (by omega)).1
  have h2 : ∀ j, j ≠ 0 → j ≠ 32 → σ2.1 93 j = σ.1 93 j := fun j hj h4 => by rw [b.2.2 j hj h4, h93]
  refine ⟨zJ_x h.1 (h1 99 (by decide) (by decide)) (h1 102 (by decide) (by decide)) (h1 188 (by decide) (by decide)) ?_ (h2 1 (by decide) (by decide)) (h2 15 (by decide) (by decide)) (h2 16 (by decide) (by decide)) (h2 17 (by decide) (by decide)) r ?_, ?_, e, ?_, ?_⟩
  · rw [h1 190 (by decide) (by decide)]
    exact h.1.2.2.2.2.2.2.2.2
  · rw [h2 4 (by decide) (by decide)]
    exact h.1.2.2.2.2.2.1
  · rw [b.1 79 (by decide) (by decide) (by decide), a.2.1, h2 4 (by decide) (by decide)]; exact h.2.1
  · rw [b.1 69 (by decide) (by decide) (by decide), a.2.2.1, h1 189 (by decide) (by decide)]; exact h.2.2.2.1
  · rw [b.1 74 (by decide) (by decide) (by decide), a.2.2.2, h1 189 (by decide) (by decide)]; exact h.2.2.2.2
theorem zI_heard {σ σ1 σ2 : za_S} {r1 r2 : Int32} {V : Prop} (h : zI σ) (a : zcR σ σ1 ∧ ((V ∧ (σ.1 83 1).toInt < 12 ∧ r1.toInt = (σ.1 83 1).toInt + 1 ∧ (σ1.1 83 1).toInt = (σ.1 83 1).toInt + 1) ∨ (¬ (V ∧ (σ.1 83 1).toInt < 12) ∧ r1 = -1 ∧ (σ1.1 83 1).toInt = (σ.1 83 1).toInt))) (b : zfh σ1 σ2 ∧ ((V ∧ (σ1.1 93 32).toInt < 12 ∧ r2.toInt = (σ1.1 93 32).toInt + 1 ∧ (σ2.1 93 32).toInt = (σ1.1 93 32).toInt + 1) ∨ (¬ (V ∧ (σ1.1 93 32).toInt < 12) ∧ r2 = -1 ∧ (σ2.1 93 32).toInt = (σ1.1 93 32).toInt))) : zI σ2 ∧ r1 = r2 := by
  obtain ⟨a1, a2⟩ := a
  obtain ⟨b1, b2⟩ := b
  have h4 := h.1.2.2.2.2.1
  rw [(a1.1 93 (by decide)).1] at b2
  rw [h.2.2.1] at a2
  have e83 : σ2.1 83 1 = σ1.1 83 1 := by rw [b1.1 83 (by decide) (by decide) (by decide)]
  rcases a2 with ⟨x1, x2, x3, x4⟩ | ⟨x1, x3, x4⟩ <;> rcases b2 with ⟨y1, y2, y3, y4⟩ | ⟨y1, y3, y4⟩
  · exact ⟨zI_r h a1 b1 (by rw [e83]; exact Int32.toInt_inj.mp (by omega)) (by omega), Int32.toInt_inj.mp (by omega)⟩
  · exact absurd ⟨x1, x2⟩ y1
  · exact absurd ⟨y1, y2⟩ x1
  · exact ⟨zI_r h a1 b1 (by rw [e83]; exact Int32.toInt_inj.mp (by omega)) (by omega), x3.trans y3.symm⟩
theorem zI_denies {σ σ1 σ2 : za_S} {r1 r2 : Int32} (h : zI σ) (a : zcR σ σ1 ∧ r1 = σ.1 83 1 ∧ σ1.1 83 1 = 0) (b : zfh σ1 σ2 ∧ r2 = σ1.1 93 32 ∧ σ2.1 93 32 = 0) : zI σ2 ∧ r1 = r2 := by
  obtain ⟨a1, a2, a3⟩ := a
  obtain ⟨b1, b2, b3⟩ := b
  have e83 : σ2.1 83 1 = σ1.1 83 1 := by rw [b1.1 83 (by decide) (by decide) (by decide)]
  refine ⟨zI_r h a1 b1 (by rw [e83, a3, b3]) (by rw [b3]; decide), ?_⟩
  rw [a2, b2, (a1.1 93 (by decide)).1]
  exact h.2.2.1
theorem zM_keep {σ σ1 : za_S} {r1 : Int32} {X V W : Prop} (h : zI σ) (a : X ∧ ((r1 = 1 ∧ V ∧ zcK σ σ1 ∧ W) ∨ (r1 = 0 ∧ ¬ V ∧ σ1 = σ))) : zJ σ1 := by
  rcases a.2 with ⟨-, -, k, -⟩ | ⟨-, -, k⟩
  · exact zJ_c k.1 h.1
  · rw [k]; exact h.1
theorem zI_keep {σ σ1 σ2 : za_S} {r1 r2 a1 : Int32} {X Y : Prop} (h : zI σ) (a : X ∧ ((r1 = 1 ∧ (0 ≤ a1.toInt ∧ a1.toInt < 2) ∧ zcK σ σ1 ∧ ∀ j, j < 2 → σ1.1 (69 + 5 * j) 3 = if j = a1.toNatClampNeg then 1 else σ.1 (69 + 5 * j) 3) ∨ (r1 = 0 ∧ ¬ (0 ≤ a1.toInt ∧ a1.toInt < 2) ∧ σ1 = σ)))
    (b : Y ∧ ((r2 = 1 ∧ (0 ≤ a1.toInt ∧ a1.toInt < 2) ∧ zfk σ1 σ2 ∧ (∀ j, j < 2 → σ2.1 189 j = if j = a1.toNatClampNeg then 1 else σ1.1 189 j) ∧ zKs σ2) ∨ (r2 = 0 ∧ ¬ (0 ≤ a1.toInt ∧ a1.toInt < 2) ∧ σ2 = za_si σ1 93 0 0))) : zI σ2 ∧ r1 = r2 := by
  rcases a.2 with ⟨x1, x2, x3, x4⟩ | ⟨x1, x2, x3⟩ <;> rcases b.2 with ⟨y1, y2, y3, y4, y5⟩ | ⟨y1, y2, y3⟩
  · refine ⟨?_, x1.trans y1.symm⟩
    have h93 := (x3.1 93 (by decide)).1
    have h189 := (x3.1 189 (by decide)).1
    have h1 : ∀ w, 93 < w → w < 189 → σ2.1 w = σ.1 w := fun w hw h5 => (y3.1 w (by omega) (by omega) (by omega)).trans (x3.1 w (by omega)).1
    have h2 : ∀ j, j ≠ 0 → σ2.1 93 j = σ.1 93 j := fun j hj => by rw [y3.2.2 j hj, h93]
    refine ⟨zJ_x h.1 (h1 99 (by decide) (by decide)) (h1 102 (by decide) (by decide)) (h1 188 (by decide) (by decide)) y5 (h2 1 (by decide)) (h2 15 (by decide)) (h2 16 (by decide)) (h2 17 (by decide)) ?_ ?_, ?_, ?_, ?_, ?_⟩
    · rw [h2 32 (by decide)]; exact h.1.2.2.2.2.1
    · rw [h2 4 (by decide)]; exact h.1.2.2.2.2.2.1
    · rw [y3.1 79 (by decide) (by decide) (by decide), x3.2.1, h2 4 (by decide)]; exact h.2.1
    · rw [y3.1 83 (by decide) (by decide) (by decide), x3.2.2, h2 32 (by decide)]; exact h.2.2.1
    · have q := x4 0 (by decide)
      have q2 : σ1.1 69 3 = if 0 = a1.toNatClampNeg then 1 else σ.1 69 3 := q
      rw [y3.1 69 (by decide) (by decide) (by decide), q2, y4 0 (by decide), h189, h.2.2.2.1]
    · have q := x4 1 (by decide)
      have q2 : σ1.1 74 3 = if 1 = a1.toNatClampNeg then 1 else σ.1 74 3 := q
      rw [y3.1 74 (by decide) (by decide) (by decide), q2, y4 1 (by decide), h189, h.2.2.2.2]
  · exact absurd x2 y2
  · exact absurd y2 x2
  · refine ⟨?_, x1.trans y1.symm⟩
    subst x3
    subst y3
    have h1 : ∀ w, w ≠ 93 → (za_si σ1 93 0 0).1 w = σ1.1 w := fun w hw => if_neg hw
    have h2 : ∀ j, j ≠ 0 → (za_si σ1 93 0 0).1 93 j = σ1.1 93 j := fun j hj => za_si_ne σ1 0 (Or.inr hj)
    refine ⟨zJ_x h.1 (h1 99 (by decide)) (h1 102 (by decide)) (h1 188 (by decide)) ?_ (h2 1 (by decide)) (h2 15 (by decide)) (h2 16 (by decide)) (h2 17 (by decide)) ?_ ?_, ?_, ?_, ?_, ?_⟩
    · rw [h1 190 (by decide)]; exact h.1.2.2.2.2.2.2.2.2
    · rw [h2 32 (by decide)]; exact h.1.2.2.2.2.1
    · rw [h2 4 (by decide)]; exact h.1.2.2.2.2.2.1
    · rw [h1 79 (by decide), h2 4 (by decide)]; exact h.2.1
    · rw [h1 83 (by decide), h2 32 (by decide)]; exact h.2.2.1
    · rw [h1 69 (by decide), h1 189 (by decide)]; exact h.2.2.2.1
    · rw [h1 74 (by decide), h1 189 (by decide)]; exact h.2.2.2.2
theorem z_b1 {r : Int32} (h : r = 0 ∨ r = 1) : r = 1 ↔ ¬ r = 0 := by
  rcases h with rfl | rfl <;> decide
theorem zI_again {σ σ1 σ2 : za_S} {r1 r2 a1 : Int32} (h : zI σ) (a : (r1 = 0 ∨ r1 = 1) ∧ zc σ σ1 ∧ (r1 = 1 ↔ (0 ≤ a1.toInt ∧ a1.toInt < 2) ∧ ¬ σ.1 (69 + 5 * a1.toNatClampNeg) 3 = 0)) (b : (r2 = 0 ∨ r2 = 1) ∧ zm 12 10 σ1 σ2 ∧ (r2 = 1 ↔ (0 ≤ a1.toInt ∧ a1.toInt < 2) ∧ ¬ σ1.1 189 a1.toNatClampNeg = 0)) : zI σ2 ∧ r1 = r2 := by
  obtain ⟨a1', a2, a3⟩ := a
  obtain ⟨b1', b2, b3⟩ := b
  refine ⟨zI_m (zI_c h a2) b2, ?_⟩
  have e : (0 ≤ a1.toInt ∧ a1.toInt < 2) → σ.1 (69 + 5 * a1.toNatClampNeg) 3 = σ1.1 189 a1.toNatClampNeg := fun hv => by
    rw [(a2.1 189 (by decide)).1]
    have hn : (a1.toNatClampNeg : Int) = a1.toInt := Int.toNat_of_nonneg hv.1
    have h01 : a1.toNatClampNeg = 0 ∨ a1.toNatClampNeg = 1 := by omega
    rcases h01 with q | q
    · rw [q]; exact h.2.2.2.1
    · rw [q]; exact h.2.2.2.2
  have e2 : r1 = 1 ↔ r2 = 1 := by
    rw [a3, b3]
    constructor
    · exact fun q => ⟨q.1, by rw [← e q.1]; exact q.2⟩
    · exact fun q => ⟨q.1, by rw [e q.1]; exact q.2⟩
  rcases a1' with q | q <;> rcases b1' with q' | q'
  · exact q.trans q'.symm
  · exact absurd (e2.mpr q') (by rw [q]; decide)
  · exact absurd (e2.mp q) (by rw [q']; decide)
  · exact q.trans q'.symm
section ZL
variable {p : Program} {l : Launch} {e : Env} {R : Room} {s : State} {m : MethodId} {args : Array Value} {below : List Frame} {meth : Method} {c : Code} {cells slots : Nat} {Q : State → Prop}
variable {E : za_E} {A : Nat → Prop} {nL : Nat} {cc : ByteArray} {own : String} {pc : Nat} {lv lv' : List (Nat × za_V)} {st : List za_V} {σ : za_S} {b L : Nat} {xs : Nat → Int32} {i : Int32}
theorem zv_scr (G : zC p s m args meth c cc own nL E A) (hX9 : va_X b L xs s s.heap) (hbl : b < s.heap.size) (hbA : ¬ A b) (hin : vp_in i L) (hd : decode cc pc = .ok (.iaload, 1)) (k : zV p l e R s m args below meth c E A nL cells slots Q (pc + 1) lv (za_I (xs i.toNatClampNeg) :: st) σ) : zV p l e R s m args below meth c E A nL cells slots Q pc lv (za_I i :: za_O 52 (b + 1) :: st) σ := by
  intro H locs ls ho hs hP hS hl
  exact va_sld G.1 G.2.1 hX9 hbl hbA hS hin hd (k H locs ls ho (za_fm (za_okI _) (List.forall_mem_cons.mp (List.forall_mem_cons.mp hs).2).2) hP hS hl)
theorem zv_sln (G : zC p s m args meth c cc own nL E A) (hX9 : va_X b L xs s s.heap) (hbl : b < s.heap.size) (hbA : ¬ A b) (hd : decode cc pc = .ok (.arraylength, 1)) (k : zV p l e R s m args below meth c E A nL cells slots Q (pc + 1) lv (za_I (Int32.ofNat L) :: st) σ) : zV p l e R s m args below meth c E A nL cells slots Q pc lv (za_O 52 (b + 1) :: st) σ := by
  intro H locs ls ho hs hP hS hl
  exact va_slen G.1 G.2.1 hX9 hbl hbA hS hd (k H locs ls ho (za_fm (za_okI _) (List.forall_mem_cons.mp hs).2) hP hS hl)
theorem zv_wid {cells' slots' : Nat} (h1 : cells ≤ cells') (h2 : slots ≤ slots') (k : zV p l e R s m args below meth c E A nL cells' slots' Q pc lv st σ) : zV p l e R s m args below meth c E A nL cells slots Q pc lv st σ :=
  fun H locs ls ho hs hP hS hl => W.widen h1 h2 (k H locs ls ho hs hP hS hl)
theorem zv_cs {cells' slots' pc' : Nat} (h1 : cells = cells') (h2 : slots = slots') (h3 : pc = pc') (k : zV p l e R s m args below meth c E A nL cells' slots' Q pc' lv st σ) : zV p l e R s m args below meth c E A nL cells slots Q pc lv st σ := by
  subst h1; subst h2; subst h3
  exact k
end ZL
section ZLL
variable {p : Program} {l : Launch} {e : Env} {s : State} {m : MethodId} {args : Array Value} {below : List Frame} {meth : Method} {c : Code} {cells slots : Nat} {Q : State → Prop}
variable {E : za_E} {A : Nat → Prop} {σ : za_S} {b L : Nat} {xs : Nat → Int32} {i : Int32}
set_option maxHeartbeats 4000000 in
set_option maxRecDepth 100000 in
theorem zl_0 (hl : l.stackTraces = false) (G : zC p s m args meth c cL_law RL 8 E A) (hX : zX E s s.heap) (hX9 : va_X b L xs s s.heap) (hbl : b < s.heap.size) (hbA : ¬ A b) (hin : ∀ x : Int32, 0 ≤ x.toInt → x.toInt ≤ 5 → vp_in (i + x) L) (hc : cells + 1 ≤ room_1.cells ∧ slots + 6 ≤ room_1.slots) (hz : zI σ) (kk : ∀ σ' : za_S, zI σ' → zV p l e room_1 s m args below meth c E A 8 (cells + 1) (slots + 6) Q 1772 [(4, za_I i), (3, za_O 29 193), (2, za_O 19 93), (1, za_O 0 0), (0, za_O 52 (b + 1))] [] σ') : zV p l e room_1 s m args below meth c E A 8 cells slots Q 224 [(4, za_I i), (3, za_O 29 193), (2, za_O 19 93), (1, za_O 0 0), (0, za_O 52 (b + 1))] [] σ := by
  have hc1 : cells ≤ room_1.cells := by omega
  have hc2 : slots ≤ room_1.slots := by omega
  refine zv_aload_n (j := 3) G dL_law_224 rfl rfl ?_
  refine zv_aldR (j := 4) G dL_law_225 rfl rfl ?_
  refine zv_iload (j := 0) G dL_law_226 rfl ?_
  refine zv_iconst (v := 1) G dL_law_228 (by decide) ?_
  refine zv_iadd G dL_law_229 ?_
  refine zv_scr G hX9 hbl hbA (hin 1 (by decide) (by decide)) dL_law_230 ?_
  refine zv_callVi (as := [za_I (xs (i + 1).toNatClampNeg)]) G (by decide) rfl rfl (zc_X9_sign l E (xs (i + 1).toNatClampNeg) σ (zP_sign hz)) zk_X9_sign zm_372 rfl ⟨(Nat.le_of_ble_eq_true rfl), (Nat.le_of_ble_eq_true rfl)⟩ ⟨hc1, hc2⟩ (Nat.le_of_ble_eq_true rfl) dL_law_231 (fun r1 σ1 h1 => ?_)
  refine zv_popI G dL_law_234 ?_
  refine zv_aload_n (j := 2) G dL_law_235 rfl rfl ?_
  refine zv_aldR (j := 4) G dL_law_236 rfl rfl ?_
  refine zv_iload (j := 0) G dL_law_237 rfl ?_
  refine zv_iconst (v := 1) G dL_law_239 (by decide) ?_
  refine zv_iadd G dL_law_240 ?_
  refine zv_scr G hX9 hbl hbA (hin 1 (by decide) (by decide)) dL_law_241 ?_
  refine zv_callVi (as := [za_I (xs (i + 1).toNatClampNeg)]) G (by decide) rfl rfl (zc_X10_sign l E (xs (i + 1).toNatClampNeg) σ1 (zM_sign hz h1)) zk_X10_sign zm_1172 rfl ⟨(Nat.le_of_ble_eq_true rfl), (Nat.le_of_ble_eq_true rfl)⟩ ⟨hc1, hc2⟩ (Nat.le_of_ble_eq_true rfl) dL_law_242 (fun r2 σ2 h2 => ?_)
  obtain ⟨z2, e2⟩ := zI_sign hz h1 h2
  refine zv_popI G dL_law_245 ?_
  refine zv_goto (tgt := 1772) G dL_law_246 (by decide) ?_
  refine zv_wid (Nat.le_succ cells) (Nat.le_add_right slots 6) ?_
  exact kk σ2 z2
set_option maxHeartbeats 4000000 in
set_option maxRecDepth 100000 in
theorem zl_1 (hl : l.stackTraces = false) (G : zC p s m args meth c cL_law RL 8 E A) (hX : zX E s s.heap) (hX9 : va_X b L xs s s.heap) (hbl : b < s.heap.size) (hbA : ¬ A b) (hin : ∀ x : Int32, 0 ≤ x.toInt → x.toInt ≤ 5 → vp_in (i + x) L) (hc : cells + 1 ≤ room_1.cells ∧ slots + 6 ≤ room_1.slots) (hz : zI σ) (kk : ∀ σ' : za_S, zI σ' → zV p l e room_1 s m args below meth c E A 8 (cells + 1) (slots + 6) Q 1772 [(4, za_I i), (3, za_O 29 193), (2, za_O 19 93), (1, za_O 0 0), (0, za_O 52 (b + 1))] [] σ') : zV p l e room_1 s m args below meth c E A 8 cells slots Q 249 [(4, za_I i), (3, za_O 29 193), (2, za_O 19 93), (1, za_O 0 0), (0, za_O 52 (b + 1))] [] σ := by
  have hc1 : cells ≤ room_1.cells := by omega
  have hc2 : slots ≤ room_1.slots := by omega
  refine zv_aload_n (j := 3) G dL_law_249 rfl rfl ?_
  refine zv_aldR (j := 4) G dL_law_250 rfl rfl ?_
  refine zv_iload (j := 0) G dL_law_251 rfl ?_
  refine zv_iconst (v := 1) G dL_law_253 (by decide) ?_
  refine zv_iadd G dL_law_254 ?_
  refine zv_scr G hX9 hbl hbA (hin 1 (by decide) (by decide)) dL_law_255 ?_
  refine zv_callVi (as := [za_I (xs (i + 1).toNatClampNeg)]) G (by decide) rfl rfl (zc_X9_end l E (xs (i + 1).toNatClampNeg) σ ) zk_X9_end zm_380 rfl ⟨(Nat.le_of_ble_eq_true rfl), (Nat.le_of_ble_eq_true rfl)⟩ ⟨hc1, hc2⟩ (Nat.le_of_ble_eq_true rfl) dL_law_256 (fun r1 σ1 h1 => ?_)
  refine zv_popI G dL_law_259 ?_
  refine zv_aload_n (j := 2) G dL_law_260 rfl rfl ?_
  refine zv_aldR (j := 4) G dL_law_261 rfl rfl ?_
  refine zv_iload (j := 0) G dL_law_262 rfl ?_
  refine zv_iconst (v := 1) G dL_law_264 (by decide) ?_
  refine zv_iadd G dL_law_265 ?_
  refine zv_scr G hX9 hbl hbA (hin 1 (by decide) (by decide)) dL_law_266 ?_
  refine zv_callVi (as := [za_I (xs (i + 1).toNatClampNeg)]) G (by decide) rfl rfl (zc_X10_end l E (xs (i + 1).toNatClampNeg) σ1 ) zk_X10_end zm_1176 rfl ⟨(Nat.le_of_ble_eq_true rfl), (Nat.le_of_ble_eq_true rfl)⟩ ⟨hc1, hc2⟩ (Nat.le_of_ble_eq_true rfl) dL_law_267 (fun r2 σ2 h2 => ?_)
  obtain ⟨z2, e2⟩ := zI_end hz h1 h2
  refine zv_popI G dL_law_270 ?_
  refine zv_goto (tgt := 1772) G dL_law_271 (by decide) ?_
  refine zv_wid (Nat.le_succ cells) (Nat.le_add_right slots 6) ?_
  exact kk σ2 z2
set_option maxHeartbeats 4000000 in
set_option maxRecDepth 100000 in
theorem zl_2 (hl : l.stackTraces = false) (G : zC p s m args meth c cL_law RL 8 E A) (hX : zX E s s.heap) (hX9 : va_X b L xs s s.heap) (hbl : b < s.heap.size) (hbA : ¬ A b) (hin : ∀ x : Int32, 0 ≤ x.toInt → x.toInt ≤ 5 → vp_in (i + x) L) (hc : cells + 1 ≤ room_1.cells ∧ slots + 6 ≤ room_1.slots) (hz : zI σ) (kk : ∀ σ' : za_S, zI σ' → zV p l e room_1 s m args below meth c E A 8 (cells + 1) (slots + 6) Q 1772 [(4, za_I i), (3, za_O 29 193), (2, za_O 19 93), (1, za_O 0 0), (0, za_O 52 (b + 1))] [] σ') : zV p l e room_1 s m args below meth c E A 8 cells slots Q 274 [(4, za_I i), (3, za_O 29 193), (2, za_O 19 93), (1, za_O 0 0), (0, za_O 52 (b + 1))] [] σ := by
  have hc1 : cells ≤ room_1.cells := by omega
  have hc2 : slots ≤ room_1.slots := by omega
  refine zv_aload_n (j := 3) G dL_law_274 rfl rfl ?_
  refine zv_aldR (j := 4) G dL_law_275 rfl rfl ?_
  refine zv_iload (j := 0) G dL_law_276 rfl ?_
  refine zv_iconst (v := 1) G dL_law_278 (by decide) ?_
  refine zv_iadd G dL_law_279 ?_
  refine zv_scr G hX9 hbl hbA (hin 1 (by decide) (by decide)) dL_law_280 ?_
  refine zv_aldR (j := 4) G dL_law_281 rfl rfl ?_
  refine zv_iload (j := 0) G dL_law_282 rfl ?_
  refine zv_iconst (v := 2) G dL_law_284 (by decide) ?_
  refine zv_iadd G dL_law_285 ?_
  refine zv_scr G hX9 hbl hbA (hin 2 (by decide) (by decide)) dL_law_286 ?_
  refine zv_aldR (j := 4) G dL_law_287 rfl rfl ?_
  refine zv_iload (j := 0) G dL_law_288 rfl ?_
  refine zv_iconst (v := 3) G dL_law_290 (by decide) ?_
  refine zv_iadd G dL_law_291 ?_
  refine zv_scr G hX9 hbl hbA (hin 3 (by decide) (by decide)) dL_law_292 ?_
  refine zv_aload_n (j := 1) G dL_law_293 rfl rfl ?_
  refine zvy_callS (n := 5) (as := [za_O 0 0, za_I (xs (i + 1).toNatClampNeg), za_I (xs (i + 2).toNatClampNeg), za_I (xs (i + 3).toNatClampNeg), za_O 29 193]) G hX (zy_entry l hl E (xs (i + 1).toNatClampNeg) (xs (i + 2).toNatClampNeg) (xs (i + 3).toNatClampNeg) σ) zm_1093 zm_131 zm_1094x ⟨by decide +kernel, by decide +kernel, by decide +kernel⟩ zm_1092 rfl ⟨(Nat.le_of_ble_eq_true rfl), (Nat.le_of_ble_eq_true rfl)⟩ hc (Nat.le_of_ble_eq_true rfl) dL_law_294 (fun r1 σ1 h1 => ?_)
  have z1 := zI_o hz h1
  refine zv_istore G dL_law_297 (by decide) rfl ?_
  refine zv_aload_n (j := 3) G dL_law_299 rfl rfl ?_
  refine zv_aldR (j := 5) G dL_law_300 rfl rfl ?_
  refine zv_iload (j := 1) G dL_law_301 rfl ?_
  refine zv_iconst (v := 1) G dL_law_303 (by decide) ?_
  refine zv_iadd G dL_law_304 ?_
  refine zv_scr G hX9 hbl hbA (hin 1 (by decide) (by decide)) dL_law_305 ?_
  refine zv_aldR (j := 5) G dL_law_306 rfl rfl ?_
  refine zv_iload (j := 1) G dL_law_307 rfl ?_
  refine zv_iconst (v := 2) G dL_law_309 (by decide) ?_
  refine zv_iadd G dL_law_310 ?_
  refine zv_scr G hX9 hbl hbA (hin 2 (by decide) (by decide)) dL_law_311 ?_
  refine zv_aldR (j := 5) G dL_law_312 rfl rfl ?_
  refine zv_iload (j := 1) G dL_law_313 rfl ?_
  refine zv_iconst (v := 3) G dL_law_315 (by decide) ?_
  refine zv_iadd G dL_law_316 ?_
  refine zv_scr G hX9 hbl hbA (hin 3 (by decide) (by decide)) dL_law_317 ?_
  refine zv_callVi (as := [za_I (xs (i + 1).toNatClampNeg), za_I (xs (i + 2).toNatClampNeg), za_I (xs (i + 3).toNatClampNeg)]) G (by decide) rfl rfl (zc_X10_entry l E (xs (i + 1).toNatClampNeg) (xs (i + 2).toNatClampNeg) (xs (i + 3).toNatClampNeg) σ1 z1.1) zk_X10_entry zm_1305 rfl ⟨(Nat.le_of_ble_eq_true rfl), (Nat.le_of_ble_eq_true rfl)⟩ ⟨hc.1, hc.2⟩ (Nat.le_of_ble_eq_true rfl) dL_law_318 (fun r2 σ2 h2 => ?_)
  have z2 := zI_q z1 h2
  refine zv_istore G dL_law_321 (by decide) rfl ?_
  refine zv_goto (tgt := 1772) G dL_law_323 (by decide) ?_
  refine zv_sub [2, 3, 4, 5, 6] rfl ?_
  exact kk σ2 z2
set_option maxHeartbeats 4000000 in
set_option maxRecDepth 100000 in
theorem zl_3 (hl : l.stackTraces = false) (G : zC p s m args meth c cL_law RL 8 E A) (hX : zX E s s.heap) (hX9 : va_X b L xs s s.heap) (hbl : b < s.heap.size) (hbA : ¬ A b) (hin : ∀ x : Int32, 0 ≤ x.toInt → x.toInt ≤ 5 → vp_in (i + x) L) (hc : cells + 1 ≤ room_1.cells ∧ slots + 6 ≤ room_1.slots) (hz : zI σ) (kk : ∀ σ' : za_S, zI σ' → zV p l e room_1 s m args below meth c E A 8 (cells + 1) (slots + 6) Q 1772 [(4, za_I i), (3, za_O 29 193), (2, za_O 19 93), (1, za_O 0 0), (0, za_O 52 (b + 1))] [] σ') : zV p l e room_1 s m args below meth c E A 8 cells slots Q 326 [(4, za_I i), (3, za_O 29 193), (2, za_O 19 93), (1, za_O 0 0), (0, za_O 52 (b + 1))] [] σ := by
  have hc1 : cells ≤ room_1.cells := by omega
  have hc2 : slots ≤ room_1.slots := by omega
  refine zv_aload_n (j := 3) G dL_law_326 rfl rfl ?_
  refine zv_aldR (j := 4) G dL_law_327 rfl rfl ?_
  refine zv_iload (j := 0) G dL_law_328 rfl ?_
  refine zv_iconst (v := 1) G dL_law_330 (by decide) ?_
  refine zv_iadd G dL_law_331 ?_
  refine zv_scr G hX9 hbl hbA (hin 1 (by decide) (by decide)) dL_law_332 ?_
  refine zv_aldR (j := 4) G dL_law_333 rfl rfl ?_
  refine zv_iload (j := 0) G dL_law_334 rfl ?_
  refine zv_iconst (v := 2) G dL_law_336 (by decide) ?_
  refine zv_iadd G dL_law_337 ?_
  refine zv_scr G hX9 hbl hbA (hin 2 (by decide) (by decide)) dL_law_338 ?_
  refine zv_aldR (j := 4) G dL_law_339 rfl rfl ?_
  refine zv_iload (j := 0) G dL_law_340 rfl ?_
  refine zv_iconst (v := 3) G dL_law_342 (by decide) ?_
  refine zv_iadd G dL_law_343 ?_
  refine zv_scr G hX9 hbl hbA (hin 3 (by decide) (by decide)) dL_law_344 ?_
  refine zv_aldR (j := 4) G dL_law_345 rfl rfl ?_
  refine zv_iload (j := 0) G dL_law_346 rfl ?_
  refine zv_iconst (v := 4) G dL_law_348 (by decide) ?_
  refine zv_iadd G dL_law_349 ?_
  refine zv_scr G hX9 hbl hbA (hin 4 (by decide) (by decide)) dL_law_350 ?_
  refine zv_callVi (as := [za_I (xs (i + 1).toNatClampNeg), za_I (xs (i + 2).toNatClampNeg), za_I (xs (i + 3).toNatClampNeg), za_I (xs (i + 4).toNatClampNeg)]) G (by decide) rfl rfl (zc_X9_sheet l E (xs (i + 1).toNatClampNeg) (xs (i + 2).toNatClampNeg) (xs (i + 3).toNatClampNeg) (xs (i + 4).toNatClampNeg) σ ) zk_X9_sheet zm_384 rfl ⟨(Nat.le_of_ble_eq_true rfl), (Nat.le_of_ble_eq_true rfl)⟩ ⟨hc1, hc2⟩ (Nat.le_of_ble_eq_true rfl) dL_law_351 (fun r1 σ1 h1 => ?_)
  have z1 := zI_c hz h1
  refine zv_popI G dL_law_354 ?_
  refine zv_aload_n (j := 2) G dL_law_355 rfl rfl ?_
  refine zv_aldR (j := 4) G dL_law_356 rfl rfl ?_
  refine zv_iload (j := 0) G dL_law_357 rfl ?_
  refine zv_iconst (v := 1) G dL_law_359 (by decide) ?_
  refine zv_iadd G dL_law_360 ?_
  refine zv_scr G hX9 hbl hbA (hin 1 (by decide) (by decide)) dL_law_361 ?_
  refine zv_aldR (j := 4) G dL_law_362 rfl rfl ?_
  refine zv_iload (j := 0) G dL_law_363 rfl ?_
  refine zv_iconst (v := 2) G dL_law_365 (by decide) ?_
  refine zv_iadd G dL_law_366 ?_
  refine zv_scr G hX9 hbl hbA (hin 2 (by decide) (by decide)) dL_law_367 ?_
  refine zv_aldR (j := 4) G dL_law_368 rfl rfl ?_
  refine zv_iload (j := 0) G dL_law_369 rfl ?_
  refine zv_iconst (v := 3) G dL_law_371 (by decide) ?_
  refine zv_iadd G dL_law_372 ?_
  refine zv_scr G hX9 hbl hbA (hin 3 (by decide) (by decide)) dL_law_373 ?_
  refine zv_aldR (j := 4) G dL_law_374 rfl rfl ?_
  refine zv_iload (j := 0) G dL_law_375 rfl ?_
  refine zv_iconst (v := 4) G dL_law_377 (by decide) ?_
  refine zv_iadd G dL_law_378 ?_
  refine zv_scr G hX9 hbl hbA (hin 4 (by decide) (by decide)) dL_law_379 ?_
  refine zv_callVi (as := [za_I (xs (i + 1).toNatClampNeg), za_I (xs (i + 2).toNatClampNeg), za_I (xs (i + 3).toNatClampNeg), za_I (xs (i + 4).toNatClampNeg)]) G (by decide) rfl rfl (zc_X10_sheet l E (xs (i + 1).toNatClampNeg) (xs (i + 2).toNatClampNeg) (xs (i + 3).toNatClampNeg) (xs (i + 4).toNatClampNeg) σ1 z1.1) zk_X10_sheet zm_1343 rfl ⟨(Nat.le_of_ble_eq_true rfl), (Nat.le_of_ble_eq_true rfl)⟩ ⟨hc1, hc2⟩ (Nat.le_of_ble_eq_true rfl) dL_law_380 (fun r2 σ2 h2 => ?_)
  have z2 := zI_m z1 h2
  refine zv_popI G dL_law_383 ?_
  refine zv_goto (tgt := 1772) G dL_law_384 (by decide) ?_
  refine zv_wid (Nat.le_succ cells) (Nat.le_add_right slots 6) ?_
  exact kk σ2 z2
set_option maxHeartbeats 4000000 in
set_option maxRecDepth 100000 in
theorem zl_4 (hl : l.stackTraces = false) (G : zC p s m args meth c cL_law RL 8 E A) (hX : zX E s s.heap) (hX9 : va_X b L xs s s.heap) (hbl : b < s.heap.size) (hbA : ¬ A b) (hin : ∀ x : Int32, 0 ≤ x.toInt → x.toInt ≤ 5 → vp_in (i + x) L) (hc : cells + 1 ≤ room_1.cells ∧ slots + 6 ≤ room_1.slots) (hz : zI σ) (kk : ∀ σ' : za_S, zI σ' → zV p l e room_1 s m args below meth c E A 8 (cells + 1) (slots + 6) Q 1772 [(4, za_I i), (3, za_O 29 193), (2, za_O 19 93), (1, za_O 0 0), (0, za_O 52 (b + 1))] [] σ') : zV p l e room_1 s m args below meth c E A 8 cells slots Q 387 [(4, za_I i), (3, za_O 29 193), (2, za_O 19 93), (1, za_O 0 0), (0, za_O 52 (b + 1))] [] σ := by
  have hc1 : cells ≤ room_1.cells := by omega
  have hc2 : slots ≤ room_1.slots := by omega
  refine zv_aload_n (j := 3) G dL_law_387 rfl rfl ?_
  refine zv_aldR (j := 4) G dL_law_388 rfl rfl ?_
  refine zv_iload (j := 0) G dL_law_389 rfl ?_
  refine zv_iconst (v := 1) G dL_law_391 (by decide) ?_
  refine zv_iadd G dL_law_392 ?_
  refine zv_scr G hX9 hbl hbA (hin 1 (by decide) (by decide)) dL_law_393 ?_
  refine zv_aldR (j := 4) G dL_law_394 rfl rfl ?_
  refine zv_iload (j := 0) G dL_law_395 rfl ?_
  refine zv_iconst (v := 2) G dL_law_397 (by decide) ?_
  refine zv_iadd G dL_law_398 ?_
  refine zv_scr G hX9 hbl hbA (hin 2 (by decide) (by decide)) dL_law_399 ?_
  refine zv_aldR (j := 4) G dL_law_400 rfl rfl ?_
  refine zv_iload (j := 0) G dL_law_401 rfl ?_
  refine zv_iconst (v := 3) G dL_law_403 (by decide) ?_
  refine zv_iadd G dL_law_404 ?_
  refine zv_scr G hX9 hbl hbA (hin 3 (by decide) (by decide)) dL_law_405 ?_
  refine zv_aldR (j := 4) G dL_law_406 rfl rfl ?_
  refine zv_iload (j := 0) G dL_law_407 rfl ?_
  refine zv_iconst (v := 4) G dL_law_409 (by decide) ?_
  refine zv_iadd G dL_law_410 ?_
  refine zv_scr G hX9 hbl hbA (hin 4 (by decide) (by decide)) dL_law_411 ?_
  refine zv_aldR (j := 4) G dL_law_412 rfl rfl ?_
  refine zv_iload (j := 0) G dL_law_413 rfl ?_
  refine zv_iconst (v := 5) G dL_law_415 (by decide) ?_
  refine zv_iadd G dL_law_416 ?_
  refine zv_scr G hX9 hbl hbA (hin 5 (by decide) (by decide)) dL_law_417 ?_
  refine zv_callVi (as := [za_I (xs (i + 1).toNatClampNeg), za_I (xs (i + 2).toNatClampNeg), za_I (xs (i + 3).toNatClampNeg), za_I (xs (i + 4).toNatClampNeg), za_I (xs (i + 5).toNatClampNeg)]) G (by decide) rfl rfl (zc_X9_adds l E (xs (i + 1).toNatClampNeg) (xs (i + 2).toNatClampNeg) (xs (i + 3).toNatClampNeg) (xs (i + 4).toNatClampNeg) (xs (i + 5).toNatClampNeg) σ ) zk_X9_adds zm_405 rfl ⟨(Nat.le_of_ble_eq_true rfl), (Nat.le_of_ble_eq_true rfl)⟩ ⟨hc1, hc2⟩ (Nat.le_of_ble_eq_true rfl) dL_law_418 (fun r1 σ1 h1 => ?_)
  have z1 := zI_c hz h1
  refine zv_popI G dL_law_421 ?_
  refine zv_aload_n (j := 2) G dL_law_422 rfl rfl ?_
  refine zv_aldR (j := 4) G dL_law_423 rfl rfl ?_
  refine zv_iload (j := 0) G dL_law_424 rfl ?_
  refine zv_iconst (v := 1) G dL_law_426 (by decide) ?_
  refine zv_iadd G dL_law_427 ?_
  refine zv_scr G hX9 hbl hbA (hin 1 (by decide) (by decide)) dL_law_428 ?_
  refine zv_aldR (j := 4) G dL_law_429 rfl rfl ?_
  refine zv_iload (j := 0) G dL_law_430 rfl ?_
  refine zv_iconst (v := 2) G dL_law_432 (by decide) ?_
  refine zv_iadd G dL_law_433 ?_
  refine zv_scr G hX9 hbl hbA (hin 2 (by decide) (by decide)) dL_law_434 ?_
  refine zv_aldR (j := 4) G dL_law_435 rfl rfl ?_
  refine zv_iload (j := 0) G dL_law_436 rfl ?_
  refine zv_iconst (v := 3) G dL_law_438 (by decide) ?_
  refine zv_iadd G dL_law_439 ?_
  refine zv_scr G hX9 hbl hbA (hin 3 (by decide) (by decide)) dL_law_440 ?_
  refine zv_aldR (j := 4) G dL_law_441 rfl rfl ?_
  refine zv_iload (j := 0) G dL_law_442 rfl ?_
  refine zv_iconst (v := 4) G dL_law_444 (by decide) ?_
  refine zv_iadd G dL_law_445 ?_
  refine zv_scr G hX9 hbl hbA (hin 4 (by decide) (by decide)) dL_law_446 ?_
  refine zv_aldR (j := 4) G dL_law_447 rfl rfl ?_
  refine zv_iload (j := 0) G dL_law_448 rfl ?_
  refine zv_iconst (v := 5) G dL_law_450 (by decide) ?_
  refine zv_iadd G dL_law_451 ?_
  refine zv_scr G hX9 hbl hbA (hin 5 (by decide) (by decide)) dL_law_452 ?_
  refine zv_callVi (as := [za_I (xs (i + 1).toNatClampNeg), za_I (xs (i + 2).toNatClampNeg), za_I (xs (i + 3).toNatClampNeg), za_I (xs (i + 4).toNatClampNeg), za_I (xs (i + 5).toNatClampNeg)]) G (by decide) rfl rfl (zc_X10_adds l E (xs (i + 1).toNatClampNeg) (xs (i + 2).toNatClampNeg) (xs (i + 3).toNatClampNeg) (xs (i + 4).toNatClampNeg) (xs (i + 5).toNatClampNeg) σ1 z1.1) zk_X10_adds zm_1359 rfl ⟨(Nat.le_of_ble_eq_true rfl), (Nat.le_of_ble_eq_true rfl)⟩ ⟨hc1, hc2⟩ (Nat.le_of_ble_eq_true rfl) dL_law_453 (fun r2 σ2 h2 => ?_)
  have z2 := zI_m z1 h2
  refine zv_popI G dL_law_456 ?_
  refine zv_goto (tgt := 1772) G dL_law_457 (by decide) ?_
  refine zv_wid (Nat.le_succ cells) (Nat.le_add_right slots 6) ?_
  exact kk σ2 z2
set_option maxHeartbeats 4000000 in
set_option maxRecDepth 100000 in
theorem zl_5 (hl : l.stackTraces = false) (G : zC p s m args meth c cL_law RL 8 E A) (hX : zX E s s.heap) (hX9 : va_X b L xs s s.heap) (hbl : b < s.heap.size) (hbA : ¬ A b) (hin : ∀ x : Int32, 0 ≤ x.toInt → x.toInt ≤ 5 → vp_in (i + x) L) (hc : cells + 1 ≤ room_1.cells ∧ slots + 6 ≤ room_1.slots) (hz : zI σ) (kk : ∀ σ' : za_S, zI σ' → zV p l e room_1 s m args below meth c E A 8 (cells + 1) (slots + 6) Q 1772 [(4, za_I i), (3, za_O 29 193), (2, za_O 19 93), (1, za_O 0 0), (0, za_O 52 (b + 1))] [] σ') : zV p l e room_1 s m args below meth c E A 8 cells slots Q 460 [(4, za_I i), (3, za_O 29 193), (2, za_O 19 93), (1, za_O 0 0), (0, za_O 52 (b + 1))] [] σ := by
  have hc1 : cells ≤ room_1.cells := by omega
  have hc2 : slots ≤ room_1.slots := by omega
  refine zv_aload_n (j := 3) G dL_law_460 rfl rfl ?_
  refine zv_aldR (j := 4) G dL_law_461 rfl rfl ?_
  refine zv_iload (j := 0) G dL_law_462 rfl ?_
  refine zv_iconst (v := 1) G dL_law_464 (by decide) ?_
  refine zv_iadd G dL_law_465 ?_
  refine zv_scr G hX9 hbl hbA (hin 1 (by decide) (by decide)) dL_law_466 ?_
  refine zv_aldR (j := 4) G dL_law_467 rfl rfl ?_
  refine zv_iload (j := 0) G dL_law_468 rfl ?_
  refine zv_iconst (v := 2) G dL_law_470 (by decide) ?_
  refine zv_iadd G dL_law_471 ?_
  refine zv_scr G hX9 hbl hbA (hin 2 (by decide) (by decide)) dL_law_472 ?_
  refine zv_aldR (j := 4) G dL_law_473 rfl rfl ?_
  refine zv_iload (j := 0) G dL_law_474 rfl ?_
  refine zv_iconst (v := 3) G dL_law_476 (by decide) ?_
  refine zv_iadd G dL_law_477 ?_
  refine zv_scr G hX9 hbl hbA (hin 3 (by decide) (by decide)) dL_law_478 ?_
  refine zv_aldR (j := 4) G dL_law_479 rfl rfl ?_
  refine zv_iload (j := 0) G dL_law_480 rfl ?_
  refine zv_iconst (v := 4) G dL_law_482 (by decide) ?_
  refine zv_iadd G dL_law_483 ?_
  refine zv_scr G hX9 hbl hbA (hin 4 (by decide) (by decide)) dL_law_484 ?_
  refine zv_aldR (j := 4) G dL_law_485 rfl rfl ?_
  refine zv_iload (j := 0) G dL_law_486 rfl ?_
  refine zv_iconst (v := 5) G dL_law_488 (by decide) ?_
  refine zv_iadd G dL_law_489 ?_
  refine zv_scr G hX9 hbl hbA (hin 5 (by decide) (by decide)) dL_law_490 ?_
  refine zv_callVi (as := [za_I (xs (i + 1).toNatClampNeg), za_I (xs (i + 2).toNatClampNeg), za_I (xs (i + 3).toNatClampNeg), za_I (xs (i + 4).toNatClampNeg), za_I (xs (i + 5).toNatClampNeg)]) G (by decide) rfl rfl (zc_X9_sets l E (xs (i + 1).toNatClampNeg) (xs (i + 2).toNatClampNeg) (xs (i + 3).toNatClampNeg) (xs (i + 4).toNatClampNeg) (xs (i + 5).toNatClampNeg) σ ) zk_X9_sets zm_501 rfl ⟨(Nat.le_of_ble_eq_true rfl), (Nat.le_of_ble_eq_true rfl)⟩ ⟨hc1, hc2⟩ (Nat.le_of_ble_eq_true rfl) dL_law_491 (fun r1 σ1 h1 => ?_)
  have z1 := zI_c hz h1
  refine zv_popI G dL_law_494 ?_
  refine zv_aload_n (j := 2) G dL_law_495 rfl rfl ?_
  refine zv_aldR (j := 4) G dL_law_496 rfl rfl ?_
  refine zv_iload (j := 0) G dL_law_497 rfl ?_
  refine zv_iconst (v := 1) G dL_law_499 (by decide) ?_
  refine zv_iadd G dL_law_500 ?_
  refine zv_scr G hX9 hbl hbA (hin 1 (by decide) (by decide)) dL_law_501 ?_
  refine zv_aldR (j := 4) G dL_law_502 rfl rfl ?_
  refine zv_iload (j := 0) G dL_law_503 rfl ?_
  refine zv_iconst (v := 2) G dL_law_505 (by decide) ?_
  refine zv_iadd G dL_law_506 ?_
  refine zv_scr G hX9 hbl hbA (hin 2 (by decide) (by decide)) dL_law_507 ?_
  refine zv_aldR (j := 4) G dL_law_508 rfl rfl ?_
  refine zv_iload (j := 0) G dL_law_509 rfl ?_
  refine zv_iconst (v := 3) G dL_law_511 (by decide) ?_
  refine zv_iadd G dL_law_512 ?_
  refine zv_scr G hX9 hbl hbA (hin 3 (by decide) (by decide)) dL_law_513 ?_
  refine zv_aldR (j := 4) G dL_law_514 rfl rfl ?_
  refine zv_iload (j := 0) G dL_law_515 rfl ?_
  refine zv_iconst (v := 4) G dL_law_517 (by decide) ?_
  refine zv_iadd G dL_law_518 ?_
  refine zv_scr G hX9 hbl hbA (hin 4 (by decide) (by decide)) dL_law_519 ?_
  refine zv_aldR (j := 4) G dL_law_520 rfl rfl ?_
  refine zv_iload (j := 0) G dL_law_521 rfl ?_
  refine zv_iconst (v := 5) G dL_law_523 (by decide) ?_
  refine zv_iadd G dL_law_524 ?_
  refine zv_scr G hX9 hbl hbA (hin 5 (by decide) (by decide)) dL_law_525 ?_
  refine zv_callVi (as := [za_I (xs (i + 1).toNatClampNeg), za_I (xs (i + 2).toNatClampNeg), za_I (xs (i + 3).toNatClampNeg), za_I (xs (i + 4).toNatClampNeg), za_I (xs (i + 5).toNatClampNeg)]) G (by decide) rfl rfl (zc_X10_sets l E (xs (i + 1).toNatClampNeg) (xs (i + 2).toNatClampNeg) (xs (i + 3).toNatClampNeg) (xs (i + 4).toNatClampNeg) (xs (i + 5).toNatClampNeg) σ1 z1.1) zk_X10_sets zm_1399 rfl ⟨(Nat.le_of_ble_eq_true rfl), (Nat.le_of_ble_eq_true rfl)⟩ ⟨hc1, hc2⟩ (Nat.le_of_ble_eq_true rfl) dL_law_526 (fun r2 σ2 h2 => ?_)
  have z2 := zI_m z1 h2
  refine zv_popI G dL_law_529 ?_
  refine zv_goto (tgt := 1772) G dL_law_530 (by decide) ?_
  refine zv_wid (Nat.le_succ cells) (Nat.le_add_right slots 6) ?_
  exact kk σ2 z2
set_option maxHeartbeats 4000000 in
set_option maxRecDepth 100000 in
theorem zl_6 (hl : l.stackTraces = false) (G : zC p s m args meth c cL_law RL 8 E A) (hX : zX E s s.heap) (hX9 : va_X b L xs s s.heap) (hbl : b < s.heap.size) (hbA : ¬ A b) (hin : ∀ x : Int32, 0 ≤ x.toInt → x.toInt ≤ 5 → vp_in (i + x) L) (hc : cells + 1 ≤ room_1.cells ∧ slots + 6 ≤ room_1.slots) (hz : zI σ) (kk : ∀ σ' : za_S, zI σ' → zV p l e room_1 s m args below meth c E A 8 (cells + 1) (slots + 6) Q 1772 [(4, za_I i), (3, za_O 29 193), (2, za_O 19 93), (1, za_O 0 0), (0, za_O 52 (b + 1))] [] σ') : zV p l e room_1 s m args below meth c E A 8 cells slots Q 533 [(4, za_I i), (3, za_O 29 193), (2, za_O 19 93), (1, za_O 0 0), (0, za_O 52 (b + 1))] [] σ := by
  have hc1 : cells ≤ room_1.cells := by omega
  have hc2 : slots ≤ room_1.slots := by omega
  refine zv_aload_n (j := 3) G dL_law_533 rfl rfl ?_
  refine zv_aldR (j := 4) G dL_law_534 rfl rfl ?_
  refine zv_iload (j := 0) G dL_law_535 rfl ?_
  refine zv_iconst (v := 1) G dL_law_537 (by decide) ?_
  refine zv_iadd G dL_law_538 ?_
  refine zv_scr G hX9 hbl hbA (hin 1 (by decide) (by decide)) dL_law_539 ?_
  refine zv_aldR (j := 4) G dL_law_540 rfl rfl ?_
  refine zv_iload (j := 0) G dL_law_541 rfl ?_
  refine zv_iconst (v := 2) G dL_law_543 (by decide) ?_
  refine zv_iadd G dL_law_544 ?_
  refine zv_scr G hX9 hbl hbA (hin 2 (by decide) (by decide)) dL_law_545 ?_
  refine zv_aldR (j := 4) G dL_law_546 rfl rfl ?_
  refine zv_iload (j := 0) G dL_law_547 rfl ?_
  refine zv_iconst (v := 3) G dL_law_549 (by decide) ?_
  refine zv_iadd G dL_law_550 ?_
  refine zv_scr G hX9 hbl hbA (hin 3 (by decide) (by decide)) dL_law_551 ?_
  refine zv_aldR (j := 4) G dL_law_552 rfl rfl ?_
  refine zv_iload (j := 0) G dL_law_553 rfl ?_
  refine zv_iconst (v := 4) G dL_law_555 (by decide) ?_
  refine zv_iadd G dL_law_556 ?_
  refine zv_scr G hX9 hbl hbA (hin 4 (by decide) (by decide)) dL_law_557 ?_
  refine zv_callVi (as := [za_I (xs (i + 1).toNatClampNeg), za_I (xs (i + 2).toNatClampNeg), za_I (xs (i + 3).toNatClampNeg), za_I (xs (i + 4).toNatClampNeg)]) G (by decide) rfl rfl (zc_X9_refers l E (xs (i + 1).toNatClampNeg) (xs (i + 2).toNatClampNeg) (xs (i + 3).toNatClampNeg) (xs (i + 4).toNatClampNeg) σ ) zk_X9_refers zm_539 rfl ⟨(Nat.le_of_ble_eq_true rfl), (Nat.le_of_ble_eq_true rfl)⟩ ⟨hc1, hc2⟩ (Nat.le_of_ble_eq_true rfl) dL_law_558 (fun r1 σ1 h1 => ?_)
  have z1 := zI_c hz h1
  refine zv_popI G dL_law_561 ?_
  refine zv_aload_n (j := 2) G dL_law_562 rfl rfl ?_
  refine zv_aldR (j := 4) G dL_law_563 rfl rfl ?_
  refine zv_iload (j := 0) G dL_law_564 rfl ?_
  refine zv_iconst (v := 1) G dL_law_566 (by decide) ?_
  refine zv_iadd G dL_law_567 ?_
  refine zv_scr G hX9 hbl hbA (hin 1 (by decide) (by decide)) dL_law_568 ?_
  refine zv_aldR (j := 4) G dL_law_569 rfl rfl ?_
  refine zv_iload (j := 0) G dL_law_570 rfl ?_
  refine zv_iconst (v := 2) G dL_law_572 (by decide) ?_
  refine zv_iadd G dL_law_573 ?_
  refine zv_scr G hX9 hbl hbA (hin 2 (by decide) (by decide)) dL_law_574 ?_
  refine zv_aldR (j := 4) G dL_law_575 rfl rfl ?_
  refine zv_iload (j := 0) G dL_law_576 rfl ?_
  refine zv_iconst (v := 3) G dL_law_578 (by decide) ?_
  refine zv_iadd G dL_law_579 ?_
  refine zv_scr G hX9 hbl hbA (hin 3 (by decide) (by decide)) dL_law_580 ?_
  refine zv_aldR (j := 4) G dL_law_581 rfl rfl ?_
  refine zv_iload (j := 0) G dL_law_582 rfl ?_
  refine zv_iconst (v := 4) G dL_law_584 (by decide) ?_
  refine zv_iadd G dL_law_585 ?_
  refine zv_scr G hX9 hbl hbA (hin 4 (by decide) (by decide)) dL_law_586 ?_
  refine zv_callVi (as := [za_I (xs (i + 1).toNatClampNeg), za_I (xs (i + 2).toNatClampNeg), za_I (xs (i + 3).toNatClampNeg), za_I (xs (i + 4).toNatClampNeg)]) G (by decide) rfl rfl (zc_X10_refers l E (xs (i + 1).toNatClampNeg) (xs (i + 2).toNatClampNeg) (xs (i + 3).toNatClampNeg) (xs (i + 4).toNatClampNeg) σ1 z1.1) zk_X10_refers zm_1422 rfl ⟨(Nat.le_of_ble_eq_true rfl), (Nat.le_of_ble_eq_true rfl)⟩ ⟨hc1, hc2⟩ (Nat.le_of_ble_eq_true rfl) dL_law_587 (fun r2 σ2 h2 => ?_)
  have z2 := zI_m z1 h2
  refine zv_popI G dL_law_590 ?_
  refine zv_goto (tgt := 1772) G dL_law_591 (by decide) ?_
  refine zv_wid (Nat.le_succ cells) (Nat.le_add_right slots 6) ?_
  exact kk σ2 z2
set_option maxHeartbeats 4000000 in
set_option maxRecDepth 100000 in
theorem zl_7 (hl : l.stackTraces = false) (G : zC p s m args meth c cL_law RL 8 E A) (hX : zX E s s.heap) (hX9 : va_X b L xs s s.heap) (hbl : b < s.heap.size) (hbA : ¬ A b) (hin : ∀ x : Int32, 0 ≤ x.toInt → x.toInt ≤ 5 → vp_in (i + x) L) (hc : cells + 1 ≤ room_1.cells ∧ slots + 6 ≤ room_1.slots) (hz : zI σ) (kk : ∀ σ' : za_S, zI σ' → zV p l e room_1 s m args below meth c E A 8 (cells + 1) (slots + 6) Q 1772 [(4, za_I i), (3, za_O 29 193), (2, za_O 19 93), (1, za_O 0 0), (0, za_O 52 (b + 1))] [] σ') : zV p l e room_1 s m args below meth c E A 8 cells slots Q 594 [(4, za_I i), (3, za_O 29 193), (2, za_O 19 93), (1, za_O 0 0), (0, za_O 52 (b + 1))] [] σ := by
  have hc1 : cells ≤ room_1.cells := by omega
  have hc2 : slots ≤ room_1.slots := by omega
  refine zv_aload_n (j := 3) G dL_law_594 rfl rfl ?_
  refine zv_aldR (j := 4) G dL_law_595 rfl rfl ?_
  refine zv_iload (j := 0) G dL_law_596 rfl ?_
  refine zv_iconst (v := 1) G dL_law_598 (by decide) ?_
  refine zv_iadd G dL_law_599 ?_
  refine zv_scr G hX9 hbl hbA (hin 1 (by decide) (by decide)) dL_law_600 ?_
  refine zv_aldR (j := 4) G dL_law_601 rfl rfl ?_
  refine zv_iload (j := 0) G dL_law_602 rfl ?_
  refine zv_iconst (v := 2) G dL_law_604 (by decide) ?_
  refine zv_iadd G dL_law_605 ?_
  refine zv_scr G hX9 hbl hbA (hin 2 (by decide) (by decide)) dL_law_606 ?_
  refine zv_aldR (j := 4) G dL_law_607 rfl rfl ?_
  refine zv_iload (j := 0) G dL_law_608 rfl ?_
  refine zv_iconst (v := 3) G dL_law_610 (by decide) ?_
  refine zv_iadd G dL_law_611 ?_
  refine zv_scr G hX9 hbl hbA (hin 3 (by decide) (by decide)) dL_law_612 ?_
  refine zv_aldR (j := 4) G dL_law_613 rfl rfl ?_
  refine zv_iload (j := 0) G dL_law_614 rfl ?_
  refine zv_iconst (v := 4) G dL_law_616 (by decide) ?_
  refine zv_iadd G dL_law_617 ?_
  refine zv_scr G hX9 hbl hbA (hin 4 (by decide) (by decide)) dL_law_618 ?_
  refine zv_callVi (as := [za_I (xs (i + 1).toNatClampNeg), za_I (xs (i + 2).toNatClampNeg), za_I (xs (i + 3).toNatClampNeg), za_I (xs (i + 4).toNatClampNeg)]) G (by decide) rfl rfl (zc_X9_cuts l E (xs (i + 1).toNatClampNeg) (xs (i + 2).toNatClampNeg) (xs (i + 3).toNatClampNeg) (xs (i + 4).toNatClampNeg) σ ) zk_X9_cuts zm_560 rfl ⟨(Nat.le_of_ble_eq_true rfl), (Nat.le_of_ble_eq_true rfl)⟩ ⟨hc1, hc2⟩ (Nat.le_of_ble_eq_true rfl) dL_law_619 (fun r1 σ1 h1 => ?_)
  have z1 := zI_c hz h1
  refine zv_popI G dL_law_622 ?_
  refine zv_aload_n (j := 2) G dL_law_623 rfl rfl ?_
  refine zv_aldR (j := 4) G dL_law_624 rfl rfl ?_
  refine zv_iload (j := 0) G dL_law_625 rfl ?_
  refine zv_iconst (v := 1) G dL_law_627 (by decide) ?_
  refine zv_iadd G dL_law_628 ?_
  refine zv_scr G hX9 hbl hbA (hin 1 (by decide) (by decide)) dL_law_629 ?_
  refine zv_aldR (j := 4) G dL_law_630 rfl rfl ?_
  refine zv_iload (j := 0) G dL_law_631 rfl ?_
  refine zv_iconst (v := 2) G dL_law_633 (by decide) ?_
  refine zv_iadd G dL_law_634 ?_
  refine zv_scr G hX9 hbl hbA (hin 2 (by decide) (by decide)) dL_law_635 ?_
  refine zv_aldR (j := 4) G dL_law_636 rfl rfl ?_
  refine zv_iload (j := 0) G dL_law_637 rfl ?_
  refine zv_iconst (v := 3) G dL_law_639 (by decide) ?_
  refine zv_iadd G dL_law_640 ?_
  refine zv_scr G hX9 hbl hbA (hin 3 (by decide) (by decide)) dL_law_641 ?_
  refine zv_aldR (j := 4) G dL_law_642 rfl rfl ?_
  refine zv_iload (j := 0) G dL_law_643 rfl ?_
  refine zv_iconst (v := 4) G dL_law_645 (by decide) ?_
  refine zv_iadd G dL_law_646 ?_
  refine zv_scr G hX9 hbl hbA (hin 4 (by decide) (by decide)) dL_law_647 ?_
  refine zv_callVi (as := [za_I (xs (i + 1).toNatClampNeg), za_I (xs (i + 2).toNatClampNeg), za_I (xs (i + 3).toNatClampNeg), za_I (xs (i + 4).toNatClampNeg)]) G (by decide) rfl rfl (zc_X10_cuts l E (xs (i + 1).toNatClampNeg) (xs (i + 2).toNatClampNeg) (xs (i + 3).toNatClampNeg) (xs (i + 4).toNatClampNeg) σ1 z1.1) zk_X10_cuts zm_1434 rfl ⟨(Nat.le_of_ble_eq_true rfl), (Nat.le_of_ble_eq_true rfl)⟩ ⟨hc1, hc2⟩ (Nat.le_of_ble_eq_true rfl) dL_law_648 (fun r2 σ2 h2 => ?_)
  have z2 := zI_m z1 h2
  refine zv_popI G dL_law_651 ?_
  refine zv_goto (tgt := 1772) G dL_law_652 (by decide) ?_
  refine zv_wid (Nat.le_succ cells) (Nat.le_add_right slots 6) ?_
  exact kk σ2 z2
set_option maxHeartbeats 4000000 in
set_option maxRecDepth 100000 in
theorem zl_8 (hl : l.stackTraces = false) (G : zC p s m args meth c cL_law RL 8 E A) (hX : zX E s s.heap) (hX9 : va_X b L xs s s.heap) (hbl : b < s.heap.size) (hbA : ¬ A b) (hin : ∀ x : Int32, 0 ≤ x.toInt → x.toInt ≤ 5 → vp_in (i + x) L) (hc : cells + 1 ≤ room_1.cells ∧ slots + 6 ≤ room_1.slots) (hz : zI σ) (kk : ∀ σ' : za_S, zI σ' → zV p l e room_1 s m args below meth c E A 8 (cells + 1) (slots + 6) Q 1772 [(4, za_I i), (3, za_O 29 193), (2, za_O 19 93), (1, za_O 0 0), (0, za_O 52 (b + 1))] [] σ') : zV p l e room_1 s m args below meth c E A 8 cells slots Q 655 [(4, za_I i), (3, za_O 29 193), (2, za_O 19 93), (1, za_O 0 0), (0, za_O 52 (b + 1))] [] σ := by
  have hc1 : cells ≤ room_1.cells := by omega
  have hc2 : slots ≤ room_1.slots := by omega
  refine zv_aload_n (j := 3) G dL_law_655 rfl rfl ?_
  refine zv_aldR (j := 4) G dL_law_656 rfl rfl ?_
  refine zv_iload (j := 0) G dL_law_657 rfl ?_
  refine zv_iconst (v := 1) G dL_law_659 (by decide) ?_
  refine zv_iadd G dL_law_660 ?_
  refine zv_scr G hX9 hbl hbA (hin 1 (by decide) (by decide)) dL_law_661 ?_
  refine zv_aldR (j := 4) G dL_law_662 rfl rfl ?_
  refine zv_iload (j := 0) G dL_law_663 rfl ?_
  refine zv_iconst (v := 2) G dL_law_665 (by decide) ?_
  refine zv_iadd G dL_law_666 ?_
  refine zv_scr G hX9 hbl hbA (hin 2 (by decide) (by decide)) dL_law_667 ?_
  refine zv_aldR (j := 4) G dL_law_668 rfl rfl ?_
  refine zv_iload (j := 0) G dL_law_669 rfl ?_
  refine zv_iconst (v := 3) G dL_law_671 (by decide) ?_
  refine zv_iadd G dL_law_672 ?_
  refine zv_scr G hX9 hbl hbA (hin 3 (by decide) (by decide)) dL_law_673 ?_
  refine zv_callVi (as := [za_I (xs (i + 1).toNatClampNeg), za_I (xs (i + 2).toNatClampNeg), za_I (xs (i + 3).toNatClampNeg)]) G (by decide) rfl rfl (zc_X9_shifts l E (xs (i + 1).toNatClampNeg) (xs (i + 2).toNatClampNeg) (xs (i + 3).toNatClampNeg) σ ) zk_X9_shifts zm_613 rfl ⟨(Nat.le_of_ble_eq_true rfl), (Nat.le_of_ble_eq_true rfl)⟩ ⟨hc1, hc2⟩ (Nat.le_of_ble_eq_true rfl) dL_law_674 (fun r1 σ1 h1 => ?_)
  have z1 := zI_c hz h1
  refine zv_popI G dL_law_677 ?_
  refine zv_aload_n (j := 2) G dL_law_678 rfl rfl ?_
  refine zv_aldR (j := 4) G dL_law_679 rfl rfl ?_
  refine zv_iload (j := 0) G dL_law_680 rfl ?_
  refine zv_iconst (v := 1) G dL_law_682 (by decide) ?_
  refine zv_iadd G dL_law_683 ?_
  refine zv_scr G hX9 hbl hbA (hin 1 (by decide) (by decide)) dL_law_684 ?_
  refine zv_aldR (j := 4) G dL_law_685 rfl rfl ?_
  refine zv_iload (j := 0) G dL_law_686 rfl ?_
  refine zv_iconst (v := 2) G dL_law_688 (by decide) ?_
  refine zv_iadd G dL_law_689 ?_
  refine zv_scr G hX9 hbl hbA (hin 2 (by decide) (by decide)) dL_law_690 ?_
  refine zv_aldR (j := 4) G dL_law_691 rfl rfl ?_
  refine zv_iload (j := 0) G dL_law_692 rfl ?_
  refine zv_iconst (v := 3) G dL_law_694 (by decide) ?_
  refine zv_iadd G dL_law_695 ?_
  refine zv_scr G hX9 hbl hbA (hin 3 (by decide) (by decide)) dL_law_696 ?_
  refine zv_callVi (as := [za_I (xs (i + 1).toNatClampNeg), za_I (xs (i + 2).toNatClampNeg), za_I (xs (i + 3).toNatClampNeg)]) G (by decide) rfl rfl (zc_X10_shifts l E (xs (i + 1).toNatClampNeg) (xs (i + 2).toNatClampNeg) (xs (i + 3).toNatClampNeg) σ1 z1.1) zk_X10_shifts zm_1450 rfl ⟨(Nat.le_of_ble_eq_true rfl), (Nat.le_of_ble_eq_true rfl)⟩ ⟨hc1, hc2⟩ (Nat.le_of_ble_eq_true rfl) dL_law_697 (fun r2 σ2 h2 => ?_)
  have z2 := zI_m z1 h2
  refine zv_popI G dL_law_700 ?_
  refine zv_goto (tgt := 1772) G dL_law_701 (by decide) ?_
  refine zv_wid (Nat.le_succ cells) (Nat.le_add_right slots 6) ?_
  exact kk σ2 z2
set_option maxHeartbeats 4000000 in
set_option maxRecDepth 100000 in
theorem zl_9 (hl : l.stackTraces = false) (G : zC p s m args meth c cL_law RL 8 E A) (hX : zX E s s.heap) (hX9 : va_X b L xs s s.heap) (hbl : b < s.heap.size) (hbA : ¬ A b) (hin : ∀ x : Int32, 0 ≤ x.toInt → x.toInt ≤ 5 → vp_in (i + x) L) (hc : cells + 1 ≤ room_1.cells ∧ slots + 6 ≤ room_1.slots) (hz : zI σ) (kk : ∀ σ' : za_S, zI σ' → zV p l e room_1 s m args below meth c E A 8 (cells + 1) (slots + 6) Q 1772 [(4, za_I i), (3, za_O 29 193), (2, za_O 19 93), (1, za_O 0 0), (0, za_O 52 (b + 1))] [] σ') : zV p l e room_1 s m args below meth c E A 8 cells slots Q 704 [(4, za_I i), (3, za_O 29 193), (2, za_O 19 93), (1, za_O 0 0), (0, za_O 52 (b + 1))] [] σ := by
  have hc1 : cells ≤ room_1.cells := by omega
  have hc2 : slots ≤ room_1.slots := by omega
  refine zv_aload_n (j := 3) G dL_law_704 rfl rfl ?_
  refine zv_aldR (j := 4) G dL_law_705 rfl rfl ?_
  refine zv_iload (j := 0) G dL_law_706 rfl ?_
  refine zv_iconst (v := 1) G dL_law_708 (by decide) ?_
  refine zv_iadd G dL_law_709 ?_
  refine zv_scr G hX9 hbl hbA (hin 1 (by decide) (by decide)) dL_law_710 ?_
  refine zv_callVi (as := [za_I (xs (i + 1).toNatClampNeg)]) G (by decide) rfl rfl (zc_X9_joins l E (xs (i + 1).toNatClampNeg) σ ) zk_X9_joins zm_626 rfl ⟨(Nat.le_of_ble_eq_true rfl), (Nat.le_of_ble_eq_true rfl)⟩ ⟨hc1, hc2⟩ (Nat.le_of_ble_eq_true rfl) dL_law_711 (fun r1 σ1 h1 => ?_)
  have z1 := zI_c hz h1
  refine zv_popI G dL_law_714 ?_
  refine zv_aload_n (j := 2) G dL_law_715 rfl rfl ?_
  refine zv_aldR (j := 4) G dL_law_716 rfl rfl ?_
  refine zv_iload (j := 0) G dL_law_717 rfl ?_
  refine zv_iconst (v := 1) G dL_law_719 (by decide) ?_
  refine zv_iadd G dL_law_720 ?_
  refine zv_scr G hX9 hbl hbA (hin 1 (by decide) (by decide)) dL_law_721 ?_
  refine zv_callVi (as := [za_I (xs (i + 1).toNatClampNeg)]) G (by decide) rfl rfl (zc_X10_joins l E (xs (i + 1).toNatClampNeg) σ1 z1.1) zk_X10_joins zm_1459 rfl ⟨(Nat.le_of_ble_eq_true rfl), (Nat.le_of_ble_eq_true rfl)⟩ ⟨hc1, hc2⟩ (Nat.le_of_ble_eq_true rfl) dL_law_722 (fun r2 σ2 h2 => ?_)
  have z2 := zI_m z1 h2
  refine zv_popI G dL_law_725 ?_
  refine zv_goto (tgt := 1772) G dL_law_726 (by decide) ?_
  refine zv_wid (Nat.le_succ cells) (Nat.le_add_right slots 6) ?_
  exact kk σ2 z2
set_option maxHeartbeats 4000000 in
set_option maxRecDepth 100000 in
theorem zl_10 (hl : l.stackTraces = false) (G : zC p s m args meth c cL_law RL 8 E A) (hX : zX E s s.heap) (hX9 : va_X b L xs s s.heap) (hbl : b < s.heap.size) (hbA : ¬ A b) (hin : ∀ x : Int32, 0 ≤ x.toInt → x.toInt ≤ 5 → vp_in (i + x) L) (hc : cells + 1 ≤ room_1.cells ∧ slots + 6 ≤ room_1.slots) (hz : zI σ) (kk : ∀ σ' : za_S, zI σ' → zV p l e room_1 s m args below meth c E A 8 (cells + 1) (slots + 6) Q 1772 [(4, za_I i), (3, za_O 29 193), (2, za_O 19 93), (1, za_O 0 0), (0, za_O 52 (b + 1))] [] σ') : zV p l e room_1 s m args below meth c E A 8 cells slots Q 729 [(4, za_I i), (3, za_O 29 193), (2, za_O 19 93), (1, za_O 0 0), (0, za_O 52 (b + 1))] [] σ := by
  have hc1 : cells ≤ room_1.cells := by omega
  have hc2 : slots ≤ room_1.slots := by omega
  refine zv_aload_n (j := 3) G dL_law_729 rfl rfl ?_
  refine zv_aldR (j := 4) G dL_law_730 rfl rfl ?_
  refine zv_iload (j := 0) G dL_law_731 rfl ?_
  refine zv_iconst (v := 1) G dL_law_733 (by decide) ?_
  refine zv_iadd G dL_law_734 ?_
  refine zv_scr G hX9 hbl hbA (hin 1 (by decide) (by decide)) dL_law_735 ?_
  refine zv_callVi (as := [za_I (xs (i + 1).toNatClampNeg)]) G (by decide) rfl rfl (zc_X9_way l E (xs (i + 1).toNatClampNeg) σ ) zk_X9_way zm_650 rfl ⟨(Nat.le_of_ble_eq_true rfl), (Nat.le_of_ble_eq_true rfl)⟩ ⟨hc1, hc2⟩ (Nat.le_of_ble_eq_true rfl) dL_law_736 (fun r1 σ1 h1 => ?_)
  have z1 := zI_c hz h1
  refine zv_popI G dL_law_739 ?_
  refine zv_aload_n (j := 2) G dL_law_740 rfl rfl ?_
  refine zv_aldR (j := 4) G dL_law_741 rfl rfl ?_
  refine zv_iload (j := 0) G dL_law_742 rfl ?_
  refine zv_iconst (v := 1) G dL_law_744 (by decide) ?_
  refine zv_iadd G dL_law_745 ?_
  refine zv_scr G hX9 hbl hbA (hin 1 (by decide) (by decide)) dL_law_746 ?_
  refine zv_callVi (as := [za_I (xs (i + 1).toNatClampNeg)]) G (by decide) rfl rfl (zc_X10_way l E (xs (i + 1).toNatClampNeg) σ1 z1.1) zk_X10_way zm_1466 rfl ⟨(Nat.le_of_ble_eq_true rfl), (Nat.le_of_ble_eq_true rfl)⟩ ⟨hc1, hc2⟩ (Nat.le_of_ble_eq_true rfl) dL_law_747 (fun r2 σ2 h2 => ?_)
  have z2 := zI_m z1 h2
  refine zv_popI G dL_law_750 ?_
  refine zv_goto (tgt := 1772) G dL_law_751 (by decide) ?_
  refine zv_wid (Nat.le_succ cells) (Nat.le_add_right slots 6) ?_
  exact kk σ2 z2
set_option maxHeartbeats 4000000 in
set_option maxRecDepth 100000 in
theorem zl_11 (hl : l.stackTraces = false) (G : zC p s m args meth c cL_law RL 8 E A) (hX : zX E s s.heap) (hX9 : va_X b L xs s s.heap) (hbl : b < s.heap.size) (hbA : ¬ A b) (hin : ∀ x : Int32, 0 ≤ x.toInt → x.toInt ≤ 5 → vp_in (i + x) L) (hc : cells + 1 ≤ room_1.cells ∧ slots + 6 ≤ room_1.slots) (hz : zI σ) (kk : ∀ σ' : za_S, zI σ' → zV p l e room_1 s m args below meth c E A 8 (cells + 1) (slots + 6) Q 1772 [(4, za_I i), (3, za_O 29 193), (2, za_O 19 93), (1, za_O 0 0), (0, za_O 52 (b + 1))] [] σ') : zV p l e room_1 s m args below meth c E A 8 cells slots Q 754 [(4, za_I i), (3, za_O 29 193), (2, za_O 19 93), (1, za_O 0 0), (0, za_O 52 (b + 1))] [] σ := by
  have hc1 : cells ≤ room_1.cells := by omega
  have hc2 : slots ≤ room_1.slots := by omega
  refine zv_aload_n (j := 3) G dL_law_754 rfl rfl ?_
  refine zv_callVi (as := []) G (by decide) rfl rfl (zc_X9_work l E  σ ) zk_X9_work zm_658 rfl ⟨(Nat.le_of_ble_eq_true rfl), (Nat.le_of_ble_eq_true rfl)⟩ ⟨hc1, hc2⟩ (Nat.le_of_ble_eq_true rfl) dL_law_755 (fun r1 σ1 h1 => ?_)
  refine zv_popI G dL_law_758 ?_
  refine zv_aload_n (j := 2) G dL_law_759 rfl rfl ?_
  refine zv_callVi (as := []) G (by decide) rfl rfl (zc_X10_work l E  σ1 (zJ_c h1.1.1 hz.1)) zk_X10_work zm_1474 rfl ⟨(Nat.le_of_ble_eq_true rfl), (Nat.le_of_ble_eq_true rfl)⟩ ⟨hc1, hc2⟩ (Nat.le_of_ble_eq_true rfl) dL_law_760 (fun r2 σ2 h2 => ?_)
  have z2 := zI_work hz h1 h2
  refine zv_popI G dL_law_763 ?_
  refine zv_goto (tgt := 1772) G dL_law_764 (by decide) ?_
  refine zv_wid (Nat.le_succ cells) (Nat.le_add_right slots 6) ?_
  exact kk σ2 z2
set_option maxHeartbeats 4000000 in
set_option maxRecDepth 100000 in
theorem zl_12 (hl : l.stackTraces = false) (G : zC p s m args meth c cL_law RL 8 E A) (hX : zX E s s.heap) (hX9 : va_X b L xs s s.heap) (hbl : b < s.heap.size) (hbA : ¬ A b) (hin : ∀ x : Int32, 0 ≤ x.toInt → x.toInt ≤ 5 → vp_in (i + x) L) (hc : cells + 1 ≤ room_1.cells ∧ slots + 6 ≤ room_1.slots) (hz : zI σ) (kk : ∀ σ' : za_S, zI σ' → zV p l e room_1 s m args below meth c E A 8 (cells + 1) (slots + 6) Q 1772 [(4, za_I i), (3, za_O 29 193), (2, za_O 19 93), (1, za_O 0 0), (0, za_O 52 (b + 1))] [] σ') : zV p l e room_1 s m args below meth c E A 8 cells slots Q 767 [(4, za_I i), (3, za_O 29 193), (2, za_O 19 93), (1, za_O 0 0), (0, za_O 52 (b + 1))] [] σ := by
  have hc1 : cells ≤ room_1.cells := by omega
  have hc2 : slots ≤ room_1.slots := by omega
  refine zv_aload_n (j := 3) G dL_law_767 rfl rfl ?_
  refine zv_callVi (as := []) G (by decide) rfl rfl (zc_X9_undo l E  σ ) zk_X9_undo zm_757 rfl ⟨(Nat.le_of_ble_eq_true rfl), (Nat.le_of_ble_eq_true rfl)⟩ ⟨hc1, hc2⟩ (Nat.le_of_ble_eq_true rfl) dL_law_768 (fun r1 σ1 h1 => ?_)
  have z1 := zI_c hz h1
  refine zv_popI G dL_law_771 ?_
  refine zv_aload_n (j := 2) G dL_law_772 rfl rfl ?_
  refine zv_callVi (as := []) G (by decide) rfl rfl (zc_X10_undo l E  σ1 z1.1) zk_X10_undo zm_1301 rfl ⟨(Nat.le_of_ble_eq_true rfl), (Nat.le_of_ble_eq_true rfl)⟩ ⟨hc1, hc2⟩ (Nat.le_of_ble_eq_true rfl) dL_law_773 (fun r2 σ2 h2 => ?_)
  have z2 := zI_m z1 h2
  refine zv_popI G dL_law_776 ?_
  refine zv_goto (tgt := 1772) G dL_law_777 (by decide) ?_
  refine zv_wid (Nat.le_succ cells) (Nat.le_add_right slots 6) ?_
  exact kk σ2 z2
set_option maxHeartbeats 4000000 in
set_option maxRecDepth 100000 in
theorem zl_13 (hl : l.stackTraces = false) (G : zC p s m args meth c cL_law RL 8 E A) (hX : zX E s s.heap) (hX9 : va_X b L xs s s.heap) (hbl : b < s.heap.size) (hbA : ¬ A b) (hin : ∀ x : Int32, 0 ≤ x.toInt → x.toInt ≤ 5 → vp_in (i + x) L) (hc : cells + 1 ≤ room_1.cells ∧ slots + 6 ≤ room_1.slots) (hz : zI σ) (kk : ∀ σ' : za_S, zI σ' → zV p l e room_1 s m args below meth c E A 8 (cells + 1) (slots + 6) Q 1772 [(4, za_I i), (3, za_O 29 193), (2, za_O 19 93), (1, za_O 0 0), (0, za_O 52 (b + 1))] [] σ') : zV p l e room_1 s m args below meth c E A 8 cells slots Q 780 [(4, za_I i), (3, za_O 29 193), (2, za_O 19 93), (1, za_O 0 0), (0, za_O 52 (b + 1))] [] σ := by
  have hc1 : cells ≤ room_1.cells := by omega
  have hc2 : slots ≤ room_1.slots := by omega
  refine zv_aload_n (j := 3) G dL_law_780 rfl rfl ?_
  refine zv_aldR (j := 4) G dL_law_781 rfl rfl ?_
  refine zv_iload (j := 0) G dL_law_782 rfl ?_
  refine zv_iconst (v := 1) G dL_law_784 (by decide) ?_
  refine zv_iadd G dL_law_785 ?_
  refine zv_scr G hX9 hbl hbA (hin 1 (by decide) (by decide)) dL_law_786 ?_
  refine zv_aldR (j := 4) G dL_law_787 rfl rfl ?_
  refine zv_iload (j := 0) G dL_law_788 rfl ?_
  refine zv_iconst (v := 2) G dL_law_790 (by decide) ?_
  refine zv_iadd G dL_law_791 ?_
  refine zv_scr G hX9 hbl hbA (hin 2 (by decide) (by decide)) dL_law_792 ?_
  refine zv_aldR (j := 4) G dL_law_793 rfl rfl ?_
  refine zv_iload (j := 0) G dL_law_794 rfl ?_
  refine zv_iconst (v := 3) G dL_law_796 (by decide) ?_
  refine zv_iadd G dL_law_797 ?_
  refine zv_scr G hX9 hbl hbA (hin 3 (by decide) (by decide)) dL_law_798 ?_
  refine zv_callVi (as := [za_I (xs (i + 1).toNatClampNeg), za_I (xs (i + 2).toNatClampNeg), za_I (xs (i + 3).toNatClampNeg)]) G (by decide) rfl rfl (zc_X9_at l E (xs (i + 1).toNatClampNeg) (xs (i + 2).toNatClampNeg) (xs (i + 3).toNatClampNeg) σ ) zk_X9_at zm_762 rfl ⟨(Nat.le_of_ble_eq_true rfl), (Nat.le_of_ble_eq_true rfl)⟩ ⟨hc1, hc2⟩ (Nat.le_of_ble_eq_true rfl) dL_law_799 (fun r1 σ1 h1 => ?_)
  have z1 := zI_c hz h1
  refine zv_popI G dL_law_802 ?_
  refine zv_aload_n (j := 2) G dL_law_803 rfl rfl ?_
  refine zv_aldR (j := 4) G dL_law_804 rfl rfl ?_
  refine zv_iload (j := 0) G dL_law_805 rfl ?_
  refine zv_iconst (v := 1) G dL_law_807 (by decide) ?_
  refine zv_iadd G dL_law_808 ?_
  refine zv_scr G hX9 hbl hbA (hin 1 (by decide) (by decide)) dL_law_809 ?_
  refine zv_aldR (j := 4) G dL_law_810 rfl rfl ?_
  refine zv_iload (j := 0) G dL_law_811 rfl ?_
  refine zv_iconst (v := 2) G dL_law_813 (by decide) ?_
  refine zv_iadd G dL_law_814 ?_
  refine zv_scr G hX9 hbl hbA (hin 2 (by decide) (by decide)) dL_law_815 ?_
  refine zv_aldR (j := 4) G dL_law_816 rfl rfl ?_
  refine zv_iload (j := 0) G dL_law_817 rfl ?_
  refine zv_iconst (v := 3) G dL_law_819 (by decide) ?_
  refine zv_iadd G dL_law_820 ?_
  refine zv_scr G hX9 hbl hbA (hin 3 (by decide) (by decide)) dL_law_821 ?_
  refine zv_callVi (as := [za_I (xs (i + 1).toNatClampNeg), za_I (xs (i + 2).toNatClampNeg), za_I (xs (i + 3).toNatClampNeg)]) G (by decide) rfl rfl (zc_X10_at l E (xs (i + 1).toNatClampNeg) (xs (i + 2).toNatClampNeg) (xs (i + 3).toNatClampNeg) σ1 z1.1) zk_X10_at zm_1525 rfl ⟨(Nat.le_of_ble_eq_true rfl), (Nat.le_of_ble_eq_true rfl)⟩ ⟨hc1, hc2⟩ (Nat.le_of_ble_eq_true rfl) dL_law_822 (fun r2 σ2 h2 => ?_)
  have z2 := zI_q z1 h2
  refine zv_popI G dL_law_825 ?_
  refine zv_goto (tgt := 1772) G dL_law_826 (by decide) ?_
  refine zv_wid (Nat.le_succ cells) (Nat.le_add_right slots 6) ?_
  exact kk σ2 z2
set_option maxHeartbeats 4000000 in
set_option maxRecDepth 100000 in
theorem zl_14 (hl : l.stackTraces = false) (G : zC p s m args meth c cL_law RL 8 E A) (hX : zX E s s.heap) (hX9 : va_X b L xs s s.heap) (hbl : b < s.heap.size) (hbA : ¬ A b) (hin : ∀ x : Int32, 0 ≤ x.toInt → x.toInt ≤ 5 → vp_in (i + x) L) (hc : cells + 1 ≤ room_1.cells ∧ slots + 6 ≤ room_1.slots) (hz : zI σ) (kk : ∀ σ' : za_S, zI σ' → zV p l e room_1 s m args below meth c E A 8 (cells + 1) (slots + 6) Q 1772 [(4, za_I i), (3, za_O 29 193), (2, za_O 19 93), (1, za_O 0 0), (0, za_O 52 (b + 1))] [] σ') : zV p l e room_1 s m args below meth c E A 8 cells slots Q 829 [(4, za_I i), (3, za_O 29 193), (2, za_O 19 93), (1, za_O 0 0), (0, za_O 52 (b + 1))] [] σ := by
  have hc1 : cells ≤ room_1.cells := by omega
  have hc2 : slots ≤ room_1.slots := by omega
  refine zv_aload_n (j := 3) G dL_law_829 rfl rfl ?_
  refine zv_aldR (j := 4) G dL_law_830 rfl rfl ?_
  refine zv_iload (j := 0) G dL_law_831 rfl ?_
  refine zv_iconst (v := 1) G dL_law_833 (by decide) ?_
  refine zv_iadd G dL_law_834 ?_
  refine zv_scr G hX9 hbl hbA (hin 1 (by decide) (by decide)) dL_law_835 ?_
  refine zv_aldR (j := 4) G dL_law_836 rfl rfl ?_
  refine zv_iload (j := 0) G dL_law_837 rfl ?_
  refine zv_iconst (v := 2) G dL_law_839 (by decide) ?_
  refine zv_iadd G dL_law_840 ?_
  refine zv_scr G hX9 hbl hbA (hin 2 (by decide) (by decide)) dL_law_841 ?_
  refine zv_callVi (as := [za_I (xs (i + 1).toNatClampNeg), za_I (xs (i + 2).toNatClampNeg)]) G (by decide) rfl rfl (zc_X9_slice l E (xs (i + 1).toNatClampNeg) (xs (i + 2).toNatClampNeg) σ ) zk_X9_slice zm_772 rfl ⟨(Nat.le_of_ble_eq_true rfl), (Nat.le_of_ble_eq_true rfl)⟩ ⟨hc1, hc2⟩ (Nat.le_of_ble_eq_true rfl) dL_law_842 (fun r1 σ1 h1 => ?_)
  have z1 := zI_c hz h1
  refine zv_popI G dL_law_845 ?_
  refine zv_aload_n (j := 2) G dL_law_846 rfl rfl ?_
  refine zv_aldR (j := 4) G dL_law_847 rfl rfl ?_
  refine zv_iload (j := 0) G dL_law_848 rfl ?_
  refine zv_iconst (v := 1) G dL_law_850 (by decide) ?_
  refine zv_iadd G dL_law_851 ?_
  refine zv_scr G hX9 hbl hbA (hin 1 (by decide) (by decide)) dL_law_852 ?_
  refine zv_aldR (j := 4) G dL_law_853 rfl rfl ?_
  refine zv_iload (j := 0) G dL_law_854 rfl ?_
  refine zv_iconst (v := 2) G dL_law_856 (by decide) ?_
  refine zv_iadd G dL_law_857 ?_
  refine zv_scr G hX9 hbl hbA (hin 2 (by decide) (by decide)) dL_law_858 ?_
  refine zv_callVi (as := [za_I (xs (i + 1).toNatClampNeg), za_I (xs (i + 2).toNatClampNeg)]) G (by decide) rfl rfl (zc_X10_slice l E (xs (i + 1).toNatClampNeg) (xs (i + 2).toNatClampNeg) σ1 z1.1) zk_X10_slice zm_1532 rfl ⟨(Nat.le_of_ble_eq_true rfl), (Nat.le_of_ble_eq_true rfl)⟩ ⟨hc1, hc2⟩ (Nat.le_of_ble_eq_true rfl) dL_law_859 (fun r2 σ2 h2 => ?_)
  have z2 := zI_q z1 h2
  refine zv_popI G dL_law_862 ?_
  refine zv_goto (tgt := 1772) G dL_law_863 (by decide) ?_
  refine zv_wid (Nat.le_succ cells) (Nat.le_add_right slots 6) ?_
  exact kk σ2 z2
set_option maxHeartbeats 4000000 in
set_option maxRecDepth 100000 in
theorem zl_15 (hl : l.stackTraces = false) (G : zC p s m args meth c cL_law RL 8 E A) (hX : zX E s s.heap) (hX9 : va_X b L xs s s.heap) (hbl : b < s.heap.size) (hbA : ¬ A b) (hin : ∀ x : Int32, 0 ≤ x.toInt → x.toInt ≤ 5 → vp_in (i + x) L) (hc : cells + 1 ≤ room_1.cells ∧ slots + 6 ≤ room_1.slots) (hz : zI σ) (kk : ∀ σ' : za_S, zI σ' → zV p l e room_1 s m args below meth c E A 8 (cells + 1) (slots + 6) Q 1772 [(4, za_I i), (3, za_O 29 193), (2, za_O 19 93), (1, za_O 0 0), (0, za_O 52 (b + 1))] [] σ') : zV p l e room_1 s m args below meth c E A 8 cells slots Q 866 [(4, za_I i), (3, za_O 29 193), (2, za_O 19 93), (1, za_O 0 0), (0, za_O 52 (b + 1))] [] σ := by
  have hc1 : cells ≤ room_1.cells := by omega
  have hc2 : slots ≤ room_1.slots := by omega
  refine zv_aload_n (j := 3) G dL_law_866 rfl rfl ?_
  refine zv_aldR (j := 4) G dL_law_867 rfl rfl ?_
  refine zv_iload (j := 0) G dL_law_868 rfl ?_
  refine zv_iconst (v := 1) G dL_law_870 (by decide) ?_
  refine zv_iadd G dL_law_871 ?_
  refine zv_scr G hX9 hbl hbA (hin 1 (by decide) (by decide)) dL_law_872 ?_
  refine zv_aldR (j := 4) G dL_law_873 rfl rfl ?_
  refine zv_iload (j := 0) G dL_law_874 rfl ?_
  refine zv_iconst (v := 2) G dL_law_876 (by decide) ?_
  refine zv_iadd G dL_law_877 ?_
  refine zv_scr G hX9 hbl hbA (hin 2 (by decide) (by decide)) dL_law_878 ?_
  refine zv_aldR (j := 4) G dL_law_879 rfl rfl ?_
  refine zv_iload (j := 0) G dL_law_880 rfl ?_
  refine zv_iconst (v := 3) G dL_law_882 (by decide) ?_
  refine zv_iadd G dL_law_883 ?_
  refine zv_scr G hX9 hbl hbA (hin 3 (by decide) (by decide)) dL_law_884 ?_
  refine zv_aldR (j := 4) G dL_law_885 rfl rfl ?_
  refine zv_iload (j := 0) G dL_law_886 rfl ?_
  refine zv_iconst (v := 4) G dL_law_888 (by decide) ?_
  refine zv_iadd G dL_law_889 ?_
  refine zv_scr G hX9 hbl hbA (hin 4 (by decide) (by decide)) dL_law_890 ?_
  refine zv_callVi (as := [za_I (xs (i + 1).toNatClampNeg), za_I (xs (i + 2).toNatClampNeg), za_I (xs (i + 3).toNatClampNeg), za_I (xs (i + 4).toNatClampNeg)]) G (by decide) rfl rfl (zc_X9_gaps l E (xs (i + 1).toNatClampNeg) (xs (i + 2).toNatClampNeg) (xs (i + 3).toNatClampNeg) (xs (i + 4).toNatClampNeg) σ ) zk_X9_gaps zm_779 rfl ⟨(Nat.le_of_ble_eq_true rfl), (Nat.le_of_ble_eq_true rfl)⟩ ⟨hc1, hc2⟩ (Nat.le_of_ble_eq_true rfl) dL_law_891 (fun r1 σ1 h1 => ?_)
  have z1 := zI_c hz h1
  refine zv_popI G dL_law_894 ?_
  refine zv_aload_n (j := 2) G dL_law_895 rfl rfl ?_
  refine zv_aldR (j := 4) G dL_law_896 rfl rfl ?_
  refine zv_iload (j := 0) G dL_law_897 rfl ?_
  refine zv_iconst (v := 1) G dL_law_899 (by decide) ?_
  refine zv_iadd G dL_law_900 ?_
  refine zv_scr G hX9 hbl hbA (hin 1 (by decide) (by decide)) dL_law_901 ?_
  refine zv_aldR (j := 4) G dL_law_902 rfl rfl ?_
  refine zv_iload (j := 0) G dL_law_903 rfl ?_
  refine zv_iconst (v := 2) G dL_law_905 (by decide) ?_
  refine zv_iadd G dL_law_906 ?_
  refine zv_scr G hX9 hbl hbA (hin 2 (by decide) (by decide)) dL_law_907 ?_
  refine zv_aldR (j := 4) G dL_law_908 rfl rfl ?_
  refine zv_iload (j := 0) G dL_law_909 rfl ?_
  refine zv_iconst (v := 3) G dL_law_911 (by decide) ?_
  refine zv_iadd G dL_law_912 ?_
  refine zv_scr G hX9 hbl hbA (hin 3 (by decide) (by decide)) dL_law_913 ?_
  refine zv_aldR (j := 4) G dL_law_914 rfl rfl ?_
  refine zv_iload (j := 0) G dL_law_915 rfl ?_
  refine zv_iconst (v := 4) G dL_law_917 (by decide) ?_
  refine zv_iadd G dL_law_918 ?_
  refine zv_scr G hX9 hbl hbA (hin 4 (by decide) (by decide)) dL_law_919 ?_
  refine zv_callVi (as := [za_I (xs (i + 1).toNatClampNeg), za_I (xs (i + 2).toNatClampNeg), za_I (xs (i + 3).toNatClampNeg), za_I (xs (i + 4).toNatClampNeg)]) G (by decide) rfl rfl (zc_X10_gaps l E (xs (i + 1).toNatClampNeg) (xs (i + 2).toNatClampNeg) (xs (i + 3).toNatClampNeg) (xs (i + 4).toNatClampNeg) σ1 z1.1) zk_X10_gaps zm_1536 rfl ⟨(Nat.le_of_ble_eq_true rfl), (Nat.le_of_ble_eq_true rfl)⟩ ⟨hc1, hc2⟩ (Nat.le_of_ble_eq_true rfl) dL_law_920 (fun r2 σ2 h2 => ?_)
  have z2 := zI_q z1 h2
  refine zv_popI G dL_law_923 ?_
  refine zv_goto (tgt := 1772) G dL_law_924 (by decide) ?_
  refine zv_wid (Nat.le_succ cells) (Nat.le_add_right slots 6) ?_
  exact kk σ2 z2
set_option maxHeartbeats 4000000 in
set_option maxRecDepth 100000 in
theorem zl_16 (hl : l.stackTraces = false) (G : zC p s m args meth c cL_law RL 8 E A) (hX : zX E s s.heap) (hX9 : va_X b L xs s s.heap) (hbl : b < s.heap.size) (hbA : ¬ A b) (hin : ∀ x : Int32, 0 ≤ x.toInt → x.toInt ≤ 5 → vp_in (i + x) L) (hc : cells + 1 ≤ room_1.cells ∧ slots + 6 ≤ room_1.slots) (hz : zI σ) (kk : ∀ σ' : za_S, zI σ' → zV p l e room_1 s m args below meth c E A 8 (cells + 1) (slots + 6) Q 1772 [(4, za_I i), (3, za_O 29 193), (2, za_O 19 93), (1, za_O 0 0), (0, za_O 52 (b + 1))] [] σ') : zV p l e room_1 s m args below meth c E A 8 cells slots Q 927 [(4, za_I i), (3, za_O 29 193), (2, za_O 19 93), (1, za_O 0 0), (0, za_O 52 (b + 1))] [] σ := by
  have hc1 : cells ≤ room_1.cells := by omega
  have hc2 : slots ≤ room_1.slots := by omega
  refine zv_aload_n (j := 3) G dL_law_927 rfl rfl ?_
  refine zv_aldR (j := 4) G dL_law_928 rfl rfl ?_
  refine zv_iload (j := 0) G dL_law_929 rfl ?_
  refine zv_iconst (v := 1) G dL_law_931 (by decide) ?_
  refine zv_iadd G dL_law_932 ?_
  refine zv_scr G hX9 hbl hbA (hin 1 (by decide) (by decide)) dL_law_933 ?_
  refine zv_aldR (j := 4) G dL_law_934 rfl rfl ?_
  refine zv_iload (j := 0) G dL_law_935 rfl ?_
  refine zv_iconst (v := 2) G dL_law_937 (by decide) ?_
  refine zv_iadd G dL_law_938 ?_
  refine zv_scr G hX9 hbl hbA (hin 2 (by decide) (by decide)) dL_law_939 ?_
  refine zv_aldR (j := 4) G dL_law_940 rfl rfl ?_
  refine zv_iload (j := 0) G dL_law_941 rfl ?_
  refine zv_iconst (v := 3) G dL_law_943 (by decide) ?_
  refine zv_iadd G dL_law_944 ?_
  refine zv_scr G hX9 hbl hbA (hin 3 (by decide) (by decide)) dL_law_945 ?_
  refine zv_callVi (as := [za_I (xs (i + 1).toNatClampNeg), za_I (xs (i + 2).toNatClampNeg), za_I (xs (i + 3).toNatClampNeg)]) G (by decide) rfl rfl (zc_X9_covers l E (xs (i + 1).toNatClampNeg) (xs (i + 2).toNatClampNeg) (xs (i + 3).toNatClampNeg) σ ) zk_X9_covers zm_791 rfl ⟨(Nat.le_of_ble_eq_true rfl), (Nat.le_of_ble_eq_true rfl)⟩ ⟨hc1, hc2⟩ (Nat.le_of_ble_eq_true rfl) dL_law_946 (fun r1 σ1 h1 => ?_)
  have z1 := zI_c hz h1
  refine zv_popI G dL_law_949 ?_
  refine zv_aload_n (j := 2) G dL_law_950 rfl rfl ?_
  refine zv_aldR (j := 4) G dL_law_951 rfl rfl ?_
  refine zv_iload (j := 0) G dL_law_952 rfl ?_
  refine zv_iconst (v := 1) G dL_law_954 (by decide) ?_
  refine zv_iadd G dL_law_955 ?_
  refine zv_scr G hX9 hbl hbA (hin 1 (by decide) (by decide)) dL_law_956 ?_
  refine zv_aldR (j := 4) G dL_law_957 rfl rfl ?_
  refine zv_iload (j := 0) G dL_law_958 rfl ?_
  refine zv_iconst (v := 2) G dL_law_960 (by decide) ?_
  refine zv_iadd G dL_law_961 ?_
  refine zv_scr G hX9 hbl hbA (hin 2 (by decide) (by decide)) dL_law_962 ?_
  refine zv_aldR (j := 4) G dL_law_963 rfl rfl ?_
  refine zv_iload (j := 0) G dL_law_964 rfl ?_
  refine zv_iconst (v := 3) G dL_law_966 (by decide) ?_
  refine zv_iadd G dL_law_967 ?_
  refine zv_scr G hX9 hbl hbA (hin 3 (by decide) (by decide)) dL_law_968 ?_
  refine zv_callVi (as := [za_I (xs (i + 1).toNatClampNeg), za_I (xs (i + 2).toNatClampNeg), za_I (xs (i + 3).toNatClampNeg)]) G (by decide) rfl rfl (zc_X10_covers l E (xs (i + 1).toNatClampNeg) (xs (i + 2).toNatClampNeg) (xs (i + 3).toNatClampNeg) σ1 z1.1) zk_X10_covers zm_1540 rfl ⟨(Nat.le_of_ble_eq_true rfl), (Nat.le_of_ble_eq_true rfl)⟩ ⟨hc1, hc2⟩ (Nat.le_of_ble_eq_true rfl) dL_law_969 (fun r2 σ2 h2 => ?_)
  have z2 := zI_q z1 h2
  refine zv_popI G dL_law_972 ?_
  refine zv_goto (tgt := 1772) G dL_law_973 (by decide) ?_
  refine zv_wid (Nat.le_succ cells) (Nat.le_add_right slots 6) ?_
  exact kk σ2 z2
set_option maxHeartbeats 4000000 in
set_option maxRecDepth 100000 in
theorem zl_17 (hl : l.stackTraces = false) (G : zC p s m args meth c cL_law RL 8 E A) (hX : zX E s s.heap) (hX9 : va_X b L xs s s.heap) (hbl : b < s.heap.size) (hbA : ¬ A b) (hin : ∀ x : Int32, 0 ≤ x.toInt → x.toInt ≤ 5 → vp_in (i + x) L) (hc : cells + 1 ≤ room_1.cells ∧ slots + 6 ≤ room_1.slots) (hz : zI σ) (kk : ∀ σ' : za_S, zI σ' → zV p l e room_1 s m args below meth c E A 8 (cells + 1) (slots + 6) Q 1772 [(4, za_I i), (3, za_O 29 193), (2, za_O 19 93), (1, za_O 0 0), (0, za_O 52 (b + 1))] [] σ') : zV p l e room_1 s m args below meth c E A 8 cells slots Q 976 [(4, za_I i), (3, za_O 29 193), (2, za_O 19 93), (1, za_O 0 0), (0, za_O 52 (b + 1))] [] σ := by
  have hc1 : cells ≤ room_1.cells := by omega
  have hc2 : slots ≤ room_1.slots := by omega
  refine zv_aload_n (j := 3) G dL_law_976 rfl rfl ?_
  refine zv_aldR (j := 4) G dL_law_977 rfl rfl ?_
  refine zv_iload (j := 0) G dL_law_978 rfl ?_
  refine zv_iconst (v := 1) G dL_law_980 (by decide) ?_
  refine zv_iadd G dL_law_981 ?_
  refine zv_scr G hX9 hbl hbA (hin 1 (by decide) (by decide)) dL_law_982 ?_
  refine zv_aldR (j := 4) G dL_law_983 rfl rfl ?_
  refine zv_iload (j := 0) G dL_law_984 rfl ?_
  refine zv_iconst (v := 2) G dL_law_986 (by decide) ?_
  refine zv_iadd G dL_law_987 ?_
  refine zv_scr G hX9 hbl hbA (hin 2 (by decide) (by decide)) dL_law_988 ?_
  refine zv_aldR (j := 4) G dL_law_989 rfl rfl ?_
  refine zv_iload (j := 0) G dL_law_990 rfl ?_
  refine zv_iconst (v := 3) G dL_law_992 (by decide) ?_
  refine zv_iadd G dL_law_993 ?_
  refine zv_scr G hX9 hbl hbA (hin 3 (by decide) (by decide)) dL_law_994 ?_
  refine zv_aldR (j := 4) G dL_law_995 rfl rfl ?_
  refine zv_iload (j := 0) G dL_law_996 rfl ?_
  refine zv_iconst (v := 4) G dL_law_998 (by decide) ?_
  refine zv_iadd G dL_law_999 ?_
  refine zv_scr G hX9 hbl hbA (hin 4 (by decide) (by decide)) dL_law_1000 ?_
  refine zv_callVi (as := [za_I (xs (i + 1).toNatClampNeg), za_I (xs (i + 2).toNatClampNeg), za_I (xs (i + 3).toNatClampNeg), za_I (xs (i + 4).toNatClampNeg)]) G (by decide) rfl rfl (zc_X9_lies l E (xs (i + 1).toNatClampNeg) (xs (i + 2).toNatClampNeg) (xs (i + 3).toNatClampNeg) (xs (i + 4).toNatClampNeg) σ ) zk_X9_lies zm_795 rfl ⟨(Nat.le_of_ble_eq_true rfl), (Nat.le_of_ble_eq_true rfl)⟩ ⟨hc1, hc2⟩ (Nat.le_of_ble_eq_true rfl) dL_law_1001 (fun r1 σ1 h1 => ?_)
  have z1 := zI_c hz h1
  refine zv_popI G dL_law_1004 ?_
  refine zv_aload_n (j := 2) G dL_law_1005 rfl rfl ?_
  refine zv_aldR (j := 4) G dL_law_1006 rfl rfl ?_
  refine zv_iload (j := 0) G dL_law_1007 rfl ?_
  refine zv_iconst (v := 1) G dL_law_1009 (by decide) ?_
  refine zv_iadd G dL_law_1010 ?_
  refine zv_scr G hX9 hbl hbA (hin 1 (by decide) (by decide)) dL_law_1011 ?_
  refine zv_aldR (j := 4) G dL_law_1012 rfl rfl ?_
  refine zv_iload (j := 0) G dL_law_1013 rfl ?_
  refine zv_iconst (v := 2) G dL_law_1015 (by decide) ?_
  refine zv_iadd G dL_law_1016 ?_
  refine zv_scr G hX9 hbl hbA (hin 2 (by decide) (by decide)) dL_law_1017 ?_
  refine zv_aldR (j := 4) G dL_law_1018 rfl rfl ?_
  refine zv_iload (j := 0) G dL_law_1019 rfl ?_
  refine zv_iconst (v := 3) G dL_law_1021 (by decide) ?_
  refine zv_iadd G dL_law_1022 ?_
  refine zv_scr G hX9 hbl hbA (hin 3 (by decide) (by decide)) dL_law_1023 ?_
  refine zv_aldR (j := 4) G dL_law_1024 rfl rfl ?_
  refine zv_iload (j := 0) G dL_law_1025 rfl ?_
  refine zv_iconst (v := 4) G dL_law_1027 (by decide) ?_
  refine zv_iadd G dL_law_1028 ?_
  refine zv_scr G hX9 hbl hbA (hin 4 (by decide) (by decide)) dL_law_1029 ?_
  refine zv_callVi (as := [za_I (xs (i + 1).toNatClampNeg), za_I (xs (i + 2).toNatClampNeg), za_I (xs (i + 3).toNatClampNeg), za_I (xs (i + 4).toNatClampNeg)]) G (by decide) rfl rfl (zc_X10_lies l E (xs (i + 1).toNatClampNeg) (xs (i + 2).toNatClampNeg) (xs (i + 3).toNatClampNeg) (xs (i + 4).toNatClampNeg) σ1 z1.1) zk_X10_lies zm_1544 rfl ⟨(Nat.le_of_ble_eq_true rfl), (Nat.le_of_ble_eq_true rfl)⟩ ⟨hc1, hc2⟩ (Nat.le_of_ble_eq_true rfl) dL_law_1030 (fun r2 σ2 h2 => ?_)
  have z2 := zI_q z1 h2
  refine zv_popI G dL_law_1033 ?_
  refine zv_goto (tgt := 1772) G dL_law_1034 (by decide) ?_
  refine zv_wid (Nat.le_succ cells) (Nat.le_add_right slots 6) ?_
  exact kk σ2 z2
set_option maxHeartbeats 4000000 in
set_option maxRecDepth 100000 in
theorem zl_18 (hl : l.stackTraces = false) (G : zC p s m args meth c cL_law RL 8 E A) (hX : zX E s s.heap) (hX9 : va_X b L xs s s.heap) (hbl : b < s.heap.size) (hbA : ¬ A b) (hin : ∀ x : Int32, 0 ≤ x.toInt → x.toInt ≤ 5 → vp_in (i + x) L) (hc : cells + 1 ≤ room_1.cells ∧ slots + 6 ≤ room_1.slots) (hz : zI σ) (kk : ∀ σ' : za_S, zI σ' → zV p l e room_1 s m args below meth c E A 8 (cells + 1) (slots + 6) Q 1772 [(4, za_I i), (3, za_O 29 193), (2, za_O 19 93), (1, za_O 0 0), (0, za_O 52 (b + 1))] [] σ') : zV p l e room_1 s m args below meth c E A 8 cells slots Q 1037 [(4, za_I i), (3, za_O 29 193), (2, za_O 19 93), (1, za_O 0 0), (0, za_O 52 (b + 1))] [] σ := by
  have hc1 : cells ≤ room_1.cells := by omega
  have hc2 : slots ≤ room_1.slots := by omega
  refine zv_aload_n (j := 3) G dL_law_1037 rfl rfl ?_
  refine zv_aldR (j := 4) G dL_law_1038 rfl rfl ?_
  refine zv_iload (j := 0) G dL_law_1039 rfl ?_
  refine zv_iconst (v := 1) G dL_law_1041 (by decide) ?_
  refine zv_iadd G dL_law_1042 ?_
  refine zv_scr G hX9 hbl hbA (hin 1 (by decide) (by decide)) dL_law_1043 ?_
  refine zv_aldR (j := 4) G dL_law_1044 rfl rfl ?_
  refine zv_iload (j := 0) G dL_law_1045 rfl ?_
  refine zv_iconst (v := 2) G dL_law_1047 (by decide) ?_
  refine zv_iadd G dL_law_1048 ?_
  refine zv_scr G hX9 hbl hbA (hin 2 (by decide) (by decide)) dL_law_1049 ?_
  refine zv_callVi (as := [za_I (xs (i + 1).toNatClampNeg), za_I (xs (i + 2).toNatClampNeg)]) G (by decide) rfl rfl (zc_X9_changes l E (xs (i + 1).toNatClampNeg) (xs (i + 2).toNatClampNeg) σ ) zk_X9_changes zm_803 rfl ⟨(Nat.le_of_ble_eq_true rfl), (Nat.le_of_ble_eq_true rfl)⟩ ⟨hc1, hc2⟩ (Nat.le_of_ble_eq_true rfl) dL_law_1050 (fun r1 σ1 h1 => ?_)
  have z1 := zI_c hz h1
  refine zv_popI G dL_law_1053 ?_
  refine zv_aload_n (j := 2) G dL_law_1054 rfl rfl ?_
  refine zv_aldR (j := 4) G dL_law_1055 rfl rfl ?_
  refine zv_iload (j := 0) G dL_law_1056 rfl ?_
  refine zv_iconst (v := 1) G dL_law_1058 (by decide) ?_
  refine zv_iadd G dL_law_1059 ?_
  refine zv_scr G hX9 hbl hbA (hin 1 (by decide) (by decide)) dL_law_1060 ?_
  refine zv_aldR (j := 4) G dL_law_1061 rfl rfl ?_
  refine zv_iload (j := 0) G dL_law_1062 rfl ?_
  refine zv_iconst (v := 2) G dL_law_1064 (by decide) ?_
  refine zv_iadd G dL_law_1065 ?_
  refine zv_scr G hX9 hbl hbA (hin 2 (by decide) (by decide)) dL_law_1066 ?_
  refine zv_callVi (as := [za_I (xs (i + 1).toNatClampNeg), za_I (xs (i + 2).toNatClampNeg)]) G (by decide) rfl rfl (zc_X10_changes l E (xs (i + 1).toNatClampNeg) (xs (i + 2).toNatClampNeg) σ1 z1.1) zk_X10_changes zm_1548 rfl ⟨(Nat.le_of_ble_eq_true rfl), (Nat.le_of_ble_eq_true rfl)⟩ ⟨hc1, hc2⟩ (Nat.le_of_ble_eq_true rfl) dL_law_1067 (fun r2 σ2 h2 => ?_)
  have z2 := zI_q z1 h2
  refine zv_popI G dL_law_1070 ?_
  refine zv_goto (tgt := 1772) G dL_law_1071 (by decide) ?_
  refine zv_wid (Nat.le_succ cells) (Nat.le_add_right slots 6) ?_
  exact kk σ2 z2
set_option maxHeartbeats 4000000 in
set_option maxRecDepth 100000 in
theorem zl_19 (hl : l.stackTraces = false) (G : zC p s m args meth c cL_law RL 8 E A) (hX : zX E s s.heap) (hX9 : va_X b L xs s s.heap) (hbl : b < s.heap.size) (hbA : ¬ A b) (hin : ∀ x : Int32, 0 ≤ x.toInt → x.toInt ≤ 5 → vp_in (i + x) L) (hc : cells + 1 ≤ room_1.cells ∧ slots + 6 ≤ room_1.slots) (hz : zI σ) (kk : ∀ σ' : za_S, zI σ' → zV p l e room_1 s m args below meth c E A 8 (cells + 1) (slots + 6) Q 1772 [(4, za_I i), (3, za_O 29 193), (2, za_O 19 93), (1, za_O 0 0), (0, za_O 52 (b + 1))] [] σ') : zV p l e room_1 s m args below meth c E A 8 cells slots Q 1074 [(4, za_I i), (3, za_O 29 193), (2, za_O 19 93), (1, za_O 0 0), (0, za_O 52 (b + 1))] [] σ := by
  have hc1 : cells ≤ room_1.cells := by omega
  have hc2 : slots ≤ room_1.slots := by omega
  refine zv_aload_n (j := 3) G dL_law_1074 rfl rfl ?_
  refine zv_aldR (j := 4) G dL_law_1075 rfl rfl ?_
  refine zv_iload (j := 0) G dL_law_1076 rfl ?_
  refine zv_iconst (v := 1) G dL_law_1078 (by decide) ?_
  refine zv_iadd G dL_law_1079 ?_
  refine zv_scr G hX9 hbl hbA (hin 1 (by decide) (by decide)) dL_law_1080 ?_
  refine zv_callVi (as := [za_I (xs (i + 1).toNatClampNeg)]) G (by decide) rfl rfl (zc_X9_rows l E (xs (i + 1).toNatClampNeg) σ ) zk_X9_rows zm_808 rfl ⟨(Nat.le_of_ble_eq_true rfl), (Nat.le_of_ble_eq_true rfl)⟩ ⟨hc1, hc2⟩ (Nat.le_of_ble_eq_true rfl) dL_law_1081 (fun r1 σ1 h1 => ?_)
  have z1 := zI_c hz h1
  refine zv_popI G dL_law_1084 ?_
  refine zv_aload_n (j := 2) G dL_law_1085 rfl rfl ?_
  refine zv_aldR (j := 4) G dL_law_1086 rfl rfl ?_
  refine zv_iload (j := 0) G dL_law_1087 rfl ?_
  refine zv_iconst (v := 1) G dL_law_1089 (by decide) ?_
  refine zv_iadd G dL_law_1090 ?_
  refine zv_scr G hX9 hbl hbA (hin 1 (by decide) (by decide)) dL_law_1091 ?_
  refine zv_callVi (as := [za_I (xs (i + 1).toNatClampNeg)]) G (by decide) rfl rfl (zc_X10_rows l E (xs (i + 1).toNatClampNeg) σ1 z1.1) zk_X10_rows zm_1552 rfl ⟨(Nat.le_of_ble_eq_true rfl), (Nat.le_of_ble_eq_true rfl)⟩ ⟨hc1, hc2⟩ (Nat.le_of_ble_eq_true rfl) dL_law_1092 (fun r2 σ2 h2 => ?_)
  have z2 := zI_q z1 h2
  refine zv_popI G dL_law_1095 ?_
  refine zv_goto (tgt := 1772) G dL_law_1096 (by decide) ?_
  refine zv_wid (Nat.le_succ cells) (Nat.le_add_right slots 6) ?_
  exact kk σ2 z2
set_option maxHeartbeats 4000000 in
set_option maxRecDepth 100000 in
theorem zl_20 (hl : l.stackTraces = false) (G : zC p s m args meth c cL_law RL 8 E A) (hX : zX E s s.heap) (hX9 : va_X b L xs s s.heap) (hbl : b < s.heap.size) (hbA : ¬ A b) (hin : ∀ x : Int32, 0 ≤ x.toInt → x.toInt ≤ 5 → vp_in (i + x) L) (hc : cells + 1 ≤ room_1.cells ∧ slots + 6 ≤ room_1.slots) (hz : zI σ) (kk : ∀ σ' : za_S, zI σ' → zV p l e room_1 s m args below meth c E A 8 (cells + 1) (slots + 6) Q 1772 [(4, za_I i), (3, za_O 29 193), (2, za_O 19 93), (1, za_O 0 0), (0, za_O 52 (b + 1))] [] σ') : zV p l e room_1 s m args below meth c E A 8 cells slots Q 1099 [(4, za_I i), (3, za_O 29 193), (2, za_O 19 93), (1, za_O 0 0), (0, za_O 52 (b + 1))] [] σ := by
  have hc1 : cells ≤ room_1.cells := by omega
  have hc2 : slots ≤ room_1.slots := by omega
  refine zv_aload_n (j := 3) G dL_law_1099 rfl rfl ?_
  refine zv_aldR (j := 4) G dL_law_1100 rfl rfl ?_
  refine zv_iload (j := 0) G dL_law_1101 rfl ?_
  refine zv_iconst (v := 1) G dL_law_1103 (by decide) ?_
  refine zv_iadd G dL_law_1104 ?_
  refine zv_scr G hX9 hbl hbA (hin 1 (by decide) (by decide)) dL_law_1105 ?_
  refine zv_callVi (as := [za_I (xs (i + 1).toNatClampNeg)]) G (by decide) rfl rfl (zc_X9_longest l E (xs (i + 1).toNatClampNeg) σ ) zk_X9_longest zm_817 rfl ⟨(Nat.le_of_ble_eq_true rfl), (Nat.le_of_ble_eq_true rfl)⟩ ⟨hc1, hc2⟩ (Nat.le_of_ble_eq_true rfl) dL_law_1106 (fun r1 σ1 h1 => ?_)
  have z1 := zI_c hz h1
  refine zv_popI G dL_law_1109 ?_
  refine zv_aload_n (j := 2) G dL_law_1110 rfl rfl ?_
  refine zv_aldR (j := 4) G dL_law_1111 rfl rfl ?_
  refine zv_iload (j := 0) G dL_law_1112 rfl ?_
  refine zv_iconst (v := 1) G dL_law_1114 (by decide) ?_
  refine zv_iadd G dL_law_1115 ?_
  refine zv_scr G hX9 hbl hbA (hin 1 (by decide) (by decide)) dL_law_1116 ?_
  refine zv_callVi (as := [za_I (xs (i + 1).toNatClampNeg)]) G (by decide) rfl rfl (zc_X10_longest l E (xs (i + 1).toNatClampNeg) σ1 z1.1) zk_X10_longest zm_1563 rfl ⟨(Nat.le_of_ble_eq_true rfl), (Nat.le_of_ble_eq_true rfl)⟩ ⟨hc1, hc2⟩ (Nat.le_of_ble_eq_true rfl) dL_law_1117 (fun r2 σ2 h2 => ?_)
  have z2 := zI_q z1 h2
  refine zv_popI G dL_law_1120 ?_
  refine zv_goto (tgt := 1772) G dL_law_1121 (by decide) ?_
  refine zv_wid (Nat.le_succ cells) (Nat.le_add_right slots 6) ?_
  exact kk σ2 z2
set_option maxHeartbeats 4000000 in
set_option maxRecDepth 100000 in
theorem zl_21 (hl : l.stackTraces = false) (G : zC p s m args meth c cL_law RL 8 E A) (hX : zX E s s.heap) (hX9 : va_X b L xs s s.heap) (hbl : b < s.heap.size) (hbA : ¬ A b) (hin : ∀ x : Int32, 0 ≤ x.toInt → x.toInt ≤ 5 → vp_in (i + x) L) (hc : cells + 1 ≤ room_1.cells ∧ slots + 6 ≤ room_1.slots) (hz : zI σ) (kk : ∀ σ' : za_S, zI σ' → zV p l e room_1 s m args below meth c E A 8 (cells + 1) (slots + 6) Q 1772 [(4, za_I i), (3, za_O 29 193), (2, za_O 19 93), (1, za_O 0 0), (0, za_O 52 (b + 1))] [] σ') : zV p l e room_1 s m args below meth c E A 8 cells slots Q 1124 [(4, za_I i), (3, za_O 29 193), (2, za_O 19 93), (1, za_O 0 0), (0, za_O 52 (b + 1))] [] σ := by
  have hc1 : cells ≤ room_1.cells := by omega
  have hc2 : slots ≤ room_1.slots := by omega
  refine zv_aload_n (j := 3) G dL_law_1124 rfl rfl ?_
  refine zv_aldR (j := 4) G dL_law_1125 rfl rfl ?_
  refine zv_iload (j := 0) G dL_law_1126 rfl ?_
  refine zv_iconst (v := 1) G dL_law_1128 (by decide) ?_
  refine zv_iadd G dL_law_1129 ?_
  refine zv_scr G hX9 hbl hbA (hin 1 (by decide) (by decide)) dL_law_1130 ?_
  refine zv_aldR (j := 4) G dL_law_1131 rfl rfl ?_
  refine zv_iload (j := 0) G dL_law_1132 rfl ?_
  refine zv_iconst (v := 2) G dL_law_1134 (by decide) ?_
  refine zv_iadd G dL_law_1135 ?_
  refine zv_scr G hX9 hbl hbA (hin 2 (by decide) (by decide)) dL_law_1136 ?_
  refine zv_aldR (j := 4) G dL_law_1137 rfl rfl ?_
  refine zv_iload (j := 0) G dL_law_1138 rfl ?_
  refine zv_iconst (v := 3) G dL_law_1140 (by decide) ?_
  refine zv_iadd G dL_law_1141 ?_
  refine zv_scr G hX9 hbl hbA (hin 3 (by decide) (by decide)) dL_law_1142 ?_
  refine zv_aldR (j := 4) G dL_law_1143 rfl rfl ?_
  refine zv_iload (j := 0) G dL_law_1144 rfl ?_
  refine zv_iconst (v := 4) G dL_law_1146 (by decide) ?_
  refine zv_iadd G dL_law_1147 ?_
  refine zv_scr G hX9 hbl hbA (hin 4 (by decide) (by decide)) dL_law_1148 ?_
  refine zv_callVi (as := [za_I (xs (i + 1).toNatClampNeg), za_I (xs (i + 2).toNatClampNeg), za_I (xs (i + 3).toNatClampNeg), za_I (xs (i + 4).toNatClampNeg)]) G (by decide) rfl rfl (zc_X9_free l E (xs (i + 1).toNatClampNeg) (xs (i + 2).toNatClampNeg) (xs (i + 3).toNatClampNeg) (xs (i + 4).toNatClampNeg) σ ) zk_X9_free zm_822 rfl ⟨(Nat.le_of_ble_eq_true rfl), (Nat.le_of_ble_eq_true rfl)⟩ ⟨hc1, hc2⟩ (Nat.le_of_ble_eq_true rfl) dL_law_1149 (fun r1 σ1 h1 => ?_)
  have z1 := zI_e hz h1
  refine zv_popI G dL_law_1152 ?_
  refine zv_aload_n (j := 2) G dL_law_1153 rfl rfl ?_
  refine zv_aldR (j := 4) G dL_law_1154 rfl rfl ?_
  refine zv_iload (j := 0) G dL_law_1155 rfl ?_
  refine zv_iconst (v := 1) G dL_law_1157 (by decide) ?_
  refine zv_iadd G dL_law_1158 ?_
  refine zv_scr G hX9 hbl hbA (hin 1 (by decide) (by decide)) dL_law_1159 ?_
  refine zv_aldR (j := 4) G dL_law_1160 rfl rfl ?_
  refine zv_iload (j := 0) G dL_law_1161 rfl ?_
  refine zv_iconst (v := 2) G dL_law_1163 (by decide) ?_
  refine zv_iadd G dL_law_1164 ?_
  refine zv_scr G hX9 hbl hbA (hin 2 (by decide) (by decide)) dL_law_1165 ?_
  refine zv_aldR (j := 4) G dL_law_1166 rfl rfl ?_
  refine zv_iload (j := 0) G dL_law_1167 rfl ?_
  refine zv_iconst (v := 3) G dL_law_1169 (by decide) ?_
  refine zv_iadd G dL_law_1170 ?_
  refine zv_scr G hX9 hbl hbA (hin 3 (by decide) (by decide)) dL_law_1171 ?_
  refine zv_aldR (j := 4) G dL_law_1172 rfl rfl ?_
  refine zv_iload (j := 0) G dL_law_1173 rfl ?_
  refine zv_iconst (v := 4) G dL_law_1175 (by decide) ?_
  refine zv_iadd G dL_law_1176 ?_
  refine zv_scr G hX9 hbl hbA (hin 4 (by decide) (by decide)) dL_law_1177 ?_
  refine zv_callVi (as := [za_I (xs (i + 1).toNatClampNeg), za_I (xs (i + 2).toNatClampNeg), za_I (xs (i + 3).toNatClampNeg), za_I (xs (i + 4).toNatClampNeg)]) G (by decide) rfl rfl (zc_X10_free l E (xs (i + 1).toNatClampNeg) (xs (i + 2).toNatClampNeg) (xs (i + 3).toNatClampNeg) (xs (i + 4).toNatClampNeg) σ1 z1.1) zk_X10_free zm_1567 rfl ⟨(Nat.le_of_ble_eq_true rfl), (Nat.le_of_ble_eq_true rfl)⟩ ⟨hc1, hc2⟩ (Nat.le_of_ble_eq_true rfl) dL_law_1178 (fun r2 σ2 h2 => ?_)
  have z2 := zI_q z1 h2
  refine zv_popI G dL_law_1181 ?_
  refine zv_goto (tgt := 1772) G dL_law_1182 (by decide) ?_
  refine zv_wid (Nat.le_succ cells) (Nat.le_add_right slots 6) ?_
  exact kk σ2 z2
set_option maxHeartbeats 4000000 in
set_option maxRecDepth 100000 in
theorem zl_22 (hl : l.stackTraces = false) (G : zC p s m args meth c cL_law RL 8 E A) (hX : zX E s s.heap) (hX9 : va_X b L xs s s.heap) (hbl : b < s.heap.size) (hbA : ¬ A b) (hin : ∀ x : Int32, 0 ≤ x.toInt → x.toInt ≤ 5 → vp_in (i + x) L) (hc : cells + 1 ≤ room_1.cells ∧ slots + 6 ≤ room_1.slots) (hz : zI σ) (kk : ∀ σ' : za_S, zI σ' → zV p l e room_1 s m args below meth c E A 8 (cells + 1) (slots + 6) Q 1772 [(4, za_I i), (3, za_O 29 193), (2, za_O 19 93), (1, za_O 0 0), (0, za_O 52 (b + 1))] [] σ') : zV p l e room_1 s m args below meth c E A 8 cells slots Q 1185 [(4, za_I i), (3, za_O 29 193), (2, za_O 19 93), (1, za_O 0 0), (0, za_O 52 (b + 1))] [] σ := by
  have hc1 : cells ≤ room_1.cells := by omega
  have hc2 : slots ≤ room_1.slots := by omega
  refine zv_aload_n (j := 3) G dL_law_1185 rfl rfl ?_
  refine zv_aldR (j := 4) G dL_law_1186 rfl rfl ?_
  refine zv_iload (j := 0) G dL_law_1187 rfl ?_
  refine zv_iconst (v := 1) G dL_law_1189 (by decide) ?_
  refine zv_iadd G dL_law_1190 ?_
  refine zv_scr G hX9 hbl hbA (hin 1 (by decide) (by decide)) dL_law_1191 ?_
  refine zv_aldR (j := 4) G dL_law_1192 rfl rfl ?_
  refine zv_iload (j := 0) G dL_law_1193 rfl ?_
  refine zv_iconst (v := 2) G dL_law_1195 (by decide) ?_
  refine zv_iadd G dL_law_1196 ?_
  refine zv_scr G hX9 hbl hbA (hin 2 (by decide) (by decide)) dL_law_1197 ?_
  refine zv_callVi (as := [za_I (xs (i + 1).toNatClampNeg), za_I (xs (i + 2).toNatClampNeg)]) G (by decide) rfl rfl (zc_X9_meets l E (xs (i + 1).toNatClampNeg) (xs (i + 2).toNatClampNeg) σ ) zk_X9_meets zm_826 rfl ⟨(Nat.le_of_ble_eq_true rfl), (Nat.le_of_ble_eq_true rfl)⟩ ⟨hc1, hc2⟩ (Nat.le_of_ble_eq_true rfl) dL_law_1198 (fun r1 σ1 h1 => ?_)
  have z1 := zI_c hz h1
  refine zv_popI G dL_law_1201 ?_
  refine zv_aload_n (j := 2) G dL_law_1202 rfl rfl ?_
  refine zv_aldR (j := 4) G dL_law_1203 rfl rfl ?_
  refine zv_iload (j := 0) G dL_law_1204 rfl ?_
  refine zv_iconst (v := 1) G dL_law_1206 (by decide) ?_
  refine zv_iadd G dL_law_1207 ?_
  refine zv_scr G hX9 hbl hbA (hin 1 (by decide) (by decide)) dL_law_1208 ?_
  refine zv_aldR (j := 4) G dL_law_1209 rfl rfl ?_
  refine zv_iload (j := 0) G dL_law_1210 rfl ?_
  refine zv_iconst (v := 2) G dL_law_1212 (by decide) ?_
  refine zv_iadd G dL_law_1213 ?_
  refine zv_scr G hX9 hbl hbA (hin 2 (by decide) (by decide)) dL_law_1214 ?_
  refine zv_callVi (as := [za_I (xs (i + 1).toNatClampNeg), za_I (xs (i + 2).toNatClampNeg)]) G (by decide) rfl rfl (zc_X10_meets l E (xs (i + 1).toNatClampNeg) (xs (i + 2).toNatClampNeg) σ1 z1.1) zk_X10_meets zm_1572 rfl ⟨(Nat.le_of_ble_eq_true rfl), (Nat.le_of_ble_eq_true rfl)⟩ ⟨hc1, hc2⟩ (Nat.le_of_ble_eq_true rfl) dL_law_1215 (fun r2 σ2 h2 => ?_)
  have z2 := zI_q z1 h2
  refine zv_popI G dL_law_1218 ?_
  refine zv_goto (tgt := 1772) G dL_law_1219 (by decide) ?_
  refine zv_wid (Nat.le_succ cells) (Nat.le_add_right slots 6) ?_
  exact kk σ2 z2
set_option maxHeartbeats 4000000 in
set_option maxRecDepth 100000 in
theorem zl_23 (hl : l.stackTraces = false) (G : zC p s m args meth c cL_law RL 8 E A) (hX : zX E s s.heap) (hX9 : va_X b L xs s s.heap) (hbl : b < s.heap.size) (hbA : ¬ A b) (hin : ∀ x : Int32, 0 ≤ x.toInt → x.toInt ≤ 5 → vp_in (i + x) L) (hc : cells + 1 ≤ room_1.cells ∧ slots + 6 ≤ room_1.slots) (hz : zI σ) (kk : ∀ σ' : za_S, zI σ' → zV p l e room_1 s m args below meth c E A 8 (cells + 1) (slots + 6) Q 1772 [(4, za_I i), (3, za_O 29 193), (2, za_O 19 93), (1, za_O 0 0), (0, za_O 52 (b + 1))] [] σ') : zV p l e room_1 s m args below meth c E A 8 cells slots Q 1222 [(4, za_I i), (3, za_O 29 193), (2, za_O 19 93), (1, za_O 0 0), (0, za_O 52 (b + 1))] [] σ := by
  have hc1 : cells ≤ room_1.cells := by omega
  have hc2 : slots ≤ room_1.slots := by omega
  refine zv_aload_n (j := 3) G dL_law_1222 rfl rfl ?_
  refine zv_aldR (j := 4) G dL_law_1223 rfl rfl ?_
  refine zv_iload (j := 0) G dL_law_1224 rfl ?_
  refine zv_iconst (v := 1) G dL_law_1226 (by decide) ?_
  refine zv_iadd G dL_law_1227 ?_
  refine zv_scr G hX9 hbl hbA (hin 1 (by decide) (by decide)) dL_law_1228 ?_
  refine zv_callVi (as := [za_I (xs (i + 1).toNatClampNeg)]) G (by decide) rfl rfl (zc_X9_lacks l E (xs (i + 1).toNatClampNeg) σ ) zk_X9_lacks zm_846 rfl ⟨(Nat.le_of_ble_eq_true rfl), (Nat.le_of_ble_eq_true rfl)⟩ ⟨hc1, hc2⟩ (Nat.le_of_ble_eq_true rfl) dL_law_1229 (fun r1 σ1 h1 => ?_)
  have z1 := zI_c hz h1
  refine zv_popI G dL_law_1232 ?_
  refine zv_aload_n (j := 2) G dL_law_1233 rfl rfl ?_
  refine zv_aldR (j := 4) G dL_law_1234 rfl rfl ?_
  refine zv_iload (j := 0) G dL_law_1235 rfl ?_
  refine zv_iconst (v := 1) G dL_law_1237 (by decide) ?_
  refine zv_iadd G dL_law_1238 ?_
  refine zv_scr G hX9 hbl hbA (hin 1 (by decide) (by decide)) dL_law_1239 ?_
  refine zv_callVi (as := [za_I (xs (i + 1).toNatClampNeg)]) G (by decide) rfl rfl (zc_X10_lacks l E (xs (i + 1).toNatClampNeg) σ1 z1.1) zk_X10_lacks zm_1584 rfl ⟨(Nat.le_of_ble_eq_true rfl), (Nat.le_of_ble_eq_true rfl)⟩ ⟨hc1, hc2⟩ (Nat.le_of_ble_eq_true rfl) dL_law_1240 (fun r2 σ2 h2 => ?_)
  have z2 := zI_q z1 h2
  refine zv_popI G dL_law_1243 ?_
  refine zv_goto (tgt := 1772) G dL_law_1244 (by decide) ?_
  refine zv_wid (Nat.le_succ cells) (Nat.le_add_right slots 6) ?_
  exact kk σ2 z2
set_option maxHeartbeats 4000000 in
set_option maxRecDepth 100000 in
theorem zl_24 (hl : l.stackTraces = false) (G : zC p s m args meth c cL_law RL 8 E A) (hX : zX E s s.heap) (hX9 : va_X b L xs s s.heap) (hbl : b < s.heap.size) (hbA : ¬ A b) (hin : ∀ x : Int32, 0 ≤ x.toInt → x.toInt ≤ 5 → vp_in (i + x) L) (hc : cells + 1 ≤ room_1.cells ∧ slots + 6 ≤ room_1.slots) (hz : zI σ) (kk : ∀ σ' : za_S, zI σ' → zV p l e room_1 s m args below meth c E A 8 (cells + 1) (slots + 6) Q 1772 [(4, za_I i), (3, za_O 29 193), (2, za_O 19 93), (1, za_O 0 0), (0, za_O 52 (b + 1))] [] σ') : zV p l e room_1 s m args below meth c E A 8 cells slots Q 1247 [(4, za_I i), (3, za_O 29 193), (2, za_O 19 93), (1, za_O 0 0), (0, za_O 52 (b + 1))] [] σ := by
  have hc1 : cells ≤ room_1.cells := by omega
  have hc2 : slots ≤ room_1.slots := by omega
  refine zv_aload_n (j := 3) G dL_law_1247 rfl rfl ?_
  refine zv_callVi (as := []) G (by decide) rfl rfl (zc_X9_either l E  σ ) zk_X9_either zm_854 rfl ⟨(Nat.le_of_ble_eq_true rfl), (Nat.le_of_ble_eq_true rfl)⟩ ⟨hc1, hc2⟩ (Nat.le_of_ble_eq_true rfl) dL_law_1248 (fun r1 σ1 h1 => ?_)
  have z1 := zI_c hz h1
  refine zv_popI G dL_law_1251 ?_
  refine zv_aload_n (j := 2) G dL_law_1252 rfl rfl ?_
  refine zv_callVi (as := []) G (by decide) rfl rfl (zc_X10_either l E  σ1 z1.1) zk_X10_either zm_1588 rfl ⟨(Nat.le_of_ble_eq_true rfl), (Nat.le_of_ble_eq_true rfl)⟩ ⟨hc1, hc2⟩ (Nat.le_of_ble_eq_true rfl) dL_law_1253 (fun r2 σ2 h2 => ?_)
  have z2 := zI_q z1 h2
  refine zv_popI G dL_law_1256 ?_
  refine zv_goto (tgt := 1772) G dL_law_1257 (by decide) ?_
  refine zv_wid (Nat.le_succ cells) (Nat.le_add_right slots 6) ?_
  exact kk σ2 z2
set_option maxHeartbeats 4000000 in
set_option maxRecDepth 100000 in
theorem zl_25 (hl : l.stackTraces = false) (G : zC p s m args meth c cL_law RL 8 E A) (hX : zX E s s.heap) (hX9 : va_X b L xs s s.heap) (hbl : b < s.heap.size) (hbA : ¬ A b) (hin : ∀ x : Int32, 0 ≤ x.toInt → x.toInt ≤ 5 → vp_in (i + x) L) (hc : cells + 1 ≤ room_1.cells ∧ slots + 6 ≤ room_1.slots) (hz : zI σ) (kk : ∀ σ' : za_S, zI σ' → zV p l e room_1 s m args below meth c E A 8 (cells + 1) (slots + 6) Q 1772 [(4, za_I i), (3, za_O 29 193), (2, za_O 19 93), (1, za_O 0 0), (0, za_O 52 (b + 1))] [] σ') : zV p l e room_1 s m args below meth c E A 8 cells slots Q 1260 [(4, za_I i), (3, za_O 29 193), (2, za_O 19 93), (1, za_O 0 0), (0, za_O 52 (b + 1))] [] σ := by
  have hc1 : cells ≤ room_1.cells := by omega
  have hc2 : slots ≤ room_1.slots := by omega
  refine zv_aload_n (j := 3) G dL_law_1260 rfl rfl ?_
  refine zv_aldR (j := 4) G dL_law_1261 rfl rfl ?_
  refine zv_iload (j := 0) G dL_law_1262 rfl ?_
  refine zv_iconst (v := 1) G dL_law_1264 (by decide) ?_
  refine zv_iadd G dL_law_1265 ?_
  refine zv_scr G hX9 hbl hbA (hin 1 (by decide) (by decide)) dL_law_1266 ?_
  refine zv_aldR (j := 4) G dL_law_1267 rfl rfl ?_
  refine zv_iload (j := 0) G dL_law_1268 rfl ?_
  refine zv_iconst (v := 2) G dL_law_1270 (by decide) ?_
  refine zv_iadd G dL_law_1271 ?_
  refine zv_scr G hX9 hbl hbA (hin 2 (by decide) (by decide)) dL_law_1272 ?_
  refine zv_aldR (j := 4) G dL_law_1273 rfl rfl ?_
  refine zv_iload (j := 0) G dL_law_1274 rfl ?_
  refine zv_iconst (v := 3) G dL_law_1276 (by decide) ?_
  refine zv_iadd G dL_law_1277 ?_
  refine zv_scr G hX9 hbl hbA (hin 3 (by decide) (by decide)) dL_law_1278 ?_
  refine zv_callVi (as := [za_I (xs (i + 1).toNatClampNeg), za_I (xs (i + 2).toNatClampNeg), za_I (xs (i + 3).toNatClampNeg)]) G (by decide) rfl rfl (zc_X9_sums l E (xs (i + 1).toNatClampNeg) (xs (i + 2).toNatClampNeg) (xs (i + 3).toNatClampNeg) σ ) zk_X9_sums zm_858 rfl ⟨(Nat.le_of_ble_eq_true rfl), (Nat.le_of_ble_eq_true rfl)⟩ ⟨hc1, hc2⟩ (Nat.le_of_ble_eq_true rfl) dL_law_1279 (fun r1 σ1 h1 => ?_)
  have z1 := zI_c hz h1
  refine zv_popI G dL_law_1282 ?_
  refine zv_aload_n (j := 2) G dL_law_1283 rfl rfl ?_
  refine zv_aldR (j := 4) G dL_law_1284 rfl rfl ?_
  refine zv_iload (j := 0) G dL_law_1285 rfl ?_
  refine zv_iconst (v := 1) G dL_law_1287 (by decide) ?_
  refine zv_iadd G dL_law_1288 ?_
  refine zv_scr G hX9 hbl hbA (hin 1 (by decide) (by decide)) dL_law_1289 ?_
  refine zv_aldR (j := 4) G dL_law_1290 rfl rfl ?_
  refine zv_iload (j := 0) G dL_law_1291 rfl ?_
  refine zv_iconst (v := 2) G dL_law_1293 (by decide) ?_
  refine zv_iadd G dL_law_1294 ?_
  refine zv_scr G hX9 hbl hbA (hin 2 (by decide) (by decide)) dL_law_1295 ?_
  refine zv_aldR (j := 4) G dL_law_1296 rfl rfl ?_
  refine zv_iload (j := 0) G dL_law_1297 rfl ?_
  refine zv_iconst (v := 3) G dL_law_1299 (by decide) ?_
  refine zv_iadd G dL_law_1300 ?_
  refine zv_scr G hX9 hbl hbA (hin 3 (by decide) (by decide)) dL_law_1301 ?_
  refine zv_callVi (as := [za_I (xs (i + 1).toNatClampNeg), za_I (xs (i + 2).toNatClampNeg), za_I (xs (i + 3).toNatClampNeg)]) G (by decide) rfl rfl (zc_X10_sums l E (xs (i + 1).toNatClampNeg) (xs (i + 2).toNatClampNeg) (xs (i + 3).toNatClampNeg) σ1 z1.1) zk_X10_sums zm_1592 rfl ⟨(Nat.le_of_ble_eq_true rfl), (Nat.le_of_ble_eq_true rfl)⟩ ⟨hc1, hc2⟩ (Nat.le_of_ble_eq_true rfl) dL_law_1302 (fun r2 σ2 h2 => ?_)
  have z2 := zI_q z1 h2
  refine zv_popI G dL_law_1305 ?_
  refine zv_goto (tgt := 1772) G dL_law_1306 (by decide) ?_
  refine zv_wid (Nat.le_succ cells) (Nat.le_add_right slots 6) ?_
  exact kk σ2 z2
set_option maxHeartbeats 4000000 in
set_option maxRecDepth 100000 in
theorem zl_26 (hl : l.stackTraces = false) (G : zC p s m args meth c cL_law RL 8 E A) (hX : zX E s s.heap) (hX9 : va_X b L xs s s.heap) (hbl : b < s.heap.size) (hbA : ¬ A b) (hin : ∀ x : Int32, 0 ≤ x.toInt → x.toInt ≤ 5 → vp_in (i + x) L) (hc : cells + 1 ≤ room_1.cells ∧ slots + 6 ≤ room_1.slots) (hz : zI σ) (kk : ∀ σ' : za_S, zI σ' → zV p l e room_1 s m args below meth c E A 8 (cells + 1) (slots + 6) Q 1772 [(4, za_I i), (3, za_O 29 193), (2, za_O 19 93), (1, za_O 0 0), (0, za_O 52 (b + 1))] [] σ') : zV p l e room_1 s m args below meth c E A 8 cells slots Q 1309 [(4, za_I i), (3, za_O 29 193), (2, za_O 19 93), (1, za_O 0 0), (0, za_O 52 (b + 1))] [] σ := by
  have hc1 : cells ≤ room_1.cells := by omega
  have hc2 : slots ≤ room_1.slots := by omega
  refine zv_aload_n (j := 3) G dL_law_1309 rfl rfl ?_
  refine zv_aldR (j := 4) G dL_law_1310 rfl rfl ?_
  refine zv_iload (j := 0) G dL_law_1311 rfl ?_
  refine zv_iconst (v := 1) G dL_law_1313 (by decide) ?_
  refine zv_iadd G dL_law_1314 ?_
  refine zv_scr G hX9 hbl hbA (hin 1 (by decide) (by decide)) dL_law_1315 ?_
  refine zv_aldR (j := 4) G dL_law_1316 rfl rfl ?_
  refine zv_iload (j := 0) G dL_law_1317 rfl ?_
  refine zv_iconst (v := 2) G dL_law_1319 (by decide) ?_
  refine zv_iadd G dL_law_1320 ?_
  refine zv_scr G hX9 hbl hbA (hin 2 (by decide) (by decide)) dL_law_1321 ?_
  refine zv_callVi (as := [za_I (xs (i + 1).toNatClampNeg), za_I (xs (i + 2).toNatClampNeg)]) G (by decide) rfl rfl (zc_X9_mean l E (xs (i + 1).toNatClampNeg) (xs (i + 2).toNatClampNeg) σ ) zk_X9_mean zm_863 rfl ⟨(Nat.le_of_ble_eq_true rfl), (Nat.le_of_ble_eq_true rfl)⟩ ⟨hc1, hc2⟩ (Nat.le_of_ble_eq_true rfl) dL_law_1322 (fun r1 σ1 h1 => ?_)
  have z1 := zI_c hz h1
  refine zv_popI G dL_law_1325 ?_
  refine zv_aload_n (j := 2) G dL_law_1326 rfl rfl ?_
  refine zv_aldR (j := 4) G dL_law_1327 rfl rfl ?_
  refine zv_iload (j := 0) G dL_law_1328 rfl ?_
  refine zv_iconst (v := 1) G dL_law_1330 (by decide) ?_
  refine zv_iadd G dL_law_1331 ?_
  refine zv_scr G hX9 hbl hbA (hin 1 (by decide) (by decide)) dL_law_1332 ?_
  refine zv_aldR (j := 4) G dL_law_1333 rfl rfl ?_
  refine zv_iload (j := 0) G dL_law_1334 rfl ?_
  refine zv_iconst (v := 2) G dL_law_1336 (by decide) ?_
  refine zv_iadd G dL_law_1337 ?_
  refine zv_scr G hX9 hbl hbA (hin 2 (by decide) (by decide)) dL_law_1338 ?_
  refine zv_callVi (as := [za_I (xs (i + 1).toNatClampNeg), za_I (xs (i + 2).toNatClampNeg)]) G (by decide) rfl rfl (zc_X10_mean l E (xs (i + 1).toNatClampNeg) (xs (i + 2).toNatClampNeg) σ1 z1.1) zk_X10_mean zm_1596 rfl ⟨(Nat.le_of_ble_eq_true rfl), (Nat.le_of_ble_eq_true rfl)⟩ ⟨hc1, hc2⟩ (Nat.le_of_ble_eq_true rfl) dL_law_1339 (fun r2 σ2 h2 => ?_)
  have z2 := zI_q z1 h2
  refine zv_popI G dL_law_1342 ?_
  refine zv_goto (tgt := 1772) G dL_law_1343 (by decide) ?_
  refine zv_wid (Nat.le_succ cells) (Nat.le_add_right slots 6) ?_
  exact kk σ2 z2
set_option maxHeartbeats 4000000 in
set_option maxRecDepth 100000 in
theorem zl_27 (hl : l.stackTraces = false) (G : zC p s m args meth c cL_law RL 8 E A) (hX : zX E s s.heap) (hX9 : va_X b L xs s s.heap) (hbl : b < s.heap.size) (hbA : ¬ A b) (hin : ∀ x : Int32, 0 ≤ x.toInt → x.toInt ≤ 5 → vp_in (i + x) L) (hc : cells + 1 ≤ room_1.cells ∧ slots + 6 ≤ room_1.slots) (hz : zI σ) (kk : ∀ σ' : za_S, zI σ' → zV p l e room_1 s m args below meth c E A 8 (cells + 1) (slots + 6) Q 1772 [(4, za_I i), (3, za_O 29 193), (2, za_O 19 93), (1, za_O 0 0), (0, za_O 52 (b + 1))] [] σ') : zV p l e room_1 s m args below meth c E A 8 cells slots Q 1346 [(4, za_I i), (3, za_O 29 193), (2, za_O 19 93), (1, za_O 0 0), (0, za_O 52 (b + 1))] [] σ := by
  have hc1 : cells ≤ room_1.cells := by omega
  have hc2 : slots ≤ room_1.slots := by omega
  refine zv_aload_n (j := 3) G dL_law_1346 rfl rfl ?_
  refine zv_aldR (j := 4) G dL_law_1347 rfl rfl ?_
  refine zv_iload (j := 0) G dL_law_1348 rfl ?_
  refine zv_iconst (v := 1) G dL_law_1350 (by decide) ?_
  refine zv_iadd G dL_law_1351 ?_
  refine zv_scr G hX9 hbl hbA (hin 1 (by decide) (by decide)) dL_law_1352 ?_
  refine zv_callVi (as := [za_I (xs (i + 1).toNatClampNeg)]) G (by decide) rfl rfl (zc_X9_fullest l E (xs (i + 1).toNatClampNeg) σ ) zk_X9_fullest zm_870 rfl ⟨(Nat.le_of_ble_eq_true rfl), (Nat.le_of_ble_eq_true rfl)⟩ ⟨hc1, hc2⟩ (Nat.le_of_ble_eq_true rfl) dL_law_1353 (fun r1 σ1 h1 => ?_)
  have z1 := zI_c hz h1
  refine zv_popI G dL_law_1356 ?_
  refine zv_aload_n (j := 2) G dL_law_1357 rfl rfl ?_
  refine zv_aldR (j := 4) G dL_law_1358 rfl rfl ?_
  refine zv_iload (j := 0) G dL_law_1359 rfl ?_
  refine zv_iconst (v := 1) G dL_law_1361 (by decide) ?_
  refine zv_iadd G dL_law_1362 ?_
  refine zv_scr G hX9 hbl hbA (hin 1 (by decide) (by decide)) dL_law_1363 ?_
  refine zv_callVi (as := [za_I (xs (i + 1).toNatClampNeg)]) G (by decide) rfl rfl (zc_X10_fullest l E (xs (i + 1).toNatClampNeg) σ1 z1.1) zk_X10_fullest zm_1603 rfl ⟨(Nat.le_of_ble_eq_true rfl), (Nat.le_of_ble_eq_true rfl)⟩ ⟨hc1, hc2⟩ (Nat.le_of_ble_eq_true rfl) dL_law_1364 (fun r2 σ2 h2 => ?_)
  have z2 := zI_q z1 h2
  refine zv_popI G dL_law_1367 ?_
  refine zv_goto (tgt := 1772) G dL_law_1368 (by decide) ?_
  refine zv_wid (Nat.le_succ cells) (Nat.le_add_right slots 6) ?_
  exact kk σ2 z2
set_option maxHeartbeats 4000000 in
set_option maxRecDepth 100000 in
theorem zl_28 (hl : l.stackTraces = false) (G : zC p s m args meth c cL_law RL 8 E A) (hX : zX E s s.heap) (hX9 : va_X b L xs s s.heap) (hbl : b < s.heap.size) (hbA : ¬ A b) (hin : ∀ x : Int32, 0 ≤ x.toInt → x.toInt ≤ 5 → vp_in (i + x) L) (hc : cells + 1 ≤ room_1.cells ∧ slots + 6 ≤ room_1.slots) (hz : zI σ) (kk : ∀ σ' : za_S, zI σ' → zV p l e room_1 s m args below meth c E A 8 (cells + 1) (slots + 6) Q 1772 [(4, za_I i), (3, za_O 29 193), (2, za_O 19 93), (1, za_O 0 0), (0, za_O 52 (b + 1))] [] σ') : zV p l e room_1 s m args below meth c E A 8 cells slots Q 1371 [(4, za_I i), (3, za_O 29 193), (2, za_O 19 93), (1, za_O 0 0), (0, za_O 52 (b + 1))] [] σ := by
  have hc1 : cells ≤ room_1.cells := by omega
  have hc2 : slots ≤ room_1.slots := by omega
  refine zv_aload_n (j := 3) G dL_law_1371 rfl rfl ?_
  refine zv_aldR (j := 4) G dL_law_1372 rfl rfl ?_
  refine zv_iload (j := 0) G dL_law_1373 rfl ?_
  refine zv_iconst (v := 1) G dL_law_1375 (by decide) ?_
  refine zv_iadd G dL_law_1376 ?_
  refine zv_scr G hX9 hbl hbA (hin 1 (by decide) (by decide)) dL_law_1377 ?_
  refine zv_aldR (j := 4) G dL_law_1378 rfl rfl ?_
  refine zv_iload (j := 0) G dL_law_1379 rfl ?_
  refine zv_iconst (v := 2) G dL_law_1381 (by decide) ?_
  refine zv_iadd G dL_law_1382 ?_
  refine zv_scr G hX9 hbl hbA (hin 2 (by decide) (by decide)) dL_law_1383 ?_
  refine zv_aldR (j := 4) G dL_law_1384 rfl rfl ?_
  refine zv_iload (j := 0) G dL_law_1385 rfl ?_
  refine zv_iconst (v := 3) G dL_law_1387 (by decide) ?_
  refine zv_iadd G dL_law_1388 ?_
  refine zv_scr G hX9 hbl hbA (hin 3 (by decide) (by decide)) dL_law_1389 ?_
  refine zv_callVi (as := [za_I (xs (i + 1).toNatClampNeg), za_I (xs (i + 2).toNatClampNeg), za_I (xs (i + 3).toNatClampNeg)]) G (by decide) rfl rfl (zc_X9_spans l E (xs (i + 1).toNatClampNeg) (xs (i + 2).toNatClampNeg) (xs (i + 3).toNatClampNeg) σ ) zk_X9_spans zm_874 rfl ⟨(Nat.le_of_ble_eq_true rfl), (Nat.le_of_ble_eq_true rfl)⟩ ⟨hc1, hc2⟩ (Nat.le_of_ble_eq_true rfl) dL_law_1390 (fun r1 σ1 h1 => ?_)
  have z1 := zI_c hz h1
  refine zv_popI G dL_law_1393 ?_
  refine zv_aload_n (j := 2) G dL_law_1394 rfl rfl ?_
  refine zv_aldR (j := 4) G dL_law_1395 rfl rfl ?_
  refine zv_iload (j := 0) G dL_law_1396 rfl ?_
  refine zv_iconst (v := 1) G dL_law_1398 (by decide) ?_
  refine zv_iadd G dL_law_1399 ?_
  refine zv_scr G hX9 hbl hbA (hin 1 (by decide) (by decide)) dL_law_1400 ?_
  refine zv_aldR (j := 4) G dL_law_1401 rfl rfl ?_
  refine zv_iload (j := 0) G dL_law_1402 rfl ?_
  refine zv_iconst (v := 2) G dL_law_1404 (by decide) ?_
  refine zv_iadd G dL_law_1405 ?_
  refine zv_scr G hX9 hbl hbA (hin 2 (by decide) (by decide)) dL_law_1406 ?_
  refine zv_aldR (j := 4) G dL_law_1407 rfl rfl ?_
  refine zv_iload (j := 0) G dL_law_1408 rfl ?_
  refine zv_iconst (v := 3) G dL_law_1410 (by decide) ?_
  refine zv_iadd G dL_law_1411 ?_
  refine zv_scr G hX9 hbl hbA (hin 3 (by decide) (by decide)) dL_law_1412 ?_
  refine zv_callVi (as := [za_I (xs (i + 1).toNatClampNeg), za_I (xs (i + 2).toNatClampNeg), za_I (xs (i + 3).toNatClampNeg)]) G (by decide) rfl rfl (zc_X10_spans l E (xs (i + 1).toNatClampNeg) (xs (i + 2).toNatClampNeg) (xs (i + 3).toNatClampNeg) σ1 z1.1) zk_X10_spans zm_1607 rfl ⟨(Nat.le_of_ble_eq_true rfl), (Nat.le_of_ble_eq_true rfl)⟩ ⟨hc1, hc2⟩ (Nat.le_of_ble_eq_true rfl) dL_law_1413 (fun r2 σ2 h2 => ?_)
  have z2 := zI_q z1 h2
  refine zv_popI G dL_law_1416 ?_
  refine zv_goto (tgt := 1772) G dL_law_1417 (by decide) ?_
  refine zv_wid (Nat.le_succ cells) (Nat.le_add_right slots 6) ?_
  exact kk σ2 z2
set_option maxHeartbeats 4000000 in
set_option maxRecDepth 100000 in
theorem zl_29 (hl : l.stackTraces = false) (G : zC p s m args meth c cL_law RL 8 E A) (hX : zX E s s.heap) (hX9 : va_X b L xs s s.heap) (hbl : b < s.heap.size) (hbA : ¬ A b) (hin : ∀ x : Int32, 0 ≤ x.toInt → x.toInt ≤ 5 → vp_in (i + x) L) (hc : cells + 1 ≤ room_1.cells ∧ slots + 6 ≤ room_1.slots) (hz : zI σ) (kk : ∀ σ' : za_S, zI σ' → zV p l e room_1 s m args below meth c E A 8 (cells + 1) (slots + 6) Q 1772 [(4, za_I i), (3, za_O 29 193), (2, za_O 19 93), (1, za_O 0 0), (0, za_O 52 (b + 1))] [] σ') : zV p l e room_1 s m args below meth c E A 8 cells slots Q 1420 [(4, za_I i), (3, za_O 29 193), (2, za_O 19 93), (1, za_O 0 0), (0, za_O 52 (b + 1))] [] σ := by
  have hc1 : cells ≤ room_1.cells := by omega
  have hc2 : slots ≤ room_1.slots := by omega
  refine zv_aload_n (j := 3) G dL_law_1420 rfl rfl ?_
  refine zv_aldR (j := 4) G dL_law_1421 rfl rfl ?_
  refine zv_iload (j := 0) G dL_law_1422 rfl ?_
  refine zv_iconst (v := 1) G dL_law_1424 (by decide) ?_
  refine zv_iadd G dL_law_1425 ?_
  refine zv_scr G hX9 hbl hbA (hin 1 (by decide) (by decide)) dL_law_1426 ?_
  refine zv_callVi (as := [za_I (xs (i + 1).toNatClampNeg)]) G (by decide) rfl rfl (zc_X9_users l E (xs (i + 1).toNatClampNeg) σ ) zk_X9_users zm_882 rfl ⟨(Nat.le_of_ble_eq_true rfl), (Nat.le_of_ble_eq_true rfl)⟩ ⟨hc1, hc2⟩ (Nat.le_of_ble_eq_true rfl) dL_law_1427 (fun r1 σ1 h1 => ?_)
  have z1 := zI_c hz h1
  refine zv_popI G dL_law_1430 ?_
  refine zv_aload_n (j := 2) G dL_law_1431 rfl rfl ?_
  refine zv_aldR (j := 4) G dL_law_1432 rfl rfl ?_
  refine zv_iload (j := 0) G dL_law_1433 rfl ?_
  refine zv_iconst (v := 1) G dL_law_1435 (by decide) ?_
  refine zv_iadd G dL_law_1436 ?_
  refine zv_scr G hX9 hbl hbA (hin 1 (by decide) (by decide)) dL_law_1437 ?_
  refine zv_callVi (as := [za_I (xs (i + 1).toNatClampNeg)]) G (by decide) rfl rfl (zc_X10_users l E (xs (i + 1).toNatClampNeg) σ1 z1.1) zk_X10_users zm_1623 rfl ⟨(Nat.le_of_ble_eq_true rfl), (Nat.le_of_ble_eq_true rfl)⟩ ⟨hc1, hc2⟩ (Nat.le_of_ble_eq_true rfl) dL_law_1438 (fun r2 σ2 h2 => ?_)
  have z2 := zI_q z1 h2
  refine zv_popI G dL_law_1441 ?_
  refine zv_goto (tgt := 1772) G dL_law_1442 (by decide) ?_
  refine zv_wid (Nat.le_succ cells) (Nat.le_add_right slots 6) ?_
  exact kk σ2 z2
set_option maxHeartbeats 4000000 in
set_option maxRecDepth 100000 in
theorem zl_30 (hl : l.stackTraces = false) (G : zC p s m args meth c cL_law RL 8 E A) (hX : zX E s s.heap) (hX9 : va_X b L xs s s.heap) (hbl : b < s.heap.size) (hbA : ¬ A b) (hin : ∀ x : Int32, 0 ≤ x.toInt → x.toInt ≤ 5 → vp_in (i + x) L) (hc : cells + 1 ≤ room_1.cells ∧ slots + 6 ≤ room_1.slots) (hz : zI σ) (kk : ∀ σ' : za_S, zI σ' → zV p l e room_1 s m args below meth c E A 8 (cells + 1) (slots + 6) Q 1772 [(4, za_I i), (3, za_O 29 193), (2, za_O 19 93), (1, za_O 0 0), (0, za_O 52 (b + 1))] [] σ') : zV p l e room_1 s m args below meth c E A 8 cells slots Q 1445 [(4, za_I i), (3, za_O 29 193), (2, za_O 19 93), (1, za_O 0 0), (0, za_O 52 (b + 1))] [] σ := by
  have hc1 : cells ≤ room_1.cells := by omega
  have hc2 : slots ≤ room_1.slots := by omega
  refine zv_aload_n (j := 3) G dL_law_1445 rfl rfl ?_
  refine zv_aldR (j := 4) G dL_law_1446 rfl rfl ?_
  refine zv_iload (j := 0) G dL_law_1447 rfl ?_
  refine zv_iconst (v := 1) G dL_law_1449 (by decide) ?_
  refine zv_iadd G dL_law_1450 ?_
  refine zv_scr G hX9 hbl hbA (hin 1 (by decide) (by decide)) dL_law_1451 ?_
  refine zv_aldR (j := 4) G dL_law_1452 rfl rfl ?_
  refine zv_iload (j := 0) G dL_law_1453 rfl ?_
  refine zv_iconst (v := 2) G dL_law_1455 (by decide) ?_
  refine zv_iadd G dL_law_1456 ?_
  refine zv_scr G hX9 hbl hbA (hin 2 (by decide) (by decide)) dL_law_1457 ?_
  refine zv_aldR (j := 4) G dL_law_1458 rfl rfl ?_
  refine zv_iload (j := 0) G dL_law_1459 rfl ?_
  refine zv_iconst (v := 3) G dL_law_1461 (by decide) ?_
  refine zv_iadd G dL_law_1462 ?_
  refine zv_scr G hX9 hbl hbA (hin 3 (by decide) (by decide)) dL_law_1463 ?_
  refine zv_callVi (as := [za_I (xs (i + 1).toNatClampNeg), za_I (xs (i + 2).toNatClampNeg), za_I (xs (i + 3).toNatClampNeg)]) G (by decide) rfl rfl (zc_X9_drags l E (xs (i + 1).toNatClampNeg) (xs (i + 2).toNatClampNeg) (xs (i + 3).toNatClampNeg) σ ) zk_X9_drags zm_890 rfl ⟨(Nat.le_of_ble_eq_true rfl), (Nat.le_of_ble_eq_true rfl)⟩ ⟨hc1, hc2⟩ (Nat.le_of_ble_eq_true rfl) dL_law_1464 (fun r1 σ1 h1 => ?_)
  have z1 := zI_c hz h1
  refine zv_popI G dL_law_1467 ?_
  refine zv_aload_n (j := 2) G dL_law_1468 rfl rfl ?_
  refine zv_aldR (j := 4) G dL_law_1469 rfl rfl ?_
  refine zv_iload (j := 0) G dL_law_1470 rfl ?_
  refine zv_iconst (v := 1) G dL_law_1472 (by decide) ?_
  refine zv_iadd G dL_law_1473 ?_
  refine zv_scr G hX9 hbl hbA (hin 1 (by decide) (by decide)) dL_law_1474 ?_
  refine zv_aldR (j := 4) G dL_law_1475 rfl rfl ?_
  refine zv_iload (j := 0) G dL_law_1476 rfl ?_
  refine zv_iconst (v := 2) G dL_law_1478 (by decide) ?_
  refine zv_iadd G dL_law_1479 ?_
  refine zv_scr G hX9 hbl hbA (hin 2 (by decide) (by decide)) dL_law_1480 ?_
  refine zv_aldR (j := 4) G dL_law_1481 rfl rfl ?_
  refine zv_iload (j := 0) G dL_law_1482 rfl ?_
  refine zv_iconst (v := 3) G dL_law_1484 (by decide) ?_
  refine zv_iadd G dL_law_1485 ?_
  refine zv_scr G hX9 hbl hbA (hin 3 (by decide) (by decide)) dL_law_1486 ?_
  refine zv_callVi (as := [za_I (xs (i + 1).toNatClampNeg), za_I (xs (i + 2).toNatClampNeg), za_I (xs (i + 3).toNatClampNeg)]) G (by decide) rfl rfl (zc_X10_drags l E (xs (i + 1).toNatClampNeg) (xs (i + 2).toNatClampNeg) (xs (i + 3).toNatClampNeg) σ1 z1.1) zk_X10_drags zm_1630 rfl ⟨(Nat.le_of_ble_eq_true rfl), (Nat.le_of_ble_eq_true rfl)⟩ ⟨hc1, hc2⟩ (Nat.le_of_ble_eq_true rfl) dL_law_1487 (fun r2 σ2 h2 => ?_)
  have z2 := zI_q z1 h2
  refine zv_popI G dL_law_1490 ?_
  refine zv_goto (tgt := 1772) G dL_law_1491 (by decide) ?_
  refine zv_wid (Nat.le_succ cells) (Nat.le_add_right slots 6) ?_
  exact kk σ2 z2
set_option maxHeartbeats 4000000 in
set_option maxRecDepth 100000 in
theorem zl_31 (hl : l.stackTraces = false) (G : zC p s m args meth c cL_law RL 8 E A) (hX : zX E s s.heap) (hX9 : va_X b L xs s s.heap) (hbl : b < s.heap.size) (hbA : ¬ A b) (hin : ∀ x : Int32, 0 ≤ x.toInt → x.toInt ≤ 5 → vp_in (i + x) L) (hc : cells + 1 ≤ room_1.cells ∧ slots + 6 ≤ room_1.slots) (hz : zI σ) (kk : ∀ σ' : za_S, zI σ' → zV p l e room_1 s m args below meth c E A 8 (cells + 1) (slots + 6) Q 1772 [(4, za_I i), (3, za_O 29 193), (2, za_O 19 93), (1, za_O 0 0), (0, za_O 52 (b + 1))] [] σ') : zV p l e room_1 s m args below meth c E A 8 cells slots Q 1494 [(4, za_I i), (3, za_O 29 193), (2, za_O 19 93), (1, za_O 0 0), (0, za_O 52 (b + 1))] [] σ := by
  have hc1 : cells ≤ room_1.cells := by omega
  have hc2 : slots ≤ room_1.slots := by omega
  refine zv_aload_n (j := 3) G dL_law_1494 rfl rfl ?_
  refine zv_aldR (j := 4) G dL_law_1495 rfl rfl ?_
  refine zv_iload (j := 0) G dL_law_1496 rfl ?_
  refine zv_iconst (v := 1) G dL_law_1498 (by decide) ?_
  refine zv_iadd G dL_law_1499 ?_
  refine zv_scr G hX9 hbl hbA (hin 1 (by decide) (by decide)) dL_law_1500 ?_
  refine zv_callVi (as := [za_I (xs (i + 1).toNatClampNeg)]) G (by decide) rfl rfl (zc_X9_where l E (xs (i + 1).toNatClampNeg) σ ) zk_X9_where zm_894 rfl ⟨(Nat.le_of_ble_eq_true rfl), (Nat.le_of_ble_eq_true rfl)⟩ ⟨hc1, hc2⟩ (Nat.le_of_ble_eq_true rfl) dL_law_1501 (fun r1 σ1 h1 => ?_)
  refine zv_popI G dL_law_1504 ?_
  refine zv_aload_n (j := 2) G dL_law_1505 rfl rfl ?_
  refine zv_aldR (j := 4) G dL_law_1506 rfl rfl ?_
  refine zv_iload (j := 0) G dL_law_1507 rfl ?_
  refine zv_iconst (v := 1) G dL_law_1509 (by decide) ?_
  refine zv_iadd G dL_law_1510 ?_
  refine zv_scr G hX9 hbl hbA (hin 1 (by decide) (by decide)) dL_law_1511 ?_
  refine zv_callVi (as := [za_I (xs (i + 1).toNatClampNeg)]) G (by decide) rfl rfl (zc_X10_where l E (xs (i + 1).toNatClampNeg) σ1 (zJ_c h1.1.1 hz.1)) zk_X10_where zm_1634 rfl ⟨(Nat.le_of_ble_eq_true rfl), (Nat.le_of_ble_eq_true rfl)⟩ ⟨hc1, hc2⟩ (Nat.le_of_ble_eq_true rfl) dL_law_1512 (fun r2 σ2 h2 => ?_)
  have z2 := zI_work hz h1 h2
  refine zv_popI G dL_law_1515 ?_
  refine zv_goto (tgt := 1772) G dL_law_1516 (by decide) ?_
  refine zv_wid (Nat.le_succ cells) (Nat.le_add_right slots 6) ?_
  exact kk σ2 z2
set_option maxHeartbeats 4000000 in
set_option maxRecDepth 100000 in
theorem zl_32 (hl : l.stackTraces = false) (G : zC p s m args meth c cL_law RL 8 E A) (hX : zX E s s.heap) (hX9 : va_X b L xs s s.heap) (hbl : b < s.heap.size) (hbA : ¬ A b) (hin : ∀ x : Int32, 0 ≤ x.toInt → x.toInt ≤ 5 → vp_in (i + x) L) (hc : cells + 1 ≤ room_1.cells ∧ slots + 6 ≤ room_1.slots) (hz : zI σ) (kk : ∀ σ' : za_S, zI σ' → zV p l e room_1 s m args below meth c E A 8 (cells + 1) (slots + 6) Q 1772 [(4, za_I i), (3, za_O 29 193), (2, za_O 19 93), (1, za_O 0 0), (0, za_O 52 (b + 1))] [] σ') : zV p l e room_1 s m args below meth c E A 8 cells slots Q 1519 [(4, za_I i), (3, za_O 29 193), (2, za_O 19 93), (1, za_O 0 0), (0, za_O 52 (b + 1))] [] σ := by
  have hc1 : cells ≤ room_1.cells := by omega
  have hc2 : slots ≤ room_1.slots := by omega
  refine zv_aload_n (j := 3) G dL_law_1519 rfl rfl ?_
  refine zv_aldR (j := 4) G dL_law_1520 rfl rfl ?_
  refine zv_iload (j := 0) G dL_law_1521 rfl ?_
  refine zv_iconst (v := 1) G dL_law_1523 (by decide) ?_
  refine zv_iadd G dL_law_1524 ?_
  refine zv_scr G hX9 hbl hbA (hin 1 (by decide) (by decide)) dL_law_1525 ?_
  refine zv_aldR (j := 4) G dL_law_1526 rfl rfl ?_
  refine zv_iload (j := 0) G dL_law_1527 rfl ?_
  refine zv_iconst (v := 2) G dL_law_1529 (by decide) ?_
  refine zv_iadd G dL_law_1530 ?_
  refine zv_scr G hX9 hbl hbA (hin 2 (by decide) (by decide)) dL_law_1531 ?_
  refine zv_callVi (as := [za_I (xs (i + 1).toNatClampNeg), za_I (xs (i + 2).toNatClampNeg)]) G (by decide) rfl rfl (zc_X9_differs l E (xs (i + 1).toNatClampNeg) (xs (i + 2).toNatClampNeg) σ ) zk_X9_differs zm_1008 rfl ⟨(Nat.le_of_ble_eq_true rfl), (Nat.le_of_ble_eq_true rfl)⟩ ⟨hc1, hc2⟩ (Nat.le_of_ble_eq_true rfl) dL_law_1532 (fun r1 σ1 h1 => ?_)
  have z1 := zI_c hz h1
  refine zv_popI G dL_law_1535 ?_
  refine zv_aload_n (j := 2) G dL_law_1536 rfl rfl ?_
  refine zv_aldR (j := 4) G dL_law_1537 rfl rfl ?_
  refine zv_iload (j := 0) G dL_law_1538 rfl ?_
  refine zv_iconst (v := 1) G dL_law_1540 (by decide) ?_
  refine zv_iadd G dL_law_1541 ?_
  refine zv_scr G hX9 hbl hbA (hin 1 (by decide) (by decide)) dL_law_1542 ?_
  refine zv_aldR (j := 4) G dL_law_1543 rfl rfl ?_
  refine zv_iload (j := 0) G dL_law_1544 rfl ?_
  refine zv_iconst (v := 2) G dL_law_1546 (by decide) ?_
  refine zv_iadd G dL_law_1547 ?_
  refine zv_scr G hX9 hbl hbA (hin 2 (by decide) (by decide)) dL_law_1548 ?_
  refine zv_callVi (as := [za_I (xs (i + 1).toNatClampNeg), za_I (xs (i + 2).toNatClampNeg)]) G (by decide) rfl rfl (zc_X10_differs l E (xs (i + 1).toNatClampNeg) (xs (i + 2).toNatClampNeg) σ1 z1.1) zk_X10_differs zm_1670 rfl ⟨(Nat.le_of_ble_eq_true rfl), (Nat.le_of_ble_eq_true rfl)⟩ ⟨hc1, hc2⟩ (Nat.le_of_ble_eq_true rfl) dL_law_1549 (fun r2 σ2 h2 => ?_)
  have z2 := zI_q z1 h2
  refine zv_popI G dL_law_1552 ?_
  refine zv_goto (tgt := 1772) G dL_law_1553 (by decide) ?_
  refine zv_wid (Nat.le_succ cells) (Nat.le_add_right slots 6) ?_
  exact kk σ2 z2
set_option maxHeartbeats 4000000 in
set_option maxRecDepth 100000 in
theorem zl_33 (hl : l.stackTraces = false) (G : zC p s m args meth c cL_law RL 8 E A) (hX : zX E s s.heap) (hX9 : va_X b L xs s s.heap) (hbl : b < s.heap.size) (hbA : ¬ A b) (hin : ∀ x : Int32, 0 ≤ x.toInt → x.toInt ≤ 5 → vp_in (i + x) L) (hc : cells + 1 ≤ room_1.cells ∧ slots + 6 ≤ room_1.slots) (hz : zI σ) (kk : ∀ σ' : za_S, zI σ' → zV p l e room_1 s m args below meth c E A 8 (cells + 1) (slots + 6) Q 1772 [(4, za_I i), (3, za_O 29 193), (2, za_O 19 93), (1, za_O 0 0), (0, za_O 52 (b + 1))] [] σ') : zV p l e room_1 s m args below meth c E A 8 cells slots Q 1556 [(4, za_I i), (3, za_O 29 193), (2, za_O 19 93), (1, za_O 0 0), (0, za_O 52 (b + 1))] [] σ := by
  have hc1 : cells ≤ room_1.cells := by omega
  have hc2 : slots ≤ room_1.slots := by omega
  refine zv_aload_n (j := 3) G dL_law_1556 rfl rfl ?_
  refine zv_aldR (j := 4) G dL_law_1557 rfl rfl ?_
  refine zv_iload (j := 0) G dL_law_1558 rfl ?_
  refine zv_iconst (v := 1) G dL_law_1560 (by decide) ?_
  refine zv_iadd G dL_law_1561 ?_
  refine zv_scr G hX9 hbl hbA (hin 1 (by decide) (by decide)) dL_law_1562 ?_
  refine zv_aldR (j := 4) G dL_law_1563 rfl rfl ?_
  refine zv_iload (j := 0) G dL_law_1564 rfl ?_
  refine zv_iconst (v := 2) G dL_law_1566 (by decide) ?_
  refine zv_iadd G dL_law_1567 ?_
  refine zv_scr G hX9 hbl hbA (hin 2 (by decide) (by decide)) dL_law_1568 ?_
  refine zv_callVi (as := [za_I (xs (i + 1).toNatClampNeg), za_I (xs (i + 2).toNatClampNeg)]) G (by decide) rfl rfl (zc_X9_heard l E (xs (i + 1).toNatClampNeg) (xs (i + 2).toNatClampNeg) σ (zP_heard hz)) zk_X9_heard zm_1023 rfl ⟨(Nat.le_of_ble_eq_true rfl), (Nat.le_of_ble_eq_true rfl)⟩ ⟨hc1, hc2⟩ (Nat.le_of_ble_eq_true rfl) dL_law_1569 (fun r1 σ1 h1 => ?_)
  refine zv_popI G dL_law_1572 ?_
  refine zv_aload_n (j := 2) G dL_law_1573 rfl rfl ?_
  refine zv_aldR (j := 4) G dL_law_1574 rfl rfl ?_
  refine zv_iload (j := 0) G dL_law_1575 rfl ?_
  refine zv_iconst (v := 1) G dL_law_1577 (by decide) ?_
  refine zv_iadd G dL_law_1578 ?_
  refine zv_scr G hX9 hbl hbA (hin 1 (by decide) (by decide)) dL_law_1579 ?_
  refine zv_aldR (j := 4) G dL_law_1580 rfl rfl ?_
  refine zv_iload (j := 0) G dL_law_1581 rfl ?_
  refine zv_iconst (v := 2) G dL_law_1583 (by decide) ?_
  refine zv_iadd G dL_law_1584 ?_
  refine zv_scr G hX9 hbl hbA (hin 2 (by decide) (by decide)) dL_law_1585 ?_
  refine zv_callVi (as := [za_I (xs (i + 1).toNatClampNeg), za_I (xs (i + 2).toNatClampNeg)]) G (by decide) rfl rfl (zc_X10_heard l E (xs (i + 1).toNatClampNeg) (xs (i + 2).toNatClampNeg) σ1 (zM_heard hz h1)) zk_X10_heard zm_1674 rfl ⟨(Nat.le_of_ble_eq_true rfl), (Nat.le_of_ble_eq_true rfl)⟩ ⟨hc1, hc2⟩ (Nat.le_of_ble_eq_true rfl) dL_law_1586 (fun r2 σ2 h2 => ?_)
  obtain ⟨z2, e2⟩ := zI_heard hz h1 h2
  refine zv_popI G dL_law_1589 ?_
  refine zv_goto (tgt := 1772) G dL_law_1590 (by decide) ?_
  refine zv_wid (Nat.le_succ cells) (Nat.le_add_right slots 6) ?_
  exact kk σ2 z2
set_option maxHeartbeats 4000000 in
set_option maxRecDepth 100000 in
theorem zl_34 (hl : l.stackTraces = false) (G : zC p s m args meth c cL_law RL 8 E A) (hX : zX E s s.heap) (hX9 : va_X b L xs s s.heap) (hbl : b < s.heap.size) (hbA : ¬ A b) (hin : ∀ x : Int32, 0 ≤ x.toInt → x.toInt ≤ 5 → vp_in (i + x) L) (hc : cells + 1 ≤ room_1.cells ∧ slots + 6 ≤ room_1.slots) (hz : zI σ) (kk : ∀ σ' : za_S, zI σ' → zV p l e room_1 s m args below meth c E A 8 (cells + 1) (slots + 6) Q 1772 [(4, za_I i), (3, za_O 29 193), (2, za_O 19 93), (1, za_O 0 0), (0, za_O 52 (b + 1))] [] σ') : zV p l e room_1 s m args below meth c E A 8 cells slots Q 1593 [(4, za_I i), (3, za_O 29 193), (2, za_O 19 93), (1, za_O 0 0), (0, za_O 52 (b + 1))] [] σ := by
  have hc1 : cells ≤ room_1.cells := by omega
  have hc2 : slots ≤ room_1.slots := by omega
  refine zv_aload_n (j := 3) G dL_law_1593 rfl rfl ?_
  refine zv_callVi (as := []) G (by decide) rfl rfl (zc_X9_denies l E  σ ) zk_X9_denies zm_1031 rfl ⟨(Nat.le_of_ble_eq_true rfl), (Nat.le_of_ble_eq_true rfl)⟩ ⟨hc1, hc2⟩ (Nat.le_of_ble_eq_true rfl) dL_law_1594 (fun r1 σ1 h1 => ?_)
  refine zv_popI G dL_law_1597 ?_
  refine zv_aload_n (j := 2) G dL_law_1598 rfl rfl ?_
  refine zv_callVi (as := []) G (by decide) rfl rfl (zc_X10_denies l E  σ1 ) zk_X10_denies zm_1681 rfl ⟨(Nat.le_of_ble_eq_true rfl), (Nat.le_of_ble_eq_true rfl)⟩ ⟨hc1, hc2⟩ (Nat.le_of_ble_eq_true rfl) dL_law_1599 (fun r2 σ2 h2 => ?_)
  obtain ⟨z2, e2⟩ := zI_denies hz h1 h2
  refine zv_popI G dL_law_1602 ?_
  refine zv_goto (tgt := 1772) G dL_law_1603 (by decide) ?_
  refine zv_wid (Nat.le_succ cells) (Nat.le_add_right slots 6) ?_
  exact kk σ2 z2
set_option maxHeartbeats 4000000 in
set_option maxRecDepth 100000 in
theorem zl_35 (hl : l.stackTraces = false) (G : zC p s m args meth c cL_law RL 8 E A) (hX : zX E s s.heap) (hX9 : va_X b L xs s s.heap) (hbl : b < s.heap.size) (hbA : ¬ A b) (hin : ∀ x : Int32, 0 ≤ x.toInt → x.toInt ≤ 5 → vp_in (i + x) L) (hc : cells + 1 ≤ room_1.cells ∧ slots + 6 ≤ room_1.slots) (hz : zI σ) (kk : ∀ σ' : za_S, zI σ' → zV p l e room_1 s m args below meth c E A 8 (cells + 1) (slots + 6) Q 1772 [(4, za_I i), (3, za_O 29 193), (2, za_O 19 93), (1, za_O 0 0), (0, za_O 52 (b + 1))] [] σ') : zV p l e room_1 s m args below meth c E A 8 cells slots Q 1606 [(4, za_I i), (3, za_O 29 193), (2, za_O 19 93), (1, za_O 0 0), (0, za_O 52 (b + 1))] [] σ := by
  have hc1 : cells ≤ room_1.cells := by omega
  have hc2 : slots ≤ room_1.slots := by omega
  refine zv_aload_n (j := 3) G dL_law_1606 rfl rfl ?_
  refine zv_callVi (as := []) G (by decide) rfl rfl (zc_X9_fits l E  σ ) zk_X9_fits zm_1035 rfl ⟨(Nat.le_of_ble_eq_true rfl), (Nat.le_of_ble_eq_true rfl)⟩ ⟨hc1, hc2⟩ (Nat.le_of_ble_eq_true rfl) dL_law_1607 (fun r1 σ1 h1 => ?_)
  have z1 := zI_c hz h1
  refine zv_popI G dL_law_1610 ?_
  refine zv_aload_n (j := 2) G dL_law_1611 rfl rfl ?_
  refine zv_callVi (as := []) G (by decide) rfl rfl (zc_X10_fits l E  σ1 z1.1) zk_X10_fits zm_1685 rfl ⟨(Nat.le_of_ble_eq_true rfl), (Nat.le_of_ble_eq_true rfl)⟩ ⟨hc1, hc2⟩ (Nat.le_of_ble_eq_true rfl) dL_law_1612 (fun r2 σ2 h2 => ?_)
  have z2 := zI_q z1 h2
  refine zv_popI G dL_law_1615 ?_
  refine zv_goto (tgt := 1772) G dL_law_1616 (by decide) ?_
  refine zv_wid (Nat.le_succ cells) (Nat.le_add_right slots 6) ?_
  exact kk σ2 z2
set_option maxHeartbeats 4000000 in
set_option maxRecDepth 100000 in
theorem zl_36 (hl : l.stackTraces = false) (G : zC p s m args meth c cL_law RL 8 E A) (hX : zX E s s.heap) (hX9 : va_X b L xs s s.heap) (hbl : b < s.heap.size) (hbA : ¬ A b) (hin : ∀ x : Int32, 0 ≤ x.toInt → x.toInt ≤ 5 → vp_in (i + x) L) (hc : cells + 1 ≤ room_1.cells ∧ slots + 6 ≤ room_1.slots) (hz : zI σ) (kk : ∀ σ' : za_S, zI σ' → zV p l e room_1 s m args below meth c E A 8 (cells + 1) (slots + 6) Q 1772 [(4, za_I i), (3, za_O 29 193), (2, za_O 19 93), (1, za_O 0 0), (0, za_O 52 (b + 1))] [] σ') : zV p l e room_1 s m args below meth c E A 8 cells slots Q 1619 [(4, za_I i), (3, za_O 29 193), (2, za_O 19 93), (1, za_O 0 0), (0, za_O 52 (b + 1))] [] σ := by
  have hc1 : cells ≤ room_1.cells := by omega
  have hc2 : slots ≤ room_1.slots := by omega
  refine zv_aload_n (j := 3) G dL_law_1619 rfl rfl ?_
  refine zv_callVi (as := []) G (by decide) rfl rfl (zc_X9_asks l E  σ ) zk_X9_asks zm_1055 rfl ⟨(Nat.le_of_ble_eq_true rfl), (Nat.le_of_ble_eq_true rfl)⟩ ⟨hc1, hc2⟩ (Nat.le_of_ble_eq_true rfl) dL_law_1620 (fun r1 σ1 h1 => ?_)
  have z1 := zI_c hz h1
  refine zv_popI G dL_law_1623 ?_
  refine zv_aload_n (j := 2) G dL_law_1624 rfl rfl ?_
  refine zv_callVi (as := []) G (by decide) rfl rfl (zc_X10_asks l E  σ1 z1.1) zk_X10_asks zm_1697 rfl ⟨(Nat.le_of_ble_eq_true rfl), (Nat.le_of_ble_eq_true rfl)⟩ ⟨hc1, hc2⟩ (Nat.le_of_ble_eq_true rfl) dL_law_1625 (fun r2 σ2 h2 => ?_)
  have z2 := zI_q z1 h2
  refine zv_popI G dL_law_1628 ?_
  refine zv_goto (tgt := 1772) G dL_law_1629 (by decide) ?_
  refine zv_wid (Nat.le_succ cells) (Nat.le_add_right slots 6) ?_
  exact kk σ2 z2
set_option maxHeartbeats 4000000 in
set_option maxRecDepth 100000 in
theorem zl_37 (hl : l.stackTraces = false) (G : zC p s m args meth c cL_law RL 8 E A) (hX : zX E s s.heap) (hX9 : va_X b L xs s s.heap) (hbl : b < s.heap.size) (hbA : ¬ A b) (hin : ∀ x : Int32, 0 ≤ x.toInt → x.toInt ≤ 5 → vp_in (i + x) L) (hc : cells + 1 ≤ room_1.cells ∧ slots + 6 ≤ room_1.slots) (hz : zI σ) (kk : ∀ σ' : za_S, zI σ' → zV p l e room_1 s m args below meth c E A 8 (cells + 1) (slots + 6) Q 1772 [(4, za_I i), (3, za_O 29 193), (2, za_O 19 93), (1, za_O 0 0), (0, za_O 52 (b + 1))] [] σ') : zV p l e room_1 s m args below meth c E A 8 cells slots Q 1632 [(4, za_I i), (3, za_O 29 193), (2, za_O 19 93), (1, za_O 0 0), (0, za_O 52 (b + 1))] [] σ := by
  have hc1 : cells ≤ room_1.cells := by omega
  have hc2 : slots ≤ room_1.slots := by omega
  refine zv_aload_n (j := 3) G dL_law_1632 rfl rfl ?_
  refine zv_aldR (j := 4) G dL_law_1633 rfl rfl ?_
  refine zv_iload (j := 0) G dL_law_1634 rfl ?_
  refine zv_iconst (v := 1) G dL_law_1636 (by decide) ?_
  refine zv_iadd G dL_law_1637 ?_
  refine zv_scr G hX9 hbl hbA (hin 1 (by decide) (by decide)) dL_law_1638 ?_
  refine zv_aldR (j := 4) G dL_law_1639 rfl rfl ?_
  refine zv_iload (j := 0) G dL_law_1640 rfl ?_
  refine zv_iconst (v := 2) G dL_law_1642 (by decide) ?_
  refine zv_iadd G dL_law_1643 ?_
  refine zv_scr G hX9 hbl hbA (hin 2 (by decide) (by decide)) dL_law_1644 ?_
  refine zv_callVi (as := [za_I (xs (i + 1).toNatClampNeg), za_I (xs (i + 2).toNatClampNeg)]) G (by decide) rfl rfl (zc_X9_years l E (xs (i + 1).toNatClampNeg) (xs (i + 2).toNatClampNeg) σ ) zk_X9_years zm_1059 rfl ⟨(Nat.le_of_ble_eq_true rfl), (Nat.le_of_ble_eq_true rfl)⟩ ⟨hc1, hc2⟩ (Nat.le_of_ble_eq_true rfl) dL_law_1645 (fun r1 σ1 h1 => ?_)
  have z1 := zI_c hz h1
  refine zv_popI G dL_law_1648 ?_
  refine zv_aload_n (j := 2) G dL_law_1649 rfl rfl ?_
  refine zv_aldR (j := 4) G dL_law_1650 rfl rfl ?_
  refine zv_iload (j := 0) G dL_law_1651 rfl ?_
  refine zv_iconst (v := 1) G dL_law_1653 (by decide) ?_
  refine zv_iadd G dL_law_1654 ?_
  refine zv_scr G hX9 hbl hbA (hin 1 (by decide) (by decide)) dL_law_1655 ?_
  refine zv_aldR (j := 4) G dL_law_1656 rfl rfl ?_
  refine zv_iload (j := 0) G dL_law_1657 rfl ?_
  refine zv_iconst (v := 2) G dL_law_1659 (by decide) ?_
  refine zv_iadd G dL_law_1660 ?_
  refine zv_scr G hX9 hbl hbA (hin 2 (by decide) (by decide)) dL_law_1661 ?_
  refine zv_callVi (as := [za_I (xs (i + 1).toNatClampNeg), za_I (xs (i + 2).toNatClampNeg)]) G (by decide) rfl rfl (zc_X10_years l E (xs (i + 1).toNatClampNeg) (xs (i + 2).toNatClampNeg) σ1 z1.1) zk_X10_years zm_1705 rfl ⟨(Nat.le_of_ble_eq_true rfl), (Nat.le_of_ble_eq_true rfl)⟩ ⟨hc1, hc2⟩ (Nat.le_of_ble_eq_true rfl) dL_law_1662 (fun r2 σ2 h2 => ?_)
  have z2 := zI_q z1 h2
  refine zv_popI G dL_law_1665 ?_
  refine zv_goto (tgt := 1772) G dL_law_1666 (by decide) ?_
  refine zv_wid (Nat.le_succ cells) (Nat.le_add_right slots 6) ?_
  exact kk σ2 z2
set_option maxHeartbeats 4000000 in
set_option maxRecDepth 100000 in
theorem zl_38 (hl : l.stackTraces = false) (G : zC p s m args meth c cL_law RL 8 E A) (hX : zX E s s.heap) (hX9 : va_X b L xs s s.heap) (hbl : b < s.heap.size) (hbA : ¬ A b) (hin : ∀ x : Int32, 0 ≤ x.toInt → x.toInt ≤ 5 → vp_in (i + x) L) (hc : cells + 1 ≤ room_1.cells ∧ slots + 6 ≤ room_1.slots) (hz : zI σ) (kk : ∀ σ' : za_S, zI σ' → zV p l e room_1 s m args below meth c E A 8 (cells + 1) (slots + 6) Q 1772 [(4, za_I i), (3, za_O 29 193), (2, za_O 19 93), (1, za_O 0 0), (0, za_O 52 (b + 1))] [] σ') : zV p l e room_1 s m args below meth c E A 8 cells slots Q 1669 [(4, za_I i), (3, za_O 29 193), (2, za_O 19 93), (1, za_O 0 0), (0, za_O 52 (b + 1))] [] σ := by
  have hc1 : cells ≤ room_1.cells := by omega
  have hc2 : slots ≤ room_1.slots := by omega
  refine zv_aload_n (j := 3) G dL_law_1669 rfl rfl ?_
  refine zv_aldR (j := 4) G dL_law_1670 rfl rfl ?_
  refine zv_iload (j := 0) G dL_law_1671 rfl ?_
  refine zv_iconst (v := 1) G dL_law_1673 (by decide) ?_
  refine zv_iadd G dL_law_1674 ?_
  refine zv_scr G hX9 hbl hbA (hin 1 (by decide) (by decide)) dL_law_1675 ?_
  refine zv_callVi (as := [za_I (xs (i + 1).toNatClampNeg)]) G (by decide) rfl rfl (zc_X9_keep l E (xs (i + 1).toNatClampNeg) σ ) zk_X9_keep zm_1076 rfl ⟨(Nat.le_of_ble_eq_true rfl), (Nat.le_of_ble_eq_true rfl)⟩ ⟨hc1, hc2⟩ (Nat.le_of_ble_eq_true rfl) dL_law_1676 (fun r1 σ1 h1 => ?_)
  refine zv_popI G dL_law_1679 ?_
  refine zv_aload_n (j := 2) G dL_law_1680 rfl rfl ?_
  refine zv_aldR (j := 4) G dL_law_1681 rfl rfl ?_
  refine zv_iload (j := 0) G dL_law_1682 rfl ?_
  refine zv_iconst (v := 1) G dL_law_1684 (by decide) ?_
  refine zv_iadd G dL_law_1685 ?_
  refine zv_scr G hX9 hbl hbA (hin 1 (by decide) (by decide)) dL_law_1686 ?_
  refine zv_callVi (as := [za_I (xs (i + 1).toNatClampNeg)]) G (by decide) rfl rfl (zc_X10_keep l E (xs (i + 1).toNatClampNeg) σ1 (zM_keep hz h1)) zk_X10_keep zm_1719 rfl ⟨(Nat.le_of_ble_eq_true rfl), (Nat.le_of_ble_eq_true rfl)⟩ ⟨hc1, hc2⟩ (Nat.le_of_ble_eq_true rfl) dL_law_1687 (fun r2 σ2 h2 => ?_)
  obtain ⟨z2, e2⟩ := zI_keep hz h1 h2
  refine zv_popI G dL_law_1690 ?_
  refine zv_goto (tgt := 1772) G dL_law_1691 (by decide) ?_
  refine zv_wid (Nat.le_succ cells) (Nat.le_add_right slots 6) ?_
  exact kk σ2 z2
set_option maxHeartbeats 4000000 in
set_option maxRecDepth 100000 in
theorem zl_39 (hl : l.stackTraces = false) (G : zC p s m args meth c cL_law RL 8 E A) (hX : zX E s s.heap) (hX9 : va_X b L xs s s.heap) (hbl : b < s.heap.size) (hbA : ¬ A b) (hin : ∀ x : Int32, 0 ≤ x.toInt → x.toInt ≤ 5 → vp_in (i + x) L) (hc : cells + 1 ≤ room_1.cells ∧ slots + 6 ≤ room_1.slots) (hz : zI σ) (kk : ∀ σ' : za_S, zI σ' → zV p l e room_1 s m args below meth c E A 8 (cells + 1) (slots + 6) Q 1772 [(4, za_I i), (3, za_O 29 193), (2, za_O 19 93), (1, za_O 0 0), (0, za_O 52 (b + 1))] [] σ') : zV p l e room_1 s m args below meth c E A 8 cells slots Q 1694 [(4, za_I i), (3, za_O 29 193), (2, za_O 19 93), (1, za_O 0 0), (0, za_O 52 (b + 1))] [] σ := by
  have hc1 : cells ≤ room_1.cells := by omega
  have hc2 : slots ≤ room_1.slots := by omega
  refine zv_aload_n (j := 3) G dL_law_1694 rfl rfl ?_
  refine zv_aldR (j := 4) G dL_law_1695 rfl rfl ?_
  refine zv_iload (j := 0) G dL_law_1696 rfl ?_
  refine zv_iconst (v := 1) G dL_law_1698 (by decide) ?_
  refine zv_iadd G dL_law_1699 ?_
  refine zv_scr G hX9 hbl hbA (hin 1 (by decide) (by decide)) dL_law_1700 ?_
  refine zv_callVi (as := [za_I (xs (i + 1).toNatClampNeg)]) G (by decide) rfl rfl (zc_X9_again l E (xs (i + 1).toNatClampNeg) σ ) zk_X9_again zm_1080 rfl ⟨(Nat.le_of_ble_eq_true rfl), (Nat.le_of_ble_eq_true rfl)⟩ ⟨hc1, hc2⟩ (Nat.le_of_ble_eq_true rfl) dL_law_1701 (fun r1 σ1 h1 => ?_)
  refine zv_aload_n (j := 2) G dL_law_1704 rfl rfl ?_
  refine zv_aldR (j := 4) G dL_law_1705 rfl rfl ?_
  refine zv_iload (j := 0) G dL_law_1706 rfl ?_
  refine zv_iconst (v := 1) G dL_law_1708 (by decide) ?_
  refine zv_iadd G dL_law_1709 ?_
  refine zv_scr G hX9 hbl hbA (hin 1 (by decide) (by decide)) dL_law_1710 ?_
  refine zv_callVi (as := [za_I (xs (i + 1).toNatClampNeg)]) G (by decide) rfl rfl (zc_X10_again l E (xs (i + 1).toNatClampNeg) σ1 (zI_c hz h1.2.1).1) zk_X10_again zm_1723 rfl ⟨(Nat.le_of_ble_eq_true rfl), (Nat.le_of_ble_eq_true rfl)⟩ ⟨hc1, hc2⟩ (Nat.le_of_ble_eq_true rfl) dL_law_1711 (fun r2 σ2 h2 => ?_)
  obtain ⟨z2, e2⟩ := zI_again hz h1 h2
  refine zv_icmp_eq (tgt := 1772) G dL_law_1714 (by decide) (fun _ => ?_) (fun c9 => absurd e2 c9)
  refine zv_wid (Nat.le_succ cells) (Nat.le_add_right slots 6) ?_
  exact kk σ2 z2
set_option maxHeartbeats 4000000 in
set_option maxRecDepth 100000 in
theorem zl_40 (hl : l.stackTraces = false) (G : zC p s m args meth c cL_law RL 8 E A) (hX : zX E s s.heap) (hX9 : va_X b L xs s s.heap) (hbl : b < s.heap.size) (hbA : ¬ A b) (hin : ∀ x : Int32, 0 ≤ x.toInt → x.toInt ≤ 5 → vp_in (i + x) L) (hc : cells + 1 ≤ room_1.cells ∧ slots + 6 ≤ room_1.slots) (hz : zI σ) (kk : ∀ σ' : za_S, zI σ' → zV p l e room_1 s m args below meth c E A 8 (cells + 1) (slots + 6) Q 1772 [(4, za_I i), (3, za_O 29 193), (2, za_O 19 93), (1, za_O 0 0), (0, za_O 52 (b + 1))] [] σ') : zV p l e room_1 s m args below meth c E A 8 cells slots Q 1719 [(4, za_I i), (3, za_O 29 193), (2, za_O 19 93), (1, za_O 0 0), (0, za_O 52 (b + 1))] [] σ := by
  have hc1 : cells ≤ room_1.cells := by omega
  have hc2 : slots ≤ room_1.slots := by omega
  refine zv_aload_n (j := 3) G dL_law_1719 rfl rfl ?_
  refine zv_aldR (j := 4) G dL_law_1720 rfl rfl ?_
  refine zv_iload (j := 0) G dL_law_1721 rfl ?_
  refine zv_iconst (v := 1) G dL_law_1723 (by decide) ?_
  refine zv_iadd G dL_law_1724 ?_
  refine zv_scr G hX9 hbl hbA (hin 1 (by decide) (by decide)) dL_law_1725 ?_
  refine zv_callVi (as := [za_I (xs (i + 1).toNatClampNeg)]) G (by decide) rfl rfl (zc_X9_count l E (xs (i + 1).toNatClampNeg) σ ) zk_X9_count zm_1084 rfl ⟨(Nat.le_of_ble_eq_true rfl), (Nat.le_of_ble_eq_true rfl)⟩ ⟨hc1, hc2⟩ (Nat.le_of_ble_eq_true rfl) dL_law_1726 (fun r1 σ1 h1 => ?_)
  have z1 := zI_e hz h1
  refine zv_popI G dL_law_1729 ?_
  refine zv_aload_n (j := 2) G dL_law_1730 rfl rfl ?_
  refine zv_aldR (j := 4) G dL_law_1731 rfl rfl ?_
  refine zv_iload (j := 0) G dL_law_1732 rfl ?_
  refine zv_iconst (v := 1) G dL_law_1734 (by decide) ?_
  refine zv_iadd G dL_law_1735 ?_
  refine zv_scr G hX9 hbl hbA (hin 1 (by decide) (by decide)) dL_law_1736 ?_
  refine zv_callVi (as := [za_I (xs (i + 1).toNatClampNeg)]) G (by decide) rfl rfl (zc_X10_count l E (xs (i + 1).toNatClampNeg) σ1 z1.1) zk_X10_count zm_1727 rfl ⟨(Nat.le_of_ble_eq_true rfl), (Nat.le_of_ble_eq_true rfl)⟩ ⟨hc1, hc2⟩ (Nat.le_of_ble_eq_true rfl) dL_law_1737 (fun r2 σ2 h2 => ?_)
  have z2 := zI_q z1 h2
  refine zv_popI G dL_law_1740 ?_
  refine zv_goto (tgt := 1772) G dL_law_1741 (by decide) ?_
  refine zv_wid (Nat.le_succ cells) (Nat.le_add_right slots 6) ?_
  exact kk σ2 z2
set_option maxHeartbeats 4000000 in
set_option maxRecDepth 100000 in
theorem zl_41 (hl : l.stackTraces = false) (G : zC p s m args meth c cL_law RL 8 E A) (hX : zX E s s.heap) (hX9 : va_X b L xs s s.heap) (hbl : b < s.heap.size) (hbA : ¬ A b) (hin : ∀ x : Int32, 0 ≤ x.toInt → x.toInt ≤ 5 → vp_in (i + x) L) (hc : cells + 1 ≤ room_1.cells ∧ slots + 6 ≤ room_1.slots) (hz : zI σ) (kk : ∀ σ' : za_S, zI σ' → zV p l e room_1 s m args below meth c E A 8 (cells + 1) (slots + 6) Q 1772 [(4, za_I i), (3, za_O 29 193), (2, za_O 19 93), (1, za_O 0 0), (0, za_O 52 (b + 1))] [] σ') : zV p l e room_1 s m args below meth c E A 8 cells slots Q 1744 [(4, za_I i), (3, za_O 29 193), (2, za_O 19 93), (1, za_O 0 0), (0, za_O 52 (b + 1))] [] σ := by
  have hc1 : cells ≤ room_1.cells := by omega
  have hc2 : slots ≤ room_1.slots := by omega
  refine zv_aload_n (j := 3) G dL_law_1744 rfl rfl ?_
  refine zv_aldR (j := 4) G dL_law_1745 rfl rfl ?_
  refine zv_iload (j := 0) G dL_law_1746 rfl ?_
  refine zv_iconst (v := 1) G dL_law_1748 (by decide) ?_
  refine zv_iadd G dL_law_1749 ?_
  refine zv_scr G hX9 hbl hbA (hin 1 (by decide) (by decide)) dL_law_1750 ?_
  refine zv_aload_n (j := 1) G dL_law_1751 rfl rfl ?_
  refine zvy_callS (n := 3) (as := [za_O 0 0, za_I (xs (i + 1).toNatClampNeg), za_O 29 193]) G hX (zy_row l hl E (xs (i + 1).toNatClampNeg) σ) zm_1162 zm_131 zm_1163x ⟨by decide +kernel, by decide +kernel, by decide +kernel⟩ zm_1161 rfl ⟨(Nat.le_of_ble_eq_true rfl), (Nat.le_of_ble_eq_true rfl)⟩ hc (Nat.le_of_ble_eq_true rfl) dL_law_1752 (fun r1 σ1 h1 => ?_)
  have z1 := zI_o hz h1
  refine zv_istore G dL_law_1755 (by decide) rfl ?_
  refine zv_aload_n (j := 3) G dL_law_1757 rfl rfl ?_
  refine zv_aldR (j := 5) G dL_law_1758 rfl rfl ?_
  refine zv_iload (j := 1) G dL_law_1759 rfl ?_
  refine zv_iconst (v := 1) G dL_law_1761 (by decide) ?_
  refine zv_iadd G dL_law_1762 ?_
  refine zv_scr G hX9 hbl hbA (hin 1 (by decide) (by decide)) dL_law_1763 ?_
  refine zv_callVl (as := [za_I (xs (i + 1).toNatClampNeg)]) G (by decide) rfl rfl (zc_X10_row l E (xs (i + 1).toNatClampNeg) σ1 z1.1) zk_X10_row zm_1731 rfl ⟨(Nat.le_of_ble_eq_true rfl), (Nat.le_of_ble_eq_true rfl)⟩ ⟨hc.1, hc.2⟩ (Nat.le_of_ble_eq_true rfl) dL_law_1764 (fun r2 σ2 h2 => ?_)
  have z2 := zI_q z1 h2
  refine zv_lstore G dL_law_1767 (by decide) rfl ?_
  refine zv_goto (tgt := 1772) G dL_law_1769 (by decide) ?_
  refine zv_sub [2, 3, 4, 5, 6] rfl ?_
  exact kk σ2 z2
set_option maxHeartbeats 4000000 in
set_option maxRecDepth 100000 in
theorem zl_turn (hl : l.stackTraces = false) (G : zC p s m args meth c cL_law RL 8 E A) (hX : zX E s s.heap) (hX9 : va_X b L xs s s.heap) (hbl : b < s.heap.size) (hbA : ¬ A b) (hin : ∀ x : Int32, 0 ≤ x.toInt → x.toInt ≤ 5 → vp_in (i + x) L) (hi0 : vp_in i L) (hc : cells + 1 ≤ room_1.cells ∧ slots + 6 ≤ room_1.slots) (hz : zI σ) (kk : ∀ σ' : za_S, zI σ' → zV p l e room_1 s m args below meth c E A 8 (cells + 1) (slots + 6) Q 1772 [(4, za_I i), (3, za_O 29 193), (2, za_O 19 93), (1, za_O 0 0), (0, za_O 52 (b + 1))] [] σ') : zV p l e room_1 s m args below meth c E A 8 cells slots Q 33 [(4, za_I i), (3, za_O 29 193), (2, za_O 19 93), (1, za_O 0 0), (0, za_O 52 (b + 1))] [] σ := by
  refine zv_aldR (j := 4) G dL_law_33 rfl rfl ?_
  refine zv_iload (j := 0) G dL_law_34 rfl ?_
  refine zv_scr G hX9 hbl hbA hi0 dL_law_36 ?_
  refine zv_bipush (v := 63) G dL_law_37 (by decide) ?_
  refine zv_iand G dL_law_39 ?_
  refine zv_top (fun x _ => ?_)
  rcases Decidable.em (x = 0) with q0 | q0
  · refine zv_tabIn (off := 184) (tgt := 224) G dL_law_40 (by rw [q0]; decide) (by rw [q0]; decide) (by rw [q0]; rfl) (by decide) ?_
    exact zl_0 hl G hX hX9 hbl hbA hin hc hz kk
  rcases Decidable.em (x = 1) with q1 | q1
  · refine zv_tabIn (off := 209) (tgt := 249) G dL_law_40 (by rw [q1]; decide) (by rw [q1]; decide) (by rw [q1]; rfl) (by decide) ?_
    exact zl_1 hl G hX hX9 hbl hbA hin hc hz kk
  rcases Decidable.em (x = 2) with q2 | q2
  · refine zv_tabIn (off := 234) (tgt := 274) G dL_law_40 (by rw [q2]; decide) (by rw [q2]; decide) (by rw [q2]; rfl) (by decide) ?_
    exact zl_2 hl G hX hX9 hbl hbA hin hc hz kk
  rcases Decidable.em (x = 3) with q3 | q3
  · refine zv_tabIn (off := 286) (tgt := 326) G dL_law_40 (by rw [q3]; decide) (by rw [q3]; decide) (by rw [q3]; rfl) (by decide) ?_
    exact zl_3 hl G hX hX9 hbl hbA hin hc hz kk
  rcases Decidable.em (x = 4) with q4 | q4
  · refine zv_tabIn (off := 347) (tgt := 387) G dL_law_40 (by rw [q4]; decide) (by rw [q4]; decide) (by rw [q4]; rfl) (by decide) ?_
    exact zl_4 hl G hX hX9 hbl hbA hin hc hz kk
  rcases Decidable.em (x = 5) with q5 | q5
  · refine zv_tabIn (off := 420) (tgt := 460) G dL_law_40 (by rw [q5]; decide) (by rw [q5]; decide) (by rw [q5]; rfl) (by decide) ?_
    exact zl_5 hl G hX hX9 hbl hbA hin hc hz kk
  rcases Decidable.em (x = 6) with q6 | q6
  · refine zv_tabIn (off := 493) (tgt := 533) G dL_law_40 (by rw [q6]; decide) (by rw [q6]; decide) (by rw [q6]; rfl) (by decide) ?_
    exact zl_6 hl G hX hX9 hbl hbA hin hc hz kk
  rcases Decidable.em (x = 7) with q7 | q7
  · refine zv_tabIn (off := 554) (tgt := 594) G dL_law_40 (by rw [q7]; decide) (by rw [q7]; decide) (by rw [q7]; rfl) (by decide) ?_
    exact zl_7 hl G hX hX9 hbl hbA hin hc hz kk
  rcases Decidable.em (x = 8) with q8 | q8
  · refine zv_tabIn (off := 615) (tgt := 655) G dL_law_40 (by rw [q8]; decide) (by rw [q8]; decide) (by rw [q8]; rfl) (by decide) ?_
    exact zl_8 hl G hX hX9 hbl hbA hin hc hz kk
  rcases Decidable.em (x = 9) with q9 | q9
  · refine zv_tabIn (off := 664) (tgt := 704) G dL_law_40 (by rw [q9]; decide) (by rw [q9]; decide) (by rw [q9]; rfl) (by decide) ?_
    exact zl_9 hl G hX hX9 hbl hbA hin hc hz kk
  rcases Decidable.em (x = 10) with q10 | q10
  · refine zv_tabIn (off := 689) (tgt := 729) G dL_law_40 (by rw [q10]; decide) (by rw [q10]; decide) (by rw [q10]; rfl) (by decide) ?_
    exact zl_10 hl G hX hX9 hbl hbA hin hc hz kk
  rcases Decidable.em (x = 11) with q11 | q11
  · refine zv_tabIn (off := 714) (tgt := 754) G dL_law_40 (by rw [q11]; decide) (by rw [q11]; decide) (by rw [q11]; rfl) (by decide) ?_
    exact zl_11 hl G hX hX9 hbl hbA hin hc hz kk
  rcases Decidable.em (x = 12) with q12 | q12
  · refine zv_tabIn (off := 727) (tgt := 767) G dL_law_40 (by rw [q12]; decide) (by rw [q12]; decide) (by rw [q12]; rfl) (by decide) ?_
    exact zl_12 hl G hX hX9 hbl hbA hin hc hz kk
  rcases Decidable.em (x = 13) with q13 | q13
  · refine zv_tabIn (off := 740) (tgt := 780) G dL_law_40 (by rw [q13]; decide) (by rw [q13]; decide) (by rw [q13]; rfl) (by decide) ?_
    exact zl_13 hl G hX hX9 hbl hbA hin hc hz kk
  rcases Decidable.em (x = 14) with q14 | q14
  · refine zv_tabIn (off := 789) (tgt := 829) G dL_law_40 (by rw [q14]; decide) (by rw [q14]; decide) (by rw [q14]; rfl) (by decide) ?_
    exact zl_14 hl G hX hX9 hbl hbA hin hc hz kk
  rcases Decidable.em (x = 15) with q15 | q15
  · refine zv_tabIn (off := 826) (tgt := 866) G dL_law_40 (by rw [q15]; decide) (by rw [q15]; decide) (by rw [q15]; rfl) (by decide) ?_
    exact zl_15 hl G hX hX9 hbl hbA hin hc hz kk
  rcases Decidable.em (x = 16) with q16 | q16
  · refine zv_tabIn (off := 887) (tgt := 927) G dL_law_40 (by rw [q16]; decide) (by rw [q16]; decide) (by rw [q16]; rfl) (by decide) ?_
    exact zl_16 hl G hX hX9 hbl hbA hin hc hz kk
  rcases Decidable.em (x = 17) with q17 | q17
  · refine zv_tabIn (off := 936) (tgt := 976) G dL_law_40 (by rw [q17]; decide) (by rw [q17]; decide) (by rw [q17]; rfl) (by decide) ?_
    exact zl_17 hl G hX hX9 hbl hbA hin hc hz kk
  rcases Decidable.em (x = 18) with q18 | q18
  · refine zv_tabIn (off := 997) (tgt := 1037) G dL_law_40 (by rw [q18]; decide) (by rw [q18]; decide) (by rw [q18]; rfl) (by decide) ?_
    exact zl_18 hl G hX hX9 hbl hbA hin hc hz kk
  rcases Decidable.em (x = 19) with q19 | q19
  · refine zv_tabIn (off := 1034) (tgt := 1074) G dL_law_40 (by rw [q19]; decide) (by rw [q19]; decide) (by rw [q19]; rfl) (by decide) ?_
    exact zl_19 hl G hX hX9 hbl hbA hin hc hz kk
  rcases Decidable.em (x = 20) with q20 | q20
  · refine zv_tabIn (off := 1059) (tgt := 1099) G dL_law_40 (by rw [q20]; decide) (by rw [q20]; decide) (by rw [q20]; rfl) (by decide) ?_
    exact zl_20 hl G hX hX9 hbl hbA hin hc hz kk
  rcases Decidable.em (x = 21) with q21 | q21
  · refine zv_tabIn (off := 1084) (tgt := 1124) G dL_law_40 (by rw [q21]; decide) (by rw [q21]; decide) (by rw [q21]; rfl) (by decide) ?_
    exact zl_21 hl G hX hX9 hbl hbA hin hc hz kk
  rcases Decidable.em (x = 22) with q22 | q22
  · refine zv_tabIn (off := 1145) (tgt := 1185) G dL_law_40 (by rw [q22]; decide) (by rw [q22]; decide) (by rw [q22]; rfl) (by decide) ?_
    exact zl_22 hl G hX hX9 hbl hbA hin hc hz kk
  rcases Decidable.em (x = 23) with q23 | q23
  · refine zv_tabIn (off := 1182) (tgt := 1222) G dL_law_40 (by rw [q23]; decide) (by rw [q23]; decide) (by rw [q23]; rfl) (by decide) ?_
    exact zl_23 hl G hX hX9 hbl hbA hin hc hz kk
  rcases Decidable.em (x = 24) with q24 | q24
  · refine zv_tabIn (off := 1207) (tgt := 1247) G dL_law_40 (by rw [q24]; decide) (by rw [q24]; decide) (by rw [q24]; rfl) (by decide) ?_
    exact zl_24 hl G hX hX9 hbl hbA hin hc hz kk
  rcases Decidable.em (x = 25) with q25 | q25
  · refine zv_tabIn (off := 1220) (tgt := 1260) G dL_law_40 (by rw [q25]; decide) (by rw [q25]; decide) (by rw [q25]; rfl) (by decide) ?_
    exact zl_25 hl G hX hX9 hbl hbA hin hc hz kk
  rcases Decidable.em (x = 26) with q26 | q26
  · refine zv_tabIn (off := 1269) (tgt := 1309) G dL_law_40 (by rw [q26]; decide) (by rw [q26]; decide) (by rw [q26]; rfl) (by decide) ?_
    exact zl_26 hl G hX hX9 hbl hbA hin hc hz kk
  rcases Decidable.em (x = 27) with q27 | q27
  · refine zv_tabIn (off := 1306) (tgt := 1346) G dL_law_40 (by rw [q27]; decide) (by rw [q27]; decide) (by rw [q27]; rfl) (by decide) ?_
    exact zl_27 hl G hX hX9 hbl hbA hin hc hz kk
  rcases Decidable.em (x = 28) with q28 | q28
  · refine zv_tabIn (off := 1331) (tgt := 1371) G dL_law_40 (by rw [q28]; decide) (by rw [q28]; decide) (by rw [q28]; rfl) (by decide) ?_
    exact zl_28 hl G hX hX9 hbl hbA hin hc hz kk
  rcases Decidable.em (x = 29) with q29 | q29
  · refine zv_tabIn (off := 1380) (tgt := 1420) G dL_law_40 (by rw [q29]; decide) (by rw [q29]; decide) (by rw [q29]; rfl) (by decide) ?_
    exact zl_29 hl G hX hX9 hbl hbA hin hc hz kk
  rcases Decidable.em (x = 30) with q30 | q30
  · refine zv_tabIn (off := 1405) (tgt := 1445) G dL_law_40 (by rw [q30]; decide) (by rw [q30]; decide) (by rw [q30]; rfl) (by decide) ?_
    exact zl_30 hl G hX hX9 hbl hbA hin hc hz kk
  rcases Decidable.em (x = 31) with q31 | q31
  · refine zv_tabIn (off := 1454) (tgt := 1494) G dL_law_40 (by rw [q31]; decide) (by rw [q31]; decide) (by rw [q31]; rfl) (by decide) ?_
    exact zl_31 hl G hX hX9 hbl hbA hin hc hz kk
  rcases Decidable.em (x = 32) with q32 | q32
  · refine zv_tabIn (off := 1479) (tgt := 1519) G dL_law_40 (by rw [q32]; decide) (by rw [q32]; decide) (by rw [q32]; rfl) (by decide) ?_
    exact zl_32 hl G hX hX9 hbl hbA hin hc hz kk
  rcases Decidable.em (x = 33) with q33 | q33
  · refine zv_tabIn (off := 1516) (tgt := 1556) G dL_law_40 (by rw [q33]; decide) (by rw [q33]; decide) (by rw [q33]; rfl) (by decide) ?_
    exact zl_33 hl G hX hX9 hbl hbA hin hc hz kk
  rcases Decidable.em (x = 34) with q34 | q34
  · refine zv_tabIn (off := 1553) (tgt := 1593) G dL_law_40 (by rw [q34]; decide) (by rw [q34]; decide) (by rw [q34]; rfl) (by decide) ?_
    exact zl_34 hl G hX hX9 hbl hbA hin hc hz kk
  rcases Decidable.em (x = 35) with q35 | q35
  · refine zv_tabIn (off := 1566) (tgt := 1606) G dL_law_40 (by rw [q35]; decide) (by rw [q35]; decide) (by rw [q35]; rfl) (by decide) ?_
    exact zl_35 hl G hX hX9 hbl hbA hin hc hz kk
  rcases Decidable.em (x = 36) with q36 | q36
  · refine zv_tabIn (off := 1579) (tgt := 1619) G dL_law_40 (by rw [q36]; decide) (by rw [q36]; decide) (by rw [q36]; rfl) (by decide) ?_
    exact zl_36 hl G hX hX9 hbl hbA hin hc hz kk
  rcases Decidable.em (x = 37) with q37 | q37
  · refine zv_tabIn (off := 1592) (tgt := 1632) G dL_law_40 (by rw [q37]; decide) (by rw [q37]; decide) (by rw [q37]; rfl) (by decide) ?_
    exact zl_37 hl G hX hX9 hbl hbA hin hc hz kk
  rcases Decidable.em (x = 38) with q38 | q38
  · refine zv_tabIn (off := 1629) (tgt := 1669) G dL_law_40 (by rw [q38]; decide) (by rw [q38]; decide) (by rw [q38]; rfl) (by decide) ?_
    exact zl_38 hl G hX hX9 hbl hbA hin hc hz kk
  rcases Decidable.em (x = 39) with q39 | q39
  · refine zv_tabIn (off := 1654) (tgt := 1694) G dL_law_40 (by rw [q39]; decide) (by rw [q39]; decide) (by rw [q39]; rfl) (by decide) ?_
    exact zl_39 hl G hX hX9 hbl hbA hin hc hz kk
  rcases Decidable.em (x = 40) with q40 | q40
  · refine zv_tabIn (off := 1679) (tgt := 1719) G dL_law_40 (by rw [q40]; decide) (by rw [q40]; decide) (by rw [q40]; rfl) (by decide) ?_
    exact zl_40 hl G hX hX9 hbl hbA hin hc hz kk
  rcases Decidable.em (x = 41) with q41 | q41
  · refine zv_tabIn (off := 1704) (tgt := 1744) G dL_law_40 (by rw [q41]; decide) (by rw [q41]; decide) (by rw [q41]; rfl) (by decide) ?_
    exact zl_41 hl G hX hX9 hbl hbA hin hc hz kk
  have n0 := lv_neT q0 (a := 0) rfl
  have n1 := lv_neT q1 (a := 1) rfl
  have n2 := lv_neT q2 (a := 2) rfl
  have n3 := lv_neT q3 (a := 3) rfl
  have n4 := lv_neT q4 (a := 4) rfl
  have n5 := lv_neT q5 (a := 5) rfl
  have n6 := lv_neT q6 (a := 6) rfl
  have n7 := lv_neT q7 (a := 7) rfl
  have n8 := lv_neT q8 (a := 8) rfl
  have n9 := lv_neT q9 (a := 9) rfl
  have n10 := lv_neT q10 (a := 10) rfl
  have n11 := lv_neT q11 (a := 11) rfl
  have n12 := lv_neT q12 (a := 12) rfl
  have n13 := lv_neT q13 (a := 13) rfl
  have n14 := lv_neT q14 (a := 14) rfl
  have n15 := lv_neT q15 (a := 15) rfl
  have n16 := lv_neT q16 (a := 16) rfl
  have n17 := lv_neT q17 (a := 17) rfl
  have n18 := lv_neT q18 (a := 18) rfl
  have n19 := lv_neT q19 (a := 19) rfl
  have n20 := lv_neT q20 (a := 20) rfl
  have n21 := lv_neT q21 (a := 21) rfl
  have n22 := lv_neT q22 (a := 22) rfl
  have n23 := lv_neT q23 (a := 23) rfl
  have n24 := lv_neT q24 (a := 24) rfl
  have n25 := lv_neT q25 (a := 25) rfl
  have n26 := lv_neT q26 (a := 26) rfl
  have n27 := lv_neT q27 (a := 27) rfl
  have n28 := lv_neT q28 (a := 28) rfl
  have n29 := lv_neT q29 (a := 29) rfl
  have n30 := lv_neT q30 (a := 30) rfl
  have n31 := lv_neT q31 (a := 31) rfl
  have n32 := lv_neT q32 (a := 32) rfl
  have n33 := lv_neT q33 (a := 33) rfl
  have n34 := lv_neT q34 (a := 34) rfl
  have n35 := lv_neT q35 (a := 35) rfl
  have n36 := lv_neT q36 (a := 36) rfl
  have n37 := lv_neT q37 (a := 37) rfl
  have n38 := lv_neT q38 (a := 38) rfl
  have n39 := lv_neT q39 (a := 39) rfl
  have n40 := lv_neT q40 (a := 40) rfl
  have n41 := lv_neT q41 (a := 41) rfl
  refine zv_tabOut (tgt := 1772) G dL_law_40 (by omega) (by decide) ?_
  refine zv_wid (Nat.le_succ cells) (Nat.le_add_right slots 6) ?_
  exact kk σ hz
set_option maxHeartbeats 4000000 in
set_option maxRecDepth 100000 in
theorem zl_loop (S0 : Nat) (hS0 : S0 + 6 * 520 ≤ 7293034) (hl : l.stackTraces = false) (G : zC p s m args meth c cL_law RL 8 E A) (hX : zX E s s.heap) (hX9 : va_X b L xs s s.heap) (hbl : b < s.heap.size) (hbA : ¬ A b) (hL : L ≤ 3072) (kx : ∀ (k : Nat) (i : Int32) (σ : za_S), k ≤ 512 → zV p l e room_1 s m args below meth c E A 8 (194 + k) (S0 + 6 * k) Q 1778 [(4, za_I i), (3, za_O 29 193), (2, za_O 19 93), (1, za_O 0 0), (0, za_O 52 (b + 1))] [] σ) : ∀ (f k : Nat) (i : Int32) (σ : za_S), 512 < k + f → k ≤ 512 → i.toInt = 6 * k → zI σ → zV p l e room_1 s m args below meth c E A 8 (194 + k) (S0 + 6 * k) Q 23 [(4, za_I i), (3, za_O 29 193), (2, za_O 19 93), (1, za_O 0 0), (0, za_O 52 (b + 1))] [] σ
  | 0, k, i, σ, h1, h2, _, _ => absurd h1 (by omega)
  | f + 1, k, i, σ, h1, h2, h3, hz => by
    have hLi : (Int32.ofNat L).toInt = L := by
      have h9 := Int32.toInt_ofNat_of_lt (n := L) (by omega)
      exact h9
    have h6 : (Int32.ofNat L - 6).toInt = L - 6 := by
      rw [z_sub (by rw [hLi]; have : (6 : Int32).toInt = 6 := by decide
                    omega) (by rw [hLi]; have : (6 : Int32).toInt = 6 := by decide
                               omega), hLi]
      rfl
    refine zv_iload (j := 0) G dL_law_23 rfl ?_
    refine zv_aldR (j := 4) G dL_law_25 rfl rfl ?_
    refine zv_sln G hX9 hbl hbA dL_law_26 ?_
    refine zv_bipush (v := 6) G dL_law_27 (by decide) ?_
    refine zv_isub G dL_law_29 ?_
    refine zv_icmp_gt (tgt := 1778) G dL_law_30 (by decide) (fun _ => kx k i σ h2) (fun c9 => ?_)
    rw [z_lt, h6] at c9
    have hk : k ≤ 511 := by omega
    have hin : ∀ x : Int32, 0 ≤ x.toInt → x.toInt ≤ 5 → vp_in (i + x) L := fun x x0 x5 => by
      have hx : (i + x).toInt = i.toInt + x.toInt := z_add (by omega) (by omega)
      exact z_in (by omega) (by omega)
    refine zl_turn hl G hX hX9 hbl hbA hin (z_in (by omega) (by omega)) ⟨show 194 + k + 1 ≤ 601024 by omega, show S0 + 6 * k + 6 ≤ 7293034 by omega⟩ hz (fun σ' hz' => ?_)
    have h7 : (i + 6).toInt = 6 * ((k + 1 : Nat) : Int) := by
      have h8 : (6 : Int32).toInt = 6 := by decide
      rw [z_add (by omega) (by omega), h3, h8]
      omega
    refine zv_iinc (j := 0) (v := i + 6) G dL_law_1772 rfl (by rfl) (by decide) rfl ?_
    refine zv_goto (tgt := 23) G dL_law_1775 (by decide) ?_
    exact zv_cs (by omega) (by omega) rfl (zl_loop S0 hS0 hl G hX hX9 hbl hbA hL kx f (k + 1) (i + 6) σ' (by omega) (by omega) h7 hz')
end ZLL
