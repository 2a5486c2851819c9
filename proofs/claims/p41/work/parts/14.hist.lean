/-! ===== acts that are called from outside: what they leave ===== -/
def zfe (σ0 σ : za_S) : Prop := (∀ w, (w < 93 ∨ 189 ≤ w) → σ.1 w = σ0.1 w ∧ σ.2 w = σ0.2 w) ∧ σ.1 93 4 = σ0.1 93 4 ∧ σ.1 93 32 = σ0.1 93 32
theorem zfe_r (σ : za_S) : zfe σ σ := ⟨fun _ _ => ⟨rfl, rfl⟩, rfl, rfl⟩
theorem zfe_t {a b d : za_S} (h : zfe a b) (k : zfe b d) : zfe a d := ⟨fun w hw => ⟨((k.1 w hw).1).trans (h.1 w hw).1, ((k.1 w hw).2).trans (h.1 w hw).2⟩, k.2.1.trans h.2.1, k.2.2.trans h.2.2⟩
def zmb (b u : Int) (σ0 σ : za_S) : Prop := zfe σ0 σ ∧ zkr σ ∧ zch σ ∧ (0 ≤ (σ.1 93 1).toInt ∧ (σ.1 93 1).toInt ≤ b) ∧ (0 ≤ (σ.1 93 17).toInt ∧ (σ.1 93 17).toInt ≤ u) ∧ zG (σ.1 99)
def zus (σ : za_S) : Prop := ∀ k, k < 11 → zG (fun i => σ.1 102 (2001 * k + i))
def zm (b u : Int) (σ0 σ : za_S) : Prop := zmb b u σ0 σ ∧ zus σ
theorem zmz {σ : za_S} (h : zJ σ) : zm 12 10 σ σ := ⟨⟨zfe_r σ, h.1, h.2.1, h.2.2.1, h.2.2.2.1, h.2.2.2.2.2.2.1⟩, h.2.2.2.2.2.2.2.1⟩
theorem zm_J {σ0 σ : za_S} (hJ : zJ σ0) (h : zm 12 10 σ0 σ) : zJ σ := by
  obtain ⟨-, -, -, -, h5, h6, -, -, h9⟩ := hJ
  obtain ⟨⟨hf, a1, a2, a3, a4, a5⟩, a6⟩ := h
  refine ⟨a1, a2, a3, a4, ?_, ?_, a5, a6, ?_⟩
  · rw [hf.2.2]; exact h5
  · rw [hf.2.1]; exact h6
  · rw [(hf.1 190 (by decide)).1]; exact h9
theorem zm_w {b d u : Int} {σ0 σ : za_S} (h : zm b u σ0 σ) (hb : b ≤ d) : zm d u σ0 σ := ⟨⟨h.1.1, h.1.2.1, h.1.2.2.1, ⟨h.1.2.2.2.1.1, by have := h.1.2.2.2.1.2; omega⟩, h.1.2.2.2.2⟩, h.2⟩
theorem zm_tr {b u d v : Int} {σ0 σ σ' : za_S} (h : zm b u σ0 σ) (k : zm d v σ σ') : zm d v σ0 σ' := ⟨⟨zfe_t h.1.1 k.1.1, k.1.2⟩, k.2⟩
theorem zm_q {b d : Int} {σ0 σ σ' : za_S} (h : zm b 10 σ0 σ) (k : zq d σ σ') : zm d 10 σ0 σ' := by
  obtain ⟨⟨hf, a1, a2, a3, a4, a5⟩, a6⟩ := h
  obtain ⟨kf, k1, k2, k3⟩ := k
  refine ⟨⟨zfe_t hf ⟨fun w hw => kf.1 w (by omega), kf.2.1, kf.2.2.2⟩, k1, k2, k3, ?_, ?_⟩, ?_⟩
  · rw [kf.2.2.1]; exact a4
  · rw [(kf.1 99 (by decide)).1]; exact a5
  · intro i hi
    rw [(kf.1 102 (by decide)).1]
    exact a6 i hi
theorem zm_qq {b u : Int} {σ0 σ : za_S} (h : zm b u σ0 σ) : zq b σ σ := ⟨zfr_r σ, h.1.2.1, h.1.2.2.1, h.1.2.2.2.1⟩
theorem zmb_si {b u : Int} {σ0 σ : za_S} {w j : Nat} {x : Int32} (h : zmb b u σ0 σ) (hw : 93 ≤ w ∧ w < 189 ∧ w ≠ 99 ∧ w ≠ 188) (hj : w ≠ 93 ∨ (j ≠ 1 ∧ j ≠ 4 ∧ j ≠ 15 ∧ j ≠ 16 ∧ j ≠ 17 ∧ j ≠ 32)) : zmb b u σ0 (za_si σ w j x) := by
  obtain ⟨hf, a1, a2, a3, a4, a5⟩ := h
  refine ⟨⟨fun w' hw' => ?_, ?_, ?_⟩, ?_, fun i hi => ?_, ?_, ?_, ?_⟩
  · rw [(za_si_off w' (by omega)).1, (za_si_off w' (by omega)).2]
    exact hf.1 w' hw'
  · rw [za_si_ne _ _ (by omega)]; exact hf.2.1
  · rw [za_si_ne _ _ (by omega)]; exact hf.2.2
  · unfold zkr
    rw [za_si_ne _ _ (by omega), za_si_ne _ _ (by omega)]
    exact a1
  · rw [za_si_ne _ _ (by omega)]
    exact a2 i hi
  · rw [za_si_ne _ _ (by omega)]; exact a3
  · rw [za_si_ne _ _ (by omega)]; exact a4
  · rw [(za_si_off 99 (by omega)).1]; exact a5
theorem zm_si {b u : Int} {σ0 σ : za_S} {w j : Nat} {x : Int32} (h : zm b u σ0 σ) (hw : 93 ≤ w ∧ w < 189 ∧ w ≠ 99 ∧ w ≠ 188) (hj : w ≠ 93 ∨ (j ≠ 1 ∧ j ≠ 4 ∧ j ≠ 15 ∧ j ≠ 16 ∧ j ≠ 17 ∧ j ≠ 32)) (h9 : w ≠ 102) : zm b u σ0 (za_si σ w j x) := by
  refine ⟨zmb_si h.1 hw hj, fun i hi => ?_⟩
  rw [(za_si_off 102 (Ne.symm h9)).1]
  exact h.2 i hi
theorem zm_f93 {b u : Int} {σ0 σ : za_S} {j : Nat} {x : Int32} (h : zm b u σ0 σ) (hj : j ≠ 1 ∧ j ≠ 4 ∧ j ≠ 15 ∧ j ≠ 16 ∧ j ≠ 17 ∧ j ≠ 32) : zm b u σ0 (za_si σ 93 j x) := zm_si h (by decide) (Or.inr hj) (by decide)
theorem zm_u {b u v : Int} {σ0 σ : za_S} {x : Int32} (h : zm b u σ0 σ) (hx : 0 ≤ x.toInt ∧ x.toInt ≤ v) : zm b v σ0 (za_si σ 93 17 x) := by
  obtain ⟨⟨hf, a1, a2, a3, a4, a5⟩, a6⟩ := h
  refine ⟨⟨⟨fun w' hw' => ?_, ?_, ?_⟩, ?_, fun i hi => ?_, ?_, ?_, ?_⟩, fun i hi => ?_⟩
  · rw [(za_si_off w' (by omega)).1, (za_si_off w' (by omega)).2]
    exact hf.1 w' hw'
  · rw [za_si_ne _ _ (by omega)]; exact hf.2.1
  · rw [za_si_ne _ _ (by omega)]; exact hf.2.2
  · unfold zkr
    rw [za_si_ne _ _ (by omega), za_si_ne _ _ (by omega)]
    exact a1
  · rw [za_si_ne _ _ (by omega)]
    exact a2 i hi
  · rw [za_si_ne _ _ (by omega)]; exact a3
  · rw [za_si_same]; exact hx
  · rw [(za_si_off 99 (by omega)).1]; exact a5
  · rw [(za_si_off 102 (by omega)).1]; exact a6 i hi
theorem zm_tl {b d u : Int} {σ0 σ : za_S} {x : Int32} (h : zm b u σ0 σ) (hx : 0 ≤ x.toInt ∧ x.toInt ≤ d) : zm d u σ0 (za_si σ 93 1 x) := by
  obtain ⟨⟨hf, a1, a2, a3, a4, a5⟩, a6⟩ := h
  refine ⟨⟨⟨fun w' hw' => ?_, ?_, ?_⟩, ?_, fun i hi => ?_, ?_, ?_, ?_⟩, fun i hi => ?_⟩
  · rw [(za_si_off w' (by omega)).1, (za_si_off w' (by omega)).2]
    exact hf.1 w' hw'
  · rw [za_si_ne _ _ (by omega)]; exact hf.2.1
  · rw [za_si_ne _ _ (by omega)]; exact hf.2.2
  · unfold zkr
    rw [za_si_ne _ _ (by omega), za_si_ne _ _ (by omega)]
    exact a1
  · rw [za_si_ne _ _ (by omega)]
    exact a2 i hi
  · rw [za_si_same]; exact hx
  · rw [za_si_ne _ _ (by omega)]; exact a4
  · rw [(za_si_off 99 (by omega)).1]; exact a5
  · rw [(za_si_off 102 (by omega)).1]; exact a6 i hi
theorem zm_t0 {b u : Int} {σ0 σ : za_S} (h : zm b u σ0 σ) : zm 0 u σ0 (za_si σ 93 1 0) := zm_tl h (by decide)
theorem zm_l {b u : Int} {σ0 σ : za_S} {j : Nat} {x : Int64} (h : zm b u σ0 σ) : zm b u σ0 (za_sl σ 94 j x) := by
  refine ⟨⟨⟨fun w' hw' => ⟨(h.1.1.1 w' hw').1, ?_⟩, h.1.1.2⟩, h.1.2⟩, h.2⟩
  rw [(za_sl_off w' (by omega)).2]
  exact (h.1.1.1 w' hw').2
theorem zm_e {b u : Int} {σ0 σ σ' : za_S} {v : Int64} (h : zm b u σ0 σ) (e : σ' = za_si (za_sl σ 94 (σ.1 93 1).toNatClampNeg v) 93 1 (σ.1 93 1 + 1)) (hb : b ≤ 23 := by first | decide | omega) : zm (b + 1) u σ0 σ' := by
  rw [e]
  refine zm_tl (zm_l h) ?_
  have h1 := h.1.2.2.2.1
  rw [z_add (by rw [z_one]; omega) (by rw [z_one]; omega), z_one]
  omega
theorem zm_p {b u : Int} {σ0 σ : za_S} (h : zm b u σ0 σ) (hb : b ≤ 23) : 0 ≤ (σ.1 93 1).toInt ∧ (σ.1 93 1).toInt ≤ 23 := ⟨h.1.2.2.2.1.1, by have := h.1.2.2.2.1.2; omega⟩
theorem zm_G {b u : Int} {σ0 σ : za_S} (h : zm b u σ0 σ) : zG (σ.1 99) := h.1.2.2.2.2.2
theorem zm_un {b u : Int} {σ0 σ : za_S} (h : zm b u σ0 σ) : 0 ≤ (σ.1 93 17).toInt ∧ (σ.1 93 17).toInt ≤ u := h.1.2.2.2.2.1
theorem zm_fa {b u : Int} {σ0 σ σ' : za_S} (h : zm b u σ0 σ) (k : zfa 99 σ σ') : zm b u σ0 σ' := by
  obtain ⟨⟨hf, a1, a2, a3, a4, a5⟩, a6⟩ := h
  obtain ⟨k1, k2, k3, k4⟩ := k
  refine ⟨⟨⟨fun w hw => ⟨?_, ?_⟩, ?_, ?_⟩, ?_, fun i hi => ?_, ?_, ?_, k4⟩, fun i hi => ?_⟩
  · rw [k1 w (by omega) (by omega) (by omega)]; exact (hf.1 w hw).1
  · rw [k2]; exact (hf.1 w hw).2
  · rw [k3 4 (by decide) (by decide)]; exact hf.2.1
  · rw [k3 32 (by decide) (by decide)]; exact hf.2.2
  · unfold zkr
    rw [k3 15 (by decide) (by decide), k3 16 (by decide) (by decide)]
    exact a1
  · rw [k1 188 (by decide) (by decide) (by decide)]; exact a2 i hi
  · rw [k3 1 (by decide) (by decide)]; exact a3
  · rw [k3 17 (by decide) (by decide)]; exact a4
  · rw [k1 102 (by decide) (by decide) (by decide)]; exact a6 i hi
theorem zfa_of {σ σ' : za_S} (k : zfx 99 σ σ') (g : zG (σ'.1 99)) : zfa 99 σ σ' := ⟨fun w h1 _ h3 => k.1 w h1 h3, k.2.1, k.2.2, g⟩
/-! a stretch of a row written over -/
def zrw (σ : za_S) (w lo n : Nat) (g : Nat → Int32) : za_S := za_sr σ w (fun i => if lo ≤ i ∧ i < lo + n then g (i - lo) else σ.1 w i)
theorem zrw_0 (σ : za_S) (w lo : Nat) (g : Nat → Int32) : zrw σ w lo 0 g = σ := by
  refine Prod.ext (funext fun w' => ?_) rfl
  show (if w' = w then _ else σ.1 w') = σ.1 w'
  by_cases h : w' = w
  · rw [if_pos h, h]
    funext i
    exact if_neg (by omega)
  · rw [if_neg h]
theorem zrw_o {σ : za_S} {w lo n q : Nat} {g : Nat → Int32} (h : q ≠ w) : (zrw σ w lo n g).1 q = σ.1 q := if_neg h
theorem zrw_2 {σ : za_S} {w lo n : Nat} {g : Nat → Int32} : (zrw σ w lo n g).2 = σ.2 := rfl
theorem zrw_i {σ : za_S} {w lo n i : Nat} {g : Nat → Int32} : (zrw σ w lo n g).1 w i = if lo ≤ i ∧ i < lo + n then g (i - lo) else σ.1 w i := by
  show (if w = w then _ else σ.1 w) i = _
  rw [if_pos rfl]
theorem zrw_h {σ : za_S} {w lo n i : Nat} {g : Nat → Int32} (h : lo + n ≤ i) : (zrw σ w lo n g).1 w i = σ.1 w i := by
  rw [zrw_i, if_neg (by omega)]
theorem zrw_s {σ1 σ : za_S} {w lo n a : Nat} {x : Int32} {g : Nat → Int32} (h : σ = zrw σ1 w lo n g) (ha : a = lo + n) (hx : x = g n) : za_si σ w a x = zrw σ1 w lo (n + 1) g := by
  rw [h, ha, hx]
  refine Prod.ext (funext fun w' => ?_) rfl
  show (if w' = w then upd ((zrw σ1 w lo n g).1 w) (lo + n) (g n) else (zrw σ1 w lo n g).1 w') = (if w' = w then _ else σ1.1 w')
  by_cases e : w' = w
  · rw [if_pos e, if_pos e]
    funext i
    show (if i = lo + n then g n else (zrw σ1 w lo n g).1 w i) = if lo ≤ i ∧ i < lo + (n + 1) then g (i - lo) else σ1.1 w i
    rw [zrw_i]
    by_cases h3 : i = lo + n
    · rw [if_pos h3, if_pos (by omega), h3, Nat.add_sub_cancel_left]
    · rw [if_neg h3]
      by_cases h4 : lo ≤ i ∧ i < lo + n
      · rw [if_pos h4, if_pos (by omega)]
      · rw [if_neg h4, if_neg (by omega)]
  · rw [if_neg e, if_neg e]
    exact zrw_o e
theorem zrw_n {σ1 σ : za_S} {w lo n m : Nat} {g : Nat → Int32} (h : σ = zrw σ1 w lo n g) (e : n = m) : σ = zrw σ1 w lo m g := e ▸ h
theorem z_ux {u y : Int32} (hu : 0 ≤ u.toInt ∧ u.toInt ≤ 10) (hy : 0 ≤ y.toInt ∧ y.toInt < 2001) : vp_in (2001 * u + y) 22011 ∧ (2001 * u + y).toNatClampNeg = 2001 * u.toInt.toNat + y.toInt.toNat := by
  have e : (2001 : Int32).toInt = 2001 := by decide
  have h1 : (2001 * u).toInt = 2001 * u.toInt := by rw [z_mul (by rw [e]; omega) (by rw [e]; omega), e]
  have h2 : (2001 * u + y).toInt = 2001 * u.toInt + y.toInt := by rw [z_add (by rw [h1]; omega) (by rw [h1]; omega), h1]
  refine ⟨z_in (by omega) (by omega), ?_⟩
  show (2001 * u + y).toInt.toNat = _
  omega
theorem z_kx2 {u y : Int32} (hu : 0 ≤ u.toInt ∧ u.toInt ≤ 1) (hy : 0 ≤ y.toInt ∧ y.toInt < 2001) : vp_in (2001 * u + y) 4002 ∧ (2001 * u + y).toNatClampNeg = 2001 * u.toInt.toNat + y.toInt.toNat := by
  refine ⟨z_kx hu hy, (z_ux (by omega) hy).2⟩
theorem z_sx {y : Int32} (hy : 0 ≤ y.toInt ∧ y.toInt < 20010) : vp_in (y + 2001) 22011 ∧ (y + 2001).toNatClampNeg = y.toInt.toNat + 2001 := by
  have e : (2001 : Int32).toInt = 2001 := by decide
  have h2 : (y + 2001).toInt = y.toInt + 2001 := by rw [z_add (by rw [e]; omega) (by rw [e]; omega), e]
  refine ⟨z_in (by omega) (by omega), ?_⟩
  show (y + 2001).toInt.toNat = _
  omega
theorem zmb_rw {b u : Int} {σ0 σ : za_S} {lo n : Nat} {g : Nat → Int32} (h : zmb b u σ0 σ) : zmb b u σ0 (zrw σ 102 lo n g) := by
  obtain ⟨hf, a1, a2, a3, a4, a5⟩ := h
  refine ⟨⟨fun w' hw' => ⟨?_, (hf.1 w' hw').2⟩, ?_, ?_⟩, ?_, fun i hi => ?_, ?_, ?_, ?_⟩
  · rw [zrw_o (by omega)]; exact (hf.1 w' hw').1
  · rw [zrw_o (by omega)]; exact hf.2.1
  · rw [zrw_o (by omega)]; exact hf.2.2
  · unfold zkr
    rw [zrw_o (by omega)]
    exact a1
  · rw [zrw_o (by omega)]
    exact a2 i hi
  · rw [zrw_o (by omega)]; exact a3
  · rw [zrw_o (by omega)]; exact a4
  · rw [zrw_o (by omega)]; exact a5
theorem zm_pb {b u : Int} {σ0 σ σ' : za_S} (h : zm b u σ0 σ) (hu : u ≤ 10) (e : σ' = zrw σ 102 (2001 * (σ.1 93 17).toInt.toNat) 2001 (σ.1 99)) : zm b u σ0 σ' := by
  have h1 := zm_un h
  rw [e]
  refine ⟨zmb_rw h.1, fun k hk => ?_⟩
  by_cases c : k = (σ.1 93 17).toInt.toNat
  · refine zG_cong (fun i hi => ?_) (zm_G h)
    show (zrw σ 102 _ 2001 (σ.1 99)).1 102 (2001 * k + i) = _
    rw [zrw_i, if_pos (by omega), show 2001 * k + i - 2001 * (σ.1 93 17).toInt.toNat = i by omega]
  · refine zG_cong (fun i hi => ?_) (h.2 k hk)
    show (zrw σ 102 _ 2001 (σ.1 99)).1 102 (2001 * k + i) = _
    rw [zrw_i, if_neg (by omega)]
theorem zm_ks {b u : Int} {σ0 σ σ' : za_S} {n : Nat} (h : zm b u σ0 σ) (e : σ' = zrw σ 102 0 n (fun i => σ.1 102 (i + 2001))) (hn : n = 20010) : zm b u σ0 σ' := by
  rw [e, hn]
  refine ⟨zmb_rw h.1, fun k hk => ?_⟩
  by_cases c : k < 10
  · refine zG_cong (fun i hi => ?_) (h.2 (k + 1) (by omega))
    show (zrw σ 102 0 20010 _).1 102 (2001 * k + i) = σ.1 102 (2001 * (k + 1) + i)
    rw [zrw_i, if_pos (by omega), show 2001 * (k + 1) + i = 2001 * k + i - 0 + 2001 by omega]
  · refine zG_cong (fun i hi => ?_) (h.2 k hk)
    show (zrw σ 102 0 20010 _).1 102 (2001 * k + i) = _
    rw [zrw_i, if_neg (by omega)]
theorem zm_ud {b u : Int} {σ0 σ σ' : za_S} {n k : Nat} (h : zm b u σ0 σ) (hk : k < 11) (e : σ' = zrw σ 99 0 n (fun i => σ.1 102 (2001 * k + i))) (hn : n = 2001) : zm b u σ0 σ' := by
  obtain ⟨⟨hf, a1, a2, a3, a4, a5⟩, a6⟩ := h
  rw [e, hn]
  refine ⟨⟨⟨fun w' hw' => ⟨?_, (hf.1 w' hw').2⟩, ?_, ?_⟩, ?_, fun i hi => ?_, ?_, ?_, ?_⟩, fun i hi => ?_⟩
  · rw [zrw_o (by omega)]; exact (hf.1 w' hw').1
  · rw [zrw_o (by omega)]; exact hf.2.1
  · rw [zrw_o (by omega)]; exact hf.2.2
  · unfold zkr
    rw [zrw_o (by omega)]
    exact a1
  · rw [zrw_o (by omega)]
    exact a2 i hi
  · rw [zrw_o (by omega)]; exact a3
  · rw [zrw_o (by omega)]; exact a4
  · refine zG_cong (fun i hi => ?_) (a6 k hk)
    rw [zrw_i, if_pos (by omega)]
    rfl
  · rw [zrw_o (by omega)]; exact a6 i hi
theorem zm_ag {b u : Int} {σ0 σ σ' : za_S} {n k : Nat} (hJ : zJ σ0) (h : zm b u σ0 σ) (hk : k < 2) (e : σ' = zrw σ 99 0 n (fun i => σ.1 190 (2001 * k + i))) (hn : n = 2001) : zm b u σ0 σ' := by
  obtain ⟨⟨hf, a1, a2, a3, a4, a5⟩, a6⟩ := h
  have hk9 := hJ.2.2.2.2.2.2.2.2 k hk
  rw [← (hf.1 190 (by decide)).1] at hk9
  rw [e, hn]
  refine ⟨⟨⟨fun w' hw' => ⟨?_, (hf.1 w' hw').2⟩, ?_, ?_⟩, ?_, fun i hi => ?_, ?_, ?_, ?_⟩, fun i hi => ?_⟩
  · rw [zrw_o (by omega)]; exact (hf.1 w' hw').1
  · rw [zrw_o (by omega)]; exact hf.2.1
  · rw [zrw_o (by omega)]; exact hf.2.2
  · unfold zkr
    rw [zrw_o (by omega)]
    exact a1
  · rw [zrw_o (by omega)]
    exact a2 i hi
  · rw [zrw_o (by omega)]; exact a3
  · rw [zrw_o (by omega)]; exact a4
  · refine zG_cong (fun i hi => ?_) hk9
    rw [zrw_i, if_pos (by omega)]
    rfl
  · rw [zrw_o (by omega)]; exact a6 i hi
theorem z_u1 {x : Int32} {a b : Int} (h : a ≤ x.toInt ∧ x.toInt ≤ b) (ha : -1000 ≤ a) (hb : b ≤ 1000) : a + 1 ≤ (x + 1).toInt ∧ (x + 1).toInt ≤ b + 1 := by
  rw [z_add (by rw [z_one]; omega) (by rw [z_one]; omega), z_one]
  omega
theorem z_d1 {x : Int32} {a b : Int} (h : a ≤ x.toInt ∧ x.toInt ≤ b) (ha : -1000 ≤ a) (hb : b ≤ 1000) : a - 1 ≤ (x - 1).toInt ∧ (x - 1).toInt ≤ b - 1 := by
  rw [z_sub (by rw [z_one]; omega) (by rw [z_one]; omega), z_one]
  omega
theorem zm_u9 {b u v : Int} {σ0 σ : za_S} (h : zm b u σ0 σ) (k : (σ.1 93 17).toInt ≤ v) : zm b v σ0 σ := ⟨⟨h.1.1, h.1.2.1, h.1.2.2.1, h.1.2.2.2.1, ⟨h.1.2.2.2.2.1.1, k⟩, h.1.2.2.2.2.2⟩, h.2⟩
set_option maxHeartbeats 4000000 in
set_option maxRecDepth 100000 in
theorem zc_X10_putsBy (l : Launch) (E : za_E)  (σ0 : za_S) (hu : 0 ≤ (σ0.1 93 17).toInt ∧ (σ0.1 93 17).toInt ≤ 10) : zMv l E yX10_putsBy cX10_putsBy 2 (Option.none : Option Jvm.ClassFile.FieldType) 1 21 [za_O 19 93] σ0 (fun σ' => σ' = zrw σ0 102 (2001 * (σ0.1 93 17).toInt.toNat) 2001 (σ0.1 99)) := by
  refine zMv_of [(0, za_O 19 93)] (by decide) rfl rfl (Nat.le_of_ble_eq_true rfl) ?_
  intro ho p e s m args below meth c G hr
  refine zv_gen (R9 := (fun σ => σ = zrw σ0 102 (2001 * (σ0.1 93 17).toInt.toNat) 0 (σ0.1 99))) (zrw_0 σ0 102 (2001 * (σ0.1 93 17).toInt.toNat) (σ0.1 99)).symm (fun σ hz => ?_)
  refine zv_iconst (v := 0) G dX10_putsBy_0 (by decide) ?_
  have J_2 : ∀ (n : Nat) (y1_2 : Int32) (σ : za_S) (hz : σ = zrw σ0 102 (2001 * (σ0.1 93 17).toInt.toNat) y1_2.toInt.toNat (σ0.1 99)) (i1_2 : 0 ≤ y1_2.toInt) (u1_2 : y1_2.toInt ≤ 2001) (hn_2 : (2147483648 - y1_2.toInt).toNat < n), zV p l e (zRm 1 21) s m args below meth c E (za_A E) 2 0 0 (MQ below (va_Qv (fun σ' => σ' = zrw σ0 102 (2001 * (σ0.1 93 17).toInt.toNat) 2001 (σ0.1 99)) (zB E) (za_A E)) args s 0 0 (za_A E)) 2 [(0, za_O 19 93), (1, za_I y1_2)] [] σ := by
    intro n
    induction n with
    | zero => intro y1_2 σ hz i1_2 u1_2 hn; exact absurd hn (Nat.not_lt_zero _)
    | succ n ih_2 =>
      intro y1_2 σ hz i1_2 u1_2 hn_2
      refine zv_iload_n (j := 1) G dX10_putsBy_2 rfl rfl ?_
      refine zv_sipush (v := 2001) G dX10_putsBy_3 (by decide) ?_
      refine zv_icmp_ge (tgt := 36) G dX10_putsBy_6 (by decide) (fun c_6 => ?_) (fun c_6 => ?_)
      · have k_6 := z_cle c_6 (a := 2001) (b := y1_2.toInt) rfl rfl
        exact zv_vret G hr dX10_putsBy_36 (zrw_n hz (by omega))
      · have b_6 : 0 ≤ y1_2.toInt ∧ y1_2.toInt < 2001 := ⟨i1_2, z_ltk c_6 rfl⟩
        have k_6 := z_cnle c_6 (a := 2001) (b := y1_2.toInt) rfl rfl
        have e17 : σ.1 93 17 = σ0.1 93 17 := by rw [hz, zrw_o (by decide)]
        have hx9 := z_ux hu b_6
        refine zv_aload_n (j := 0) G dX10_putsBy_9 rfl rfl ?_
        refine zg_X10_127 G dX10_putsBy_10 ?_
        refine zv_sipush (v := 2001) G dX10_putsBy_13 (by decide) ?_
        refine zv_aload_n (j := 0) G dX10_putsBy_16 rfl rfl ?_
        refine zg_X10_205 G dX10_putsBy_17 ?_
        refine zv_imul G dX10_putsBy_20 ?_
        refine zv_iload_n (j := 1) G dX10_putsBy_21 rfl rfl ?_
        refine zv_iadd G dX10_putsBy_22 ?_
        refine zv_aload_n (j := 0) G dX10_putsBy_23 rfl rfl ?_
        refine zg_X10_118 G dX10_putsBy_24 ?_
        refine zv_iload_n (j := 1) G dX10_putsBy_27 rfl rfl ?_
        refine zv_iald G (by decide) rfl (z_in (by omega) (by omega)) dX10_putsBy_28 ?_
        refine zv_iast G (by decide) rfl (fun _ => rfl) (by rw [e17]; exact hx9.1) dX10_putsBy_29 ?_
        refine zv_gen (R9 := (fun σ => σ = zrw σ0 102 (2001 * (σ0.1 93 17).toInt.toNat) (y1_2.toInt.toNat + 1) (σ0.1 99))) (zrw_s hz (by rw [e17]; exact hx9.2) (by rw [hz, zrw_o (by decide)]; rfl)) (fun σ hz => ?_)
        obtain ⟨x_30, e_30⟩ : ∃ y : Int32, y = y1_2 + 1 := ⟨_, rfl⟩
        refine zv_iinc (j := 1) (v := x_30) (lv' := [(1, za_I x_30), (0, za_O 19 93)]) G dX10_putsBy_30 rfl (by rw [e_30]; rfl) (by decide) rfl ?_
        first | have q_30 := z_inc9 (by omega) e_30 | skip
        refine zv_goto (tgt := 2) G dX10_putsBy_33 (by decide) ?_
        refine zv_sub [1, 0] (lv' := [(0, za_O 19 93), (1, za_I x_30)]) rfl ?_
        exact ih_2 x_30 σ (zrw_n hz (by omega)) (by have := z_inc c_6 e_30; omega) (by have := z_inc9 (by omega) e_30; omega) (z_meas c_6 e_30 hn_2)
  refine zv_istore_n (lv' := [(1, za_I 0), (0, za_O 19 93)]) G dX10_putsBy_1 rfl (by decide) rfl ?_
  refine zv_sub [1, 0] (lv' := [(0, za_O 19 93), (1, za_I 0)]) rfl ?_
  exact J_2 _ (0 : Int32) σ hz (by decide) (by decide) (Nat.lt_succ_self _)
set_option maxHeartbeats 4000000 in
set_option maxRecDepth 100000 in
theorem zc_X10_keeps (l : Launch) (E : za_E) (a : Int32) (σ0 : za_S) (hJ : zJ σ0) : zMi l E yX10_keeps cX10_keeps 3 (Option.some Jvm.ClassFile.FieldType.int) 1 21 [za_O 19 93, za_I a] σ0 (fun r σ' => zm 12 10 σ0 σ') := by
  refine zMi_of [(0, za_O 19 93), (1, za_I a)] (by decide) rfl rfl (Nat.le_of_ble_eq_true rfl) ?_
  intro ho p e s m args below meth c G hr
  refine zv_gen (R9 := zm 12 10 σ0) (zmz hJ) (fun σ hz => ?_)
  refine zv_aload_n (j := 0) G dX10_keeps_0 rfl rfl ?_
  refine zv_dupO G dX10_keeps_1 ?_
  refine zg_X10_205 G dX10_keeps_2 ?_
  refine zv_iconst (v := 1) G dX10_keeps_5 (by decide) ?_
  refine zv_iadd G dX10_keeps_6 ?_
  refine zp_X10_205 G dX10_keeps_7 ?_
  refine zv_gen (R9 := zm 12 11 σ0) (zm_u hz (by have h9 := z_u1 (zm_un hz) (by decide) (by decide); omega)) (fun σ hz => ?_)
  refine zv_aload_n (j := 0) G dX10_keeps_10 rfl rfl ?_
  refine zg_X10_205 G dX10_keeps_11 ?_
  refine zv_bipush (v := 10) G dX10_keeps_14 (by decide) ?_
  refine zv_icmp_le (tgt := 60) G dX10_keeps_16 (by decide) (fun c_16 => ?_) (fun c_16 => ?_)
  · have k_16 := z_cle c_16 (a := (σ.1 93 17).toInt) (b := 10) rfl rfl
    have hz : zm 12 10 σ0 σ := zm_u9 hz k_16
    refine zv_iload_n (j := 1) G dX10_keeps_60 rfl rfl ?_
    exact zv_iret G hr dX10_keeps_61 hz
  · have k_16 := z_cnle c_16 (a := (σ.1 93 17).toInt) (b := 10) rfl rfl
    refine zv_iconst (v := 0) G dX10_keeps_19 (by decide) ?_
    have J_21 : ∀ (n : Nat) (y2_21 : Int32) (σ1 : za_S) (σ : za_S) (h1 : zm 12 11 σ0 σ1) (hz : σ = zrw σ1 102 0 y2_21.toInt.toNat (fun i => σ1.1 102 (i + 2001))) (g9_21 : 10 < (σ1.1 93 17).toInt) (i2_21 : 0 ≤ y2_21.toInt) (u2_21 : y2_21.toInt ≤ 20010) (hn_21 : (2147483648 - y2_21.toInt).toNat < n), zV p l e (zRm 1 21) s m args below meth c E (za_A E) 3 0 0 (MQ below (va_Qi (fun r σ' => zm 12 10 σ0 σ') (zB E) (za_A E)) args s 0 0 (za_A E)) 21 [(0, za_O 19 93), (1, za_I a), (2, za_I y2_21)] [] σ := by
      intro n
      induction n with
      | zero => intro y2_21 σ1 σ h1 hz g9_21 i2_21 u2_21 hn; exact absurd hn (Nat.not_lt_zero _)
      | succ n ih_21 =>
        intro y2_21 σ1 σ h1 hz g9_21 i2_21 u2_21 hn_21
        refine zv_iload_n (j := 2) G dX10_keeps_21 rfl rfl ?_
        refine zv_sipush (v := 20010) G dX10_keeps_22 (by decide) ?_
        refine zv_icmp_ge (tgt := 50) G dX10_keeps_25 (by decide) (fun c_25 => ?_) (fun c_25 => ?_)
        · have k_25 := z_cle c_25 (a := 20010) (b := y2_21.toInt) rfl rfl
          have g_21 : 10 < (σ.1 93 17).toInt := by rw [hz, zrw_o (by decide)]; exact g9_21
          have hz := zm_ks h1 hz (by omega)
          refine zv_aload_n (j := 0) G dX10_keeps_50 rfl rfl ?_
          refine zv_dupO G dX10_keeps_51 ?_
          refine zg_X10_205 G dX10_keeps_52 ?_
          refine zv_iconst (v := 1) G dX10_keeps_55 (by decide) ?_
          refine zv_isub G dX10_keeps_56 ?_
          refine zp_X10_205 G dX10_keeps_57 ?_
          refine zv_gen (R9 := zm 12 10 σ0) (zm_u hz (by have h9 := z_d1 (x := σ.1 93 17) (a := 11) (b := 11) (by have h8 := zm_un hz; omega) (by decide) (by decide); omega)) (fun σ hz => ?_)
          refine zv_iload_n (j := 1) G dX10_keeps_60 rfl rfl ?_
          exact zv_iret G hr dX10_keeps_61 hz
        · have b_25 : 0 ≤ y2_21.toInt ∧ y2_21.toInt < 20010 := ⟨i2_21, z_ltk c_25 rfl⟩
          have k_25 := z_cnle c_25 (a := 20010) (b := y2_21.toInt) rfl rfl
          have hx9 := z_sx b_25
          refine zv_aload_n (j := 0) G dX10_keeps_28 rfl rfl ?_
          refine zg_X10_127 G dX10_keeps_29 ?_
          refine zv_iload_n (j := 2) G dX10_keeps_32 rfl rfl ?_
          refine zv_aload_n (j := 0) G dX10_keeps_33 rfl rfl ?_
          refine zg_X10_127 G dX10_keeps_34 ?_
          refine zv_iload_n (j := 2) G dX10_keeps_37 rfl rfl ?_
          refine zv_sipush (v := 2001) G dX10_keeps_38 (by decide) ?_
          refine zv_iadd G dX10_keeps_41 ?_
          refine zv_iald G (by decide) rfl hx9.1 dX10_keeps_42 ?_
          refine zv_iast G (by decide) rfl (fun _ => rfl) (z_in (by omega) (by omega)) dX10_keeps_43 ?_
          refine zv_gen (R9 := (fun σ => σ = zrw σ1 102 0 (y2_21.toInt.toNat + 1) (fun i => σ1.1 102 (i + 2001)))) (zrw_s hz (by show y2_21.toInt.toNat = _; omega) (by rw [hx9.2, hz, zrw_h (by omega)])) (fun σ hz => ?_)
          obtain ⟨x_44, e_44⟩ : ∃ y : Int32, y = y2_21 + 1 := ⟨_, rfl⟩
          refine zv_iinc (j := 2) (v := x_44) (lv' := [(2, za_I x_44), (0, za_O 19 93), (1, za_I a)]) G dX10_keeps_44 rfl (by rw [e_44]; rfl) (by decide) rfl ?_
          first | have q_44 := z_inc9 (by omega) e_44 | skip
          refine zv_goto (tgt := 21) G dX10_keeps_47 (by decide) ?_
          refine zv_sub [1, 2, 0] (lv' := [(0, za_O 19 93), (1, za_I a), (2, za_I x_44)]) rfl ?_
          exact ih_21 x_44 σ1 σ h1 (zrw_n hz (by omega)) g9_21 (by have := z_inc c_25 e_44; omega) (by have := z_inc9 (by omega) e_44; omega) (z_meas c_25 e_44 hn_21)
    refine zv_istore_n (lv' := [(2, za_I 0), (0, za_O 19 93), (1, za_I a)]) G dX10_keeps_20 rfl (by decide) rfl ?_
    refine zv_sub [1, 2, 0] (lv' := [(0, za_O 19 93), (1, za_I a), (2, za_I 0)]) rfl ?_
    exact J_21 _ (0 : Int32) σ σ hz (zrw_0 σ 102 0 _).symm k_16 (by decide) (by decide) (Nat.lt_succ_self _)
set_option maxHeartbeats 4000000 in
set_option maxRecDepth 100000 in
theorem zc_X10_counted (l : Launch) (E : za_E) (a : Int32) (σ0 : za_S) (hJ : zJ σ0) : zMi l E yX10_counted cX10_counted 2 (Option.some Jvm.ClassFile.FieldType.int) 2 43 [za_O 19 93, za_I a] σ0 (fun r σ' => zm 12 10 σ0 σ') := by
  refine zMi_of [(0, za_O 19 93), (1, za_I a)] (by decide) rfl rfl (Nat.le_of_ble_eq_true rfl) ?_
  intro ho p e s m args below meth c G hr
  refine zv_gen (R9 := zm 12 10 σ0) (zmz hJ) (fun σ hz => ?_)
  refine zv_iload_n (j := 1) G dX10_counted_0 rfl rfl ?_
  have J_13 : ∀ (s0_13 : Int32) (σ : za_S) (hz : zm 12 10 σ0 σ), zV p l e (zRm 2 43) s m args below meth c E (za_A E) 2 0 0 (MQ below (va_Qi (fun r σ' => zm 12 10 σ0 σ') (zB E) (za_A E)) args s 0 0 (za_A E)) 13 [] [za_I s0_13] σ := by
    intro s0_13 σ hz
    exact zv_iret G hr dX10_counted_13 (zm_w hz (by first | decide | omega | (have hL := z_lits; omega)))
  refine zv_if_ge (tgt := 8) G dX10_counted_1 (by decide) (fun c_1 => ?_) (fun c_1 => ?_)
  · have k_1 := z_cle c_1 (a := 0) (b := a.toInt) rfl rfl
    refine zv_aload_n (j := 0) G dX10_counted_8 rfl rfl ?_
    refine zv_iload_n (j := 1) G dX10_counted_9 rfl rfl ?_
    refine zv_callVi (as := [za_I a]) G (by decide) rfl rfl (zc_X10_keeps l E a σ (zm_J hJ (zm_w hz (by decide)))) zk_X10_keeps zm_1395 rfl ⟨(Nat.le_of_ble_eq_true rfl), (Nat.le_of_ble_eq_true rfl)⟩ ⟨Nat.zero_le _, Nat.zero_le _⟩ (Nat.le_of_ble_eq_true rfl) dX10_counted_10 (fun r_10 σ h_10 => ?_)
    have hz := zm_tr hz h_10
    refine zv_sub [] (lv' := []) rfl ?_
    exact J_13 r_10 σ (zm_w hz (by first | decide | omega | (have hL := z_lits; omega)))
  · have k_1 := z_cnle c_1 (a := 0) (b := a.toInt) rfl rfl
    refine zv_iload_n (j := 1) G dX10_counted_4 rfl rfl ?_
    refine zv_goto (tgt := 13) G dX10_counted_5 (by decide) ?_
    refine zv_sub [] (lv' := []) rfl ?_
    exact J_13 a σ (zm_w hz (by first | decide | omega | (have hL := z_lits; omega)))
set_option maxHeartbeats 4000000 in
set_option maxRecDepth 100000 in
theorem zc_X10_rowsThen (l : Launch) (E : za_E) (a : Int32) (t : Int32) (σ0 : za_S) (hJ : zJ σ0) (ht9 : 0 ≤ a.toInt → 0 ≤ t.toInt ∧ t.toInt ≤ 1) : zMi l E yX10_rowsThen cX10_rowsThen 3 (Option.some Jvm.ClassFile.FieldType.int) 6 136 [za_O 19 93, za_I a, za_I t] σ0 (fun r σ' => zm 12 10 σ0 σ') := by
  refine zMi_of [(0, za_O 19 93), (1, za_I a), (2, za_I t)] (by decide) rfl rfl (Nat.le_of_ble_eq_true rfl) ?_
  intro ho p e s m args below meth c G hr
  refine zv_gen (R9 := zm 12 10 σ0) (zmz hJ) (fun σ hz => ?_)
  refine zv_iload_n (j := 1) G dX10_rowsThen_0 rfl rfl ?_
  refine zv_if_ge (tgt := 6) G dX10_rowsThen_1 (by decide) (fun c_1 => ?_) (fun c_1 => ?_)
  · have k_1 := z_cle c_1 (a := 0) (b := a.toInt) rfl rfl
    have ht := ht9 (by omega)
    refine zv_aload_n (j := 0) G dX10_rowsThen_6 rfl rfl ?_
    refine zv_iconst (v := 0) G dX10_rowsThen_7 (by decide) ?_
    refine zp_X10_15 G dX10_rowsThen_8 ?_
    refine zv_gen (R9 := zm 0 10 σ0) (zm_t0 hz) (fun σ hz => ?_)
    refine zv_aload_n (j := 0) G dX10_rowsThen_11 rfl rfl ?_
    refine zv_aload_n (j := 0) G dX10_rowsThen_12 rfl rfl ?_
    refine zg_X10_118 G dX10_rowsThen_13 ?_
    refine zv_iload_n (j := 2) G dX10_rowsThen_16 rfl rfl ?_
    refine zv_callSi (as := [za_O 22 99, za_I t]) G (zc_X10_rowsOf l E 99 t σ (by first | assumption | decide | omega)) zk_X10_rowsOf zm_1348 rfl ⟨(Nat.le_of_ble_eq_true rfl), (Nat.le_of_ble_eq_true rfl)⟩ ⟨Nat.zero_le _, Nat.zero_le _⟩ (Nat.le_of_ble_eq_true rfl) dX10_rowsThen_17 (fun r_17 σ h_17 => ?_)
    obtain ⟨h_17, rfl⟩ := h_17
    refine zv_i2l G dX10_rowsThen_20 ?_
    refine zv_callVv (as := [za_L r_17.toInt64]) G (by decide) rfl rfl (zc_X10_enters l E r_17.toInt64 σ (zm_p hz (by first | decide | omega))) zk_X10_enters zm_1418 rfl ⟨(Nat.le_of_ble_eq_true rfl), (Nat.le_of_ble_eq_true rfl)⟩ ⟨Nat.zero_le _, Nat.zero_le _⟩ (Nat.le_of_ble_eq_true rfl) dX10_rowsThen_21 (fun σ h_21 => ?_)
    have hz : zm 1 10 σ0 σ := zm_e hz h_21
    refine zv_aload_n (j := 0) G dX10_rowsThen_24 rfl rfl ?_
    refine zv_iload_n (j := 1) G dX10_rowsThen_25 rfl rfl ?_
    refine zv_callVi (as := [za_I a]) G (by decide) rfl rfl (zc_X10_keeps l E a σ (zm_J hJ (zm_w hz (by decide)))) zk_X10_keeps zm_1395 rfl ⟨(Nat.le_of_ble_eq_true rfl), (Nat.le_of_ble_eq_true rfl)⟩ ⟨Nat.zero_le _, Nat.zero_le _⟩ (Nat.le_of_ble_eq_true rfl) dX10_rowsThen_26 (fun r_26 σ h_26 => ?_)
    have hz := zm_tr hz h_26
    exact zv_iret G hr dX10_rowsThen_29 (zm_w hz (by first | decide | omega | (have hL := z_lits; omega)))
  · have k_1 := z_cnle c_1 (a := 0) (b := a.toInt) rfl rfl
    refine zv_iload_n (j := 1) G dX10_rowsThen_4 rfl rfl ?_
    exact zv_iret G hr dX10_rowsThen_5 (zm_w hz (by first | decide | omega | (have hL := z_lits; omega)))
set_option maxHeartbeats 4000000 in
set_option maxRecDepth 100000 in
theorem zc_X10_adds (l : Launch) (E : za_E) (a1 : Int32) (a2 : Int32) (a3 : Int32) (a4 : Int32) (a5 : Int32) (σ0 : za_S) (hJ : zJ σ0) : zMi l E yX10_adds cX10_adds 6 (Option.some Jvm.ClassFile.FieldType.int) 8 185 [za_O 19 93, za_I a1, za_I a2, za_I a3, za_I a4, za_I a5] σ0 (fun r σ' => zm 12 10 σ0 σ') := by
  refine zMi_of [(0, za_O 19 93), (1, za_I a1), (2, za_I a2), (3, za_I a3), (4, za_I a4), (5, za_I a5)] (by decide) rfl rfl (Nat.le_of_ble_eq_true rfl) ?_
  intro ho p e s m args below meth c G hr
  refine zv_gen (R9 := zm 12 10 σ0) (zmz hJ) (fun σ hz => ?_)
  refine zv_aload_n (j := 0) G dX10_adds_0 rfl rfl ?_
  refine zv_iconst (v := 0) G dX10_adds_1 (by decide) ?_
  refine zp_X10_3 G dX10_adds_2 ?_
  refine zv_gen (R9 := zm 12 10 σ0) (zm_f93 hz (by decide)) (fun σ hz => ?_)
  refine zv_aload_n (j := 0) G dX10_adds_5 rfl rfl ?_
  refine zv_callVv (as := []) G (by decide) rfl rfl (zc_X10_putsBy l E  σ (by have h9 := zm_un hz; omega)) zk_X10_putsBy zm_1363 rfl ⟨(Nat.le_of_ble_eq_true rfl), (Nat.le_of_ble_eq_true rfl)⟩ ⟨Nat.zero_le _, Nat.zero_le _⟩ (Nat.le_of_ble_eq_true rfl) dX10_adds_6 (fun σ h_6 => ?_)
  have hz := zm_pb hz (by decide) h_6
  refine zv_aload_n (j := 0) G dX10_adds_9 rfl rfl ?_
  refine zv_aload_n (j := 0) G dX10_adds_10 rfl rfl ?_
  refine zv_aload_n (j := 0) G dX10_adds_11 rfl rfl ?_
  refine zg_X10_118 G dX10_adds_12 ?_
  refine zv_iload_n (j := 1) G dX10_adds_15 rfl rfl ?_
  refine zv_iload_n (j := 2) G dX10_adds_16 rfl rfl ?_
  refine zv_iload_n (j := 3) G dX10_adds_17 rfl rfl ?_
  refine zv_iload (j := 4) G dX10_adds_18 rfl ?_
  refine zv_iload (j := 5) G dX10_adds_20 rfl ?_
  refine zv_callVi (as := [za_O 22 99, za_I a1, za_I a2, za_I a3, za_I a4, za_I a5]) G (by decide) rfl rfl (zc_X10_addsOne l E 99 a1 a2 a3 a4 a5 σ (by decide) (zm_G hz)) zk_X10_addsOne zm_1367 rfl ⟨(Nat.le_of_ble_eq_true rfl), (Nat.le_of_ble_eq_true rfl)⟩ ⟨Nat.zero_le _, Nat.zero_le _⟩ (Nat.le_of_ble_eq_true rfl) dX10_adds_22 (fun r_22 σ h_22 => ?_)
  have hz := zm_fa hz h_22
  refine zv_callVi (as := [za_I r_22]) G (by decide) rfl rfl (zc_X10_counted l E r_22 σ (zm_J hJ (zm_w hz (by first | decide | omega)))) zk_X10_counted zm_1391 rfl ⟨(Nat.le_of_ble_eq_true rfl), (Nat.le_of_ble_eq_true rfl)⟩ ⟨Nat.zero_le _, Nat.zero_le _⟩ (Nat.le_of_ble_eq_true rfl) dX10_adds_25 (fun r_25 σ h_25 => ?_)
  have hz := zm_tr hz h_25
  exact zv_iret G hr dX10_adds_28 (zm_w hz (by first | decide | omega | (have hL := z_lits; omega)))
set_option maxHeartbeats 4000000 in
set_option maxRecDepth 100000 in
theorem zc_X10_sets (l : Launch) (E : za_E) (a1 : Int32) (a2 : Int32) (a3 : Int32) (a4 : Int32) (a5 : Int32) (σ0 : za_S) (hJ : zJ σ0) : zMi l E yX10_sets cX10_sets 6 (Option.some Jvm.ClassFile.FieldType.int) 8 197 [za_O 19 93, za_I a1, za_I a2, za_I a3, za_I a4, za_I a5] σ0 (fun r σ' => zm 12 10 σ0 σ') := by
  refine zMi_of [(0, za_O 19 93), (1, za_I a1), (2, za_I a2), (3, za_I a3), (4, za_I a4), (5, za_I a5)] (by decide) rfl rfl (Nat.le_of_ble_eq_true rfl) ?_
  intro ho p e s m args below meth c G hr
  refine zv_gen (R9 := zm 12 10 σ0) (zmz hJ) (fun σ hz => ?_)
  refine zv_aload_n (j := 0) G dX10_sets_0 rfl rfl ?_
  refine zv_iconst (v := 0) G dX10_sets_1 (by decide) ?_
  refine zp_X10_3 G dX10_sets_2 ?_
  refine zv_gen (R9 := zm 12 10 σ0) (zm_f93 hz (by decide)) (fun σ hz => ?_)
  refine zv_aload_n (j := 0) G dX10_sets_5 rfl rfl ?_
  refine zv_callVv (as := []) G (by decide) rfl rfl (zc_X10_putsBy l E  σ (by have h9 := zm_un hz; omega)) zk_X10_putsBy zm_1363 rfl ⟨(Nat.le_of_ble_eq_true rfl), (Nat.le_of_ble_eq_true rfl)⟩ ⟨Nat.zero_le _, Nat.zero_le _⟩ (Nat.le_of_ble_eq_true rfl) dX10_sets_6 (fun σ h_6 => ?_)
  have hz := zm_pb hz (by decide) h_6
  refine zv_aload_n (j := 0) G dX10_sets_9 rfl rfl ?_
  refine zv_aload_n (j := 0) G dX10_sets_10 rfl rfl ?_
  refine zv_aload_n (j := 0) G dX10_sets_11 rfl rfl ?_
  refine zg_X10_118 G dX10_sets_12 ?_
  refine zv_iload_n (j := 1) G dX10_sets_15 rfl rfl ?_
  refine zv_iload_n (j := 2) G dX10_sets_16 rfl rfl ?_
  refine zv_iload_n (j := 3) G dX10_sets_17 rfl rfl ?_
  refine zv_iload (j := 4) G dX10_sets_18 rfl ?_
  refine zv_iload (j := 5) G dX10_sets_20 rfl ?_
  refine zv_callVi (as := [za_O 22 99, za_I a1, za_I a2, za_I a3, za_I a4, za_I a5]) G (by decide) rfl rfl (zc_X10_setsOne l E 99 a1 a2 a3 a4 a5 σ (by decide) (zm_G hz)) zk_X10_setsOne zm_1403 rfl ⟨(Nat.le_of_ble_eq_true rfl), (Nat.le_of_ble_eq_true rfl)⟩ ⟨Nat.zero_le _, Nat.zero_le _⟩ (Nat.le_of_ble_eq_true rfl) dX10_sets_22 (fun r_22 σ h_22 => ?_)
  obtain ⟨h_22, hz9⟩ := h_22
  have hz := zm_fa hz hz9
  refine zv_iload_n (j := 1) G dX10_sets_25 rfl rfl ?_
  refine zv_callVi (as := [za_I r_22, za_I a1]) G (by decide) rfl rfl (zc_X10_rowsThen l E r_22 a1 σ (zm_J hJ hz) h_22) zk_X10_rowsThen zm_1414 rfl ⟨(Nat.le_of_ble_eq_true rfl), (Nat.le_of_ble_eq_true rfl)⟩ ⟨Nat.zero_le _, Nat.zero_le _⟩ (Nat.le_of_ble_eq_true rfl) dX10_sets_26 (fun r_26 σ h_26 => ?_)
  have hz := zm_tr hz h_26
  exact zv_iret G hr dX10_sets_29 (zm_w hz (by first | decide | omega | (have hL := z_lits; omega)))
set_option maxHeartbeats 4000000 in
set_option maxRecDepth 100000 in
theorem zc_X10_refers (l : Launch) (E : za_E) (a1 : Int32) (a2 : Int32) (a3 : Int32) (a4 : Int32) (σ0 : za_S) (hJ : zJ σ0) : zMi l E yX10_refers cX10_refers 5 (Option.some Jvm.ClassFile.FieldType.int) 8 196 [za_O 19 93, za_I a1, za_I a2, za_I a3, za_I a4] σ0 (fun r σ' => zm 12 10 σ0 σ') := by
  refine zMi_of [(0, za_O 19 93), (1, za_I a1), (2, za_I a2), (3, za_I a3), (4, za_I a4)] (by decide) rfl rfl (Nat.le_of_ble_eq_true rfl) ?_
  intro ho p e s m args below meth c G hr
  refine zv_gen (R9 := zm 12 10 σ0) (zmz hJ) (fun σ hz => ?_)
  refine zv_aload_n (j := 0) G dX10_refers_0 rfl rfl ?_
  refine zv_iconst (v := 0) G dX10_refers_1 (by decide) ?_
  refine zp_X10_3 G dX10_refers_2 ?_
  refine zv_gen (R9 := zm 12 10 σ0) (zm_f93 hz (by decide)) (fun σ hz => ?_)
  refine zv_aload_n (j := 0) G dX10_refers_5 rfl rfl ?_
  refine zv_callVv (as := []) G (by decide) rfl rfl (zc_X10_putsBy l E  σ (by have h9 := zm_un hz; omega)) zk_X10_putsBy zm_1363 rfl ⟨(Nat.le_of_ble_eq_true rfl), (Nat.le_of_ble_eq_true rfl)⟩ ⟨Nat.zero_le _, Nat.zero_le _⟩ (Nat.le_of_ble_eq_true rfl) dX10_refers_6 (fun σ h_6 => ?_)
  have hz := zm_pb hz (by decide) h_6
  refine zv_aload_n (j := 0) G dX10_refers_9 rfl rfl ?_
  refine zv_aload_n (j := 0) G dX10_refers_10 rfl rfl ?_
  refine zv_aload_n (j := 0) G dX10_refers_11 rfl rfl ?_
  refine zg_X10_118 G dX10_refers_12 ?_
  refine zv_iload_n (j := 1) G dX10_refers_15 rfl rfl ?_
  refine zv_iload_n (j := 2) G dX10_refers_16 rfl rfl ?_
  refine zv_iload_n (j := 3) G dX10_refers_17 rfl rfl ?_
  refine zv_iload (j := 4) G dX10_refers_18 rfl ?_
  refine zv_callVi (as := [za_O 22 99, za_I a1, za_I a2, za_I a3, za_I a4]) G (by decide) rfl rfl (zc_X10_refersOne l E 99 a1 a2 a3 a4 σ (by decide) (zm_G hz)) zk_X10_refersOne zm_1426 rfl ⟨(Nat.le_of_ble_eq_true rfl), (Nat.le_of_ble_eq_true rfl)⟩ ⟨Nat.zero_le _, Nat.zero_le _⟩ (Nat.le_of_ble_eq_true rfl) dX10_refers_20 (fun r_20 σ h_20 => ?_)
  have hz := zm_fa hz h_20
  refine zv_iconst (v := 0) G dX10_refers_23 (by decide) ?_
  refine zv_callVi (as := [za_I r_20, za_I 0]) G (by decide) rfl rfl (zc_X10_rowsThen l E r_20 (0 : Int32) σ (zm_J hJ hz) (fun _ => by decide)) zk_X10_rowsThen zm_1414 rfl ⟨(Nat.le_of_ble_eq_true rfl), (Nat.le_of_ble_eq_true rfl)⟩ ⟨Nat.zero_le _, Nat.zero_le _⟩ (Nat.le_of_ble_eq_true rfl) dX10_refers_24 (fun r_24 σ h_24 => ?_)
  have hz := zm_tr hz h_24
  exact zv_iret G hr dX10_refers_27 (zm_w hz (by first | decide | omega | (have hL := z_lits; omega)))
set_option maxHeartbeats 4000000 in
set_option maxRecDepth 100000 in
theorem zc_X10_cuts (l : Launch) (E : za_E) (a1 : Int32) (a2 : Int32) (a3 : Int32) (a4 : Int32) (σ0 : za_S) (hJ : zJ σ0) : zMi l E yX10_cuts cX10_cuts 6 (Option.some Jvm.ClassFile.FieldType.int) 8 184 [za_O 19 93, za_I a1, za_I a2, za_I a3, za_I a4] σ0 (fun r σ' => zm 12 10 σ0 σ') := by
  refine zMi_of [(0, za_O 19 93), (1, za_I a1), (2, za_I a2), (3, za_I a3), (4, za_I a4)] (by decide) rfl rfl (Nat.le_of_ble_eq_true rfl) ?_
  intro ho p e s m args below meth c G hr
  refine zv_gen (R9 := zm 12 10 σ0) (zmz hJ) (fun σ hz => ?_)
  refine zv_aload_n (j := 0) G dX10_cuts_0 rfl rfl ?_
  refine zv_iconst (v := 0) G dX10_cuts_1 (by decide) ?_
  refine zp_X10_3 G dX10_cuts_2 ?_
  refine zv_gen (R9 := zm 12 10 σ0) (zm_f93 hz (by decide)) (fun σ hz => ?_)
  refine zv_aload_n (j := 0) G dX10_cuts_5 rfl rfl ?_
  refine zv_callVv (as := []) G (by decide) rfl rfl (zc_X10_putsBy l E  σ (by have h9 := zm_un hz; omega)) zk_X10_putsBy zm_1363 rfl ⟨(Nat.le_of_ble_eq_true rfl), (Nat.le_of_ble_eq_true rfl)⟩ ⟨Nat.zero_le _, Nat.zero_le _⟩ (Nat.le_of_ble_eq_true rfl) dX10_cuts_6 (fun σ h_6 => ?_)
  have hz := zm_pb hz (by decide) h_6
  refine zv_aload_n (j := 0) G dX10_cuts_9 rfl rfl ?_
  refine zv_aload_n (j := 0) G dX10_cuts_10 rfl rfl ?_
  refine zg_X10_118 G dX10_cuts_11 ?_
  refine zv_iload_n (j := 1) G dX10_cuts_14 rfl rfl ?_
  refine zv_iload_n (j := 2) G dX10_cuts_15 rfl rfl ?_
  refine zv_iload_n (j := 3) G dX10_cuts_16 rfl rfl ?_
  refine zv_iload (j := 4) G dX10_cuts_17 rfl ?_
  refine zv_callVi (as := [za_O 22 99, za_I a1, za_I a2, za_I a3, za_I a4]) G (by decide) rfl rfl (zc_X10_cutsOne l E 99 a1 a2 a3 a4 σ (by decide) (zm_G hz)) zk_X10_cutsOne zm_1438 rfl ⟨(Nat.le_of_ble_eq_true rfl), (Nat.le_of_ble_eq_true rfl)⟩ ⟨Nat.zero_le _, Nat.zero_le _⟩ (Nat.le_of_ble_eq_true rfl) dX10_cuts_19 (fun r_19 σ h_19 => ?_)
  have hz := zm_fa hz h_19
  refine zv_istore (lv' := [(5, za_I r_19), (0, za_O 19 93), (1, za_I a1), (2, za_I a2), (3, za_I a3), (4, za_I a4)]) G dX10_cuts_22 (by decide) rfl ?_
  refine zv_iload (j := 0) G dX10_cuts_24 rfl ?_
  refine zv_if_ge (tgt := 32) G dX10_cuts_26 (by decide) (fun c_26 => ?_) (fun c_26 => ?_)
  · have k_26 := z_cle c_26 (a := 0) (b := r_19.toInt) rfl rfl
    refine zv_aload_n (j := 1) G dX10_cuts_32 rfl rfl ?_
    refine zv_iconst (v := 0) G dX10_cuts_33 (by decide) ?_
    refine zp_X10_15 G dX10_cuts_34 ?_
    refine zv_gen (R9 := zm 0 10 σ0) (zm_t0 hz) (fun σ hz => ?_)
    refine zv_aload_n (j := 1) G dX10_cuts_37 rfl rfl ?_
    refine zv_aload_n (j := 1) G dX10_cuts_38 rfl rfl ?_
    refine zg_X10_265 G dX10_cuts_39 ?_
    refine zv_i2l G dX10_cuts_42 ?_
    refine zv_callVv (as := [za_L ((σ.1 93 19).toInt64)]) G (by decide) rfl rfl (zc_X10_enters l E ((σ.1 93 19).toInt64) σ (zm_p hz (by first | decide | omega))) zk_X10_enters zm_1418 rfl ⟨(Nat.le_of_ble_eq_true rfl), (Nat.le_of_ble_eq_true rfl)⟩ ⟨Nat.zero_le _, Nat.zero_le _⟩ (Nat.le_of_ble_eq_true rfl) dX10_cuts_43 (fun σ h_43 => ?_)
    have hz : zm 1 10 σ0 σ := zm_e hz h_43
    refine zv_aload_n (j := 1) G dX10_cuts_46 rfl rfl ?_
    refine zv_aload_n (j := 1) G dX10_cuts_47 rfl rfl ?_
    refine zg_X10_262 G dX10_cuts_48 ?_
    refine zv_i2l G dX10_cuts_51 ?_
    refine zv_callVv (as := [za_L ((σ.1 93 20).toInt64)]) G (by decide) rfl rfl (zc_X10_enters l E ((σ.1 93 20).toInt64) σ (zm_p hz (by first | decide | omega))) zk_X10_enters zm_1418 rfl ⟨(Nat.le_of_ble_eq_true rfl), (Nat.le_of_ble_eq_true rfl)⟩ ⟨Nat.zero_le _, Nat.zero_le _⟩ (Nat.le_of_ble_eq_true rfl) dX10_cuts_52 (fun σ h_52 => ?_)
    have hz : zm 2 10 σ0 σ := zm_e hz h_52
    refine zv_aload_n (j := 1) G dX10_cuts_55 rfl rfl ?_
    refine zv_iload (j := 0) G dX10_cuts_56 rfl ?_
    refine zv_callVi (as := [za_I r_19]) G (by decide) rfl rfl (zc_X10_keeps l E r_19 σ (zm_J hJ (zm_w hz (by decide)))) zk_X10_keeps zm_1395 rfl ⟨(Nat.le_of_ble_eq_true rfl), (Nat.le_of_ble_eq_true rfl)⟩ ⟨Nat.zero_le _, Nat.zero_le _⟩ (Nat.le_of_ble_eq_true rfl) dX10_cuts_58 (fun r_58 σ h_58 => ?_)
    have hz := zm_tr hz h_58
    exact zv_iret G hr dX10_cuts_61 (zm_w hz (by first | decide | omega | (have hL := z_lits; omega)))
  · have k_26 := z_cnle c_26 (a := 0) (b := r_19.toInt) rfl rfl
    refine zv_iload (j := 0) G dX10_cuts_29 rfl ?_
    exact zv_iret G hr dX10_cuts_31 (zm_w hz (by first | decide | omega | (have hL := z_lits; omega)))
set_option maxHeartbeats 4000000 in
set_option maxRecDepth 100000 in
theorem zc_X10_shifts (l : Launch) (E : za_E) (a1 : Int32) (a2 : Int32) (a3 : Int32) (σ0 : za_S) (hJ : zJ σ0) : zMi l E yX10_shifts cX10_shifts 4 (Option.some Jvm.ClassFile.FieldType.int) 8 185 [za_O 19 93, za_I a1, za_I a2, za_I a3] σ0 (fun r σ' => zm 12 10 σ0 σ') := by
  refine zMi_of [(0, za_O 19 93), (1, za_I a1), (2, za_I a2), (3, za_I a3)] (by decide) rfl rfl (Nat.le_of_ble_eq_true rfl) ?_
  intro ho p e s m args below meth c G hr
  refine zv_gen (R9 := zm 12 10 σ0) (zmz hJ) (fun σ hz => ?_)
  refine zv_aload_n (j := 0) G dX10_shifts_0 rfl rfl ?_
  refine zv_iconst (v := 0) G dX10_shifts_1 (by decide) ?_
  refine zp_X10_3 G dX10_shifts_2 ?_
  refine zv_gen (R9 := zm 12 10 σ0) (zm_f93 hz (by decide)) (fun σ hz => ?_)
  refine zv_aload_n (j := 0) G dX10_shifts_5 rfl rfl ?_
  refine zv_callVv (as := []) G (by decide) rfl rfl (zc_X10_putsBy l E  σ (by have h9 := zm_un hz; omega)) zk_X10_putsBy zm_1363 rfl ⟨(Nat.le_of_ble_eq_true rfl), (Nat.le_of_ble_eq_true rfl)⟩ ⟨Nat.zero_le _, Nat.zero_le _⟩ (Nat.le_of_ble_eq_true rfl) dX10_shifts_6 (fun σ h_6 => ?_)
  have hz := zm_pb hz (by decide) h_6
  refine zv_aload_n (j := 0) G dX10_shifts_9 rfl rfl ?_
  refine zv_aload_n (j := 0) G dX10_shifts_10 rfl rfl ?_
  refine zv_aload_n (j := 0) G dX10_shifts_11 rfl rfl ?_
  refine zg_X10_118 G dX10_shifts_12 ?_
  refine zv_iload_n (j := 1) G dX10_shifts_15 rfl rfl ?_
  refine zv_iload_n (j := 2) G dX10_shifts_16 rfl rfl ?_
  refine zv_iload_n (j := 3) G dX10_shifts_17 rfl rfl ?_
  refine zv_callVi (as := [za_O 22 99, za_I a1, za_I a2, za_I a3]) G (by decide) rfl rfl (zc_X10_shiftsOne l E 99 a1 a2 a3 σ (by decide) (zm_G hz)) zk_X10_shiftsOne zm_1454 rfl ⟨(Nat.le_of_ble_eq_true rfl), (Nat.le_of_ble_eq_true rfl)⟩ ⟨Nat.zero_le _, Nat.zero_le _⟩ (Nat.le_of_ble_eq_true rfl) dX10_shifts_18 (fun r_18 σ h_18 => ?_)
  have hz := zm_fa hz h_18
  refine zv_callVi (as := [za_I r_18]) G (by decide) rfl rfl (zc_X10_counted l E r_18 σ (zm_J hJ (zm_w hz (by first | decide | omega)))) zk_X10_counted zm_1391 rfl ⟨(Nat.le_of_ble_eq_true rfl), (Nat.le_of_ble_eq_true rfl)⟩ ⟨Nat.zero_le _, Nat.zero_le _⟩ (Nat.le_of_ble_eq_true rfl) dX10_shifts_21 (fun r_21 σ h_21 => ?_)
  have hz := zm_tr hz h_21
  exact zv_iret G hr dX10_shifts_24 (zm_w hz (by first | decide | omega | (have hL := z_lits; omega)))
set_option maxHeartbeats 4000000 in
set_option maxRecDepth 100000 in
theorem zc_X10_joins (l : Launch) (E : za_E) (a1 : Int32) (σ0 : za_S) (hJ : zJ σ0) : zMi l E yX10_joins cX10_joins 2 (Option.some Jvm.ClassFile.FieldType.int) 6 137 [za_O 19 93, za_I a1] σ0 (fun r σ' => zm 12 10 σ0 σ') := by
  refine zMi_of [(0, za_O 19 93), (1, za_I a1)] (by decide) rfl rfl (Nat.le_of_ble_eq_true rfl) ?_
  intro ho p e s m args below meth c G hr
  refine zv_gen (R9 := zm 12 10 σ0) (zmz hJ) (fun σ hz => ?_)
  refine zv_aload_n (j := 0) G dX10_joins_0 rfl rfl ?_
  refine zv_iconst (v := 0) G dX10_joins_1 (by decide) ?_
  refine zp_X10_3 G dX10_joins_2 ?_
  refine zv_gen (R9 := zm 12 10 σ0) (zm_f93 hz (by decide)) (fun σ hz => ?_)
  refine zv_iload_n (j := 1) G dX10_joins_5 rfl rfl ?_
  refine zv_callSi (as := [za_I a1]) G (zc_X10_isTable l E a1 σ ) zk_X10_isTable zm_1309 rfl ⟨(Nat.le_of_ble_eq_true rfl), (Nat.le_of_ble_eq_true rfl)⟩ ⟨Nat.zero_le _, Nat.zero_le _⟩ (Nat.le_of_ble_eq_true rfl) dX10_joins_6 (fun r_6 σ h_6 => ?_)
  obtain ⟨h_6, rfl⟩ := h_6
  refine zv_if_ne (tgt := 14) G dX10_joins_9 (by decide) (fun c_9 => ?_) (fun c_9 => ?_)
  · have t_6 := h_6.2.mp c_9
    refine zv_aload_n (j := 0) G dX10_joins_14 rfl rfl ?_
    refine zv_callVv (as := []) G (by decide) rfl rfl (zc_X10_putsBy l E  σ (by have h9 := zm_un hz; omega)) zk_X10_putsBy zm_1363 rfl ⟨(Nat.le_of_ble_eq_true rfl), (Nat.le_of_ble_eq_true rfl)⟩ ⟨Nat.zero_le _, Nat.zero_le _⟩ (Nat.le_of_ble_eq_true rfl) dX10_joins_15 (fun σ h_15 => ?_)
    have hz := zm_pb hz (by decide) h_15
    refine zv_aload_n (j := 0) G dX10_joins_18 rfl rfl ?_
    refine zv_aload_n (j := 0) G dX10_joins_19 rfl rfl ?_
    refine zg_X10_118 G dX10_joins_20 ?_
    refine zv_iload_n (j := 1) G dX10_joins_23 rfl rfl ?_
    refine zv_callSi (as := [za_O 22 99, za_I a1]) G (zc_X10_joinsAll l E 99 a1 σ t_6 (zm_G hz).1) zk_X10_joinsAll zm_1463 rfl ⟨(Nat.le_of_ble_eq_true rfl), (Nat.le_of_ble_eq_true rfl)⟩ ⟨Nat.zero_le _, Nat.zero_le _⟩ (Nat.le_of_ble_eq_true rfl) dX10_joins_24 (fun r_24 σ h_24 => ?_)
    have hz := zm_fa hz (zfa_of h_24.1 (zjn_G h_24.2 (zm_G hz)))
    refine zv_callVi (as := [za_I r_24]) G (by decide) rfl rfl (zc_X10_keeps l E r_24 σ (zm_J hJ (zm_w hz (by decide)))) zk_X10_keeps zm_1395 rfl ⟨(Nat.le_of_ble_eq_true rfl), (Nat.le_of_ble_eq_true rfl)⟩ ⟨Nat.zero_le _, Nat.zero_le _⟩ (Nat.le_of_ble_eq_true rfl) dX10_joins_27 (fun r_27 σ h_27 => ?_)
    have hz := zm_tr hz h_27
    exact zv_iret G hr dX10_joins_30 (zm_w hz (by first | decide | omega | (have hL := z_lits; omega)))
  · have f_6 := fun q9 => (h_6.2.mpr q9) c_9
    refine zv_iconst (v := (-1)) G dX10_joins_12 (by decide) ?_
    exact zv_iret G hr dX10_joins_13 (zm_w hz (by first | decide | omega | (have hL := z_lits; omega)))
set_option maxHeartbeats 4000000 in
set_option maxRecDepth 100000 in
theorem zc_X10_way (l : Launch) (E : za_E) (a1 : Int32) (σ0 : za_S) (hJ : zJ σ0) : zMi l E yX10_way cX10_way 2 (Option.some Jvm.ClassFile.FieldType.int) 3 68 [za_O 19 93, za_I a1] σ0 (fun r σ' => zm 12 10 σ0 σ') := by
  refine zMi_of [(0, za_O 19 93), (1, za_I a1)] (by decide) rfl rfl (Nat.le_of_ble_eq_true rfl) ?_
  intro ho p e s m args below meth c G hr
  refine zv_gen (R9 := zm 12 10 σ0) (zmz hJ) (fun σ hz => ?_)
  refine zv_aload_n (j := 0) G dX10_way_0 rfl rfl ?_
  refine zv_iconst (v := 0) G dX10_way_1 (by decide) ?_
  refine zp_X10_3 G dX10_way_2 ?_
  refine zv_gen (R9 := zm 12 10 σ0) (zm_f93 hz (by decide)) (fun σ hz => ?_)
  refine zv_aload_n (j := 0) G dX10_way_5 rfl rfl ?_
  refine zv_callVv (as := []) G (by decide) rfl rfl (zc_X10_putsBy l E  σ (by have h9 := zm_un hz; omega)) zk_X10_putsBy zm_1363 rfl ⟨(Nat.le_of_ble_eq_true rfl), (Nat.le_of_ble_eq_true rfl)⟩ ⟨Nat.zero_le _, Nat.zero_le _⟩ (Nat.le_of_ble_eq_true rfl) dX10_way_6 (fun σ h_6 => ?_)
  have hz := zm_pb hz (by decide) h_6
  refine zv_aload_n (j := 0) G dX10_way_9 rfl rfl ?_
  refine zv_aload_n (j := 0) G dX10_way_10 rfl rfl ?_
  refine zg_X10_118 G dX10_way_11 ?_
  refine zv_iload_n (j := 1) G dX10_way_14 rfl rfl ?_
  refine zv_callSi (as := [za_O 22 99, za_I a1]) G (zc_X10_wayIs l E 99 a1 σ (by decide) (zm_G hz)) zk_X10_wayIs zm_1470 rfl ⟨(Nat.le_of_ble_eq_true rfl), (Nat.le_of_ble_eq_true rfl)⟩ ⟨Nat.zero_le _, Nat.zero_le _⟩ (Nat.le_of_ble_eq_true rfl) dX10_way_15 (fun r_15 σ h_15 => ?_)
  have hz := zm_fa hz (zfa_of h_15.1 h_15.2)
  refine zv_callVi (as := [za_I r_15]) G (by decide) rfl rfl (zc_X10_counted l E r_15 σ (zm_J hJ (zm_w hz (by first | decide | omega)))) zk_X10_counted zm_1391 rfl ⟨(Nat.le_of_ble_eq_true rfl), (Nat.le_of_ble_eq_true rfl)⟩ ⟨Nat.zero_le _, Nat.zero_le _⟩ (Nat.le_of_ble_eq_true rfl) dX10_way_18 (fun r_18 σ h_18 => ?_)
  have hz := zm_tr hz h_18
  exact zv_iret G hr dX10_way_21 (zm_w hz (by first | decide | omega | (have hL := z_lits; omega)))
set_option maxHeartbeats 4000000 in
set_option maxRecDepth 100000 in
theorem zc_X10_undo (l : Launch) (E : za_E)  (σ0 : za_S) (hJ : zJ σ0) : zMi l E yX10_undo cX10_undo 2 (Option.some Jvm.ClassFile.FieldType.int) 1 21 [za_O 19 93] σ0 (fun r σ' => zm 12 10 σ0 σ') := by
  refine zMi_of [(0, za_O 19 93)] (by decide) rfl rfl (Nat.le_of_ble_eq_true rfl) ?_
  intro ho p e s m args below meth c G hr
  refine zv_gen (R9 := zm 12 10 σ0) (zmz hJ) (fun σ hz => ?_)
  refine zv_aload_n (j := 0) G dX10_undo_0 rfl rfl ?_
  refine zv_iconst (v := 0) G dX10_undo_1 (by decide) ?_
  refine zp_X10_3 G dX10_undo_2 ?_
  refine zv_gen (R9 := zm 12 10 σ0) (zm_f93 hz (by decide)) (fun σ hz => ?_)
  refine zv_aload_n (j := 0) G dX10_undo_5 rfl rfl ?_
  refine zg_X10_205 G dX10_undo_6 ?_
  refine zv_if_ne (tgt := 14) G dX10_undo_9 (by decide) (fun c_9 => ?_) (fun c_9 => ?_)
  · have k_9 := z_cne c_9 (a := (σ.1 93 17).toInt) (b := 0) rfl rfl
    refine zv_aload_n (j := 0) G dX10_undo_14 rfl rfl ?_
    refine zv_dupO G dX10_undo_15 ?_
    refine zg_X10_205 G dX10_undo_16 ?_
    refine zv_iconst (v := 1) G dX10_undo_19 (by decide) ?_
    refine zv_isub G dX10_undo_20 ?_
    refine zp_X10_205 G dX10_undo_21 ?_
    refine zv_gen (R9 := zm 12 9 σ0) (zm_u hz (by have h8 := zm_un hz; have h9 := z_d1 (a := 1) (b := 10) (x := σ.1 93 17) (by omega) (by decide) (by decide); omega)) (fun σ hz => ?_)
    refine zv_iconst (v := 0) G dX10_undo_24 (by decide) ?_
    have J_26 : ∀ (n : Nat) (y1_26 : Int32) (σ1 : za_S) (σ : za_S) (h1 : zm 12 9 σ0 σ1) (hz : σ = zrw σ1 99 0 y1_26.toInt.toNat (fun i => σ1.1 102 (2001 * (σ1.1 93 17).toInt.toNat + i))) (i1_26 : 0 ≤ y1_26.toInt) (u1_26 : y1_26.toInt ≤ 2001) (hn_26 : (2147483648 - y1_26.toInt).toNat < n), zV p l e (zRm 1 21) s m args below meth c E (za_A E) 2 0 0 (MQ below (va_Qi (fun r σ' => zm 12 10 σ0 σ') (zB E) (za_A E)) args s 0 0 (za_A E)) 26 [(0, za_O 19 93), (1, za_I y1_26)] [] σ := by
      intro n
      induction n with
      | zero => intro y1_26 σ1 σ h1 hz i1_26 u1_26 hn; exact absurd hn (Nat.not_lt_zero _)
      | succ n ih_26 =>
        intro y1_26 σ1 σ h1 hz i1_26 u1_26 hn_26
        refine zv_iload_n (j := 1) G dX10_undo_26 rfl rfl ?_
        refine zv_sipush (v := 2001) G dX10_undo_27 (by decide) ?_
        refine zv_icmp_ge (tgt := 60) G dX10_undo_30 (by decide) (fun c_30 => ?_) (fun c_30 => ?_)
        · have k_30 := z_cle c_30 (a := 2001) (b := y1_26.toInt) rfl rfl
          have hz : zm 12 10 σ0 σ := zm_u9 (zm_ud h1 (by have h9 := zm_un h1; omega) hz (by omega)) (by rw [hz, zrw_o (by decide)]; have h9 := zm_un h1; omega)
          refine zv_aload_n (j := 0) G dX10_undo_60 rfl rfl ?_
          refine zg_X10_205 G dX10_undo_61 ?_
          exact zv_iret G hr dX10_undo_64 (zm_w hz (by first | decide | omega | (have hL := z_lits; omega)))
        · have b_30 : 0 ≤ y1_26.toInt ∧ y1_26.toInt < 2001 := ⟨i1_26, z_ltk c_30 rfl⟩
          have k_30 := z_cnle c_30 (a := 2001) (b := y1_26.toInt) rfl rfl
          have e17 : σ.1 93 17 = σ1.1 93 17 := by rw [hz, zrw_o (by decide)]
          have hx9 := z_ux (u := σ1.1 93 17) (by have h9 := zm_un h1; omega) b_30
          refine zv_aload_n (j := 0) G dX10_undo_33 rfl rfl ?_
          refine zg_X10_118 G dX10_undo_34 ?_
          refine zv_iload_n (j := 1) G dX10_undo_37 rfl rfl ?_
          refine zv_aload_n (j := 0) G dX10_undo_38 rfl rfl ?_
          refine zg_X10_127 G dX10_undo_39 ?_
          refine zv_sipush (v := 2001) G dX10_undo_42 (by decide) ?_
          refine zv_aload_n (j := 0) G dX10_undo_45 rfl rfl ?_
          refine zg_X10_205 G dX10_undo_46 ?_
          refine zv_imul G dX10_undo_49 ?_
          refine zv_iload_n (j := 1) G dX10_undo_50 rfl rfl ?_
          refine zv_iadd G dX10_undo_51 ?_
          refine zv_iald G (by decide) rfl (by rw [e17]; exact hx9.1) dX10_undo_52 ?_
          refine zv_iast G (by decide) rfl (fun _ => rfl) (z_in (by omega) (by omega)) dX10_undo_53 ?_
          refine zv_gen (R9 := (fun σ => σ = zrw σ1 99 0 (y1_26.toInt.toNat + 1) (fun i => σ1.1 102 (2001 * (σ1.1 93 17).toInt.toNat + i)))) (zrw_s hz (by show y1_26.toInt.toNat = _; omega) (by rw [e17, hx9.2, hz, zrw_o (by decide)])) (fun σ hz => ?_)
          obtain ⟨x_54, e_54⟩ : ∃ y : Int32, y = y1_26 + 1 := ⟨_, rfl⟩
          refine zv_iinc (j := 1) (v := x_54) (lv' := [(1, za_I x_54), (0, za_O 19 93)]) G dX10_undo_54 rfl (by rw [e_54]; rfl) (by decide) rfl ?_
          first | have q_54 := z_inc9 (by omega) e_54 | skip
          refine zv_goto (tgt := 26) G dX10_undo_57 (by decide) ?_
          refine zv_sub [1, 0] (lv' := [(0, za_O 19 93), (1, za_I x_54)]) rfl ?_
          exact ih_26 x_54 σ1 σ h1 (zrw_n hz (by omega)) (by have := z_inc c_30 e_54; omega) (by have := z_inc9 (by omega) e_54; omega) (z_meas c_30 e_54 hn_26)
    refine zv_istore_n (lv' := [(1, za_I 0), (0, za_O 19 93)]) G dX10_undo_25 rfl (by decide) rfl ?_
    refine zv_sub [1, 0] (lv' := [(0, za_O 19 93), (1, za_I 0)]) rfl ?_
    exact J_26 _ (0 : Int32) σ σ hz (zrw_0 σ 99 0 _).symm (by decide) (by decide) (Nat.lt_succ_self _)
  · have k_9 := z_ceq c_9 (a := (σ.1 93 17).toInt) (b := 0) rfl rfl
    refine zv_iconst (v := (-1)) G dX10_undo_12 (by decide) ?_
    exact zv_iret G hr dX10_undo_13 (zm_w hz (by first | decide | omega | (have hL := z_lits; omega)))
