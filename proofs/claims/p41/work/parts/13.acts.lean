/-! ===== acts on a table: what a row of cells is afterwards ===== -/
theorem zG_cong {f g : Nat → Int32} (h : ∀ i, i < 2000 → g i = f i) (G9 : zG f) : zG g := by
  refine ⟨fun i hi => by rw [h i hi]; exact G9.1 i hi, fun i hi ht => ?_, ?_, ?_⟩
  · rw [h i hi] at ht ⊢
    rcases G9.2.1 i hi ht with q | ⟨q1, q2⟩
    · exact Or.inl q
    · exact Or.inr ⟨q1, by rw [h (i - 1) (by omega)]; exact q2⟩
  · have e : zcn g 0 = zcn f 0 := fb_ct_cong (fun j hj => by show zbB _ = zbB _; rw [h _ (by omega)])
    rw [e]
    exact G9.2.2.1
  · have e : zcn g 1 = zcn f 1 := fb_ct_cong (fun j hj => by show zbB _ = zbB _; rw [h _ (by omega)])
    rw [e]
    exact G9.2.2.2
/-- what an act leaves: all but its table, and two counts of the reference -/
def zfx (q : Nat) (σ0 σ : za_S) : Prop := (∀ w, w ≠ q → w ≠ 93 → σ.1 w = σ0.1 w) ∧ σ.2 = σ0.2 ∧ ∀ j, j ≠ 19 → j ≠ 20 → σ.1 93 j = σ0.1 93 j
theorem zfx_r (q : Nat) (σ : za_S) : zfx q σ σ := ⟨fun _ _ _ => rfl, rfl, fun _ _ _ => rfl⟩
theorem zfx_t {q : Nat} {a b d : za_S} (h : zfx q a b) (k : zfx q b d) : zfx q a d := ⟨fun w h1 h2 => (k.1 w h1 h2).trans (h.1 w h1 h2), k.2.1.trans h.2.1, fun j h1 h2 => (k.2.2 j h1 h2).trans (h.2.2 j h1 h2)⟩
theorem zfx_si {q i : Nat} {σ0 σ : za_S} {x : Int32} (hq : q ≠ 93) (h : zfx q σ0 σ) : zfx q σ0 (za_si σ q i x) := by
  refine ⟨fun w h1 h2 => ?_, h.2.1, fun j h1 h2 => ?_⟩
  · rw [(za_si_off w h1).1]
    exact h.1 w h1 h2
  · rw [za_si_ne _ _ (Or.inl (Ne.symm hq))]
    exact h.2.2 j h1 h2
theorem zfx_93 {q j : Nat} {σ0 σ : za_S} {x : Int32} (hj : j = 19 ∨ j = 20) (h : zfx q σ0 σ) : zfx q σ0 (za_si σ 93 j x) := by
  refine ⟨fun w h1 h2 => ?_, h.2.1, fun i h1 h2 => ?_⟩
  · rw [(za_si_off w h2).1]
    exact h.1 w h1 h2
  · rw [za_si_ne _ _ (Or.inr (by omega))]
    exact h.2.2 i h1 h2
theorem zkq {q : Nat} (h : za_kd q = 22) : q = 99 ∨ q = 100 ∨ q = 101 := (by decide +kernel : ∀ q, q < 194 → za_kd q = 22 → q = 99 ∨ q = 100 ∨ q = 101) q (za_kd_lt h (by decide)) h
theorem zupd_s {f : Nat → Int32} {i : Nat} {x : Int32} : upd f i x i = x := if_pos rfl
theorem zupd_n {f : Nat → Int32} {i j : Nat} {x : Int32} (h : j ≠ i) : upd f i x j = f j := if_neg h
/-- a cell is of what a row may hold -/
def zok1 (x : Int32) : Prop := 0 ≤ x.toInt ∧ x.toInt ≤ 2200
/-! joined -/
def zjn (f g : Nat → Int32) : Prop := ∀ i, i < 2000 → zok1 (g i) ∧ (zT (g i) ↔ zT (f i)) ∧ (zBg (g i) → zBg (f i)) ∧ (zBg (f i) → zBg (g i) ∨ (¬ i % 100 = 0 ∧ zT (f (i - 1))))
def zjr (q : Nat) (σ0 σ : za_S) : Prop := zfx q σ0 σ ∧ zjn (σ0.1 q) (σ.1 q)
theorem zjr_0 {q : Nat} {σ : za_S} (h : zGB (σ.1 q)) : zjr q σ σ := ⟨zfx_r q σ, fun i hi => ⟨h i hi, Iff.rfl, fun z => z, fun z => Or.inl z⟩⟩
theorem zlay_ok {x : Int32} {b : Int32} (h : 0 < x.toInt) (h2 : x.toInt ≤ 2200) (hb : b = 0 ∨ b = 1) : (0 < (zly (zvl x) (zrf x) b).toInt ∧ (zly (zvl x) (zrf x) b).toInt ≤ 2200) ∧ (zBg (zly (zvl x) (zrf x) b) ↔ b = 1) := z_lyB (z_vl h h2) (z_rf h) hb
theorem zix_m {t k d : Int32} (ht : 0 ≤ t.toInt ∧ t.toInt ≤ 1) (hk : 0 ≤ k.toInt ∧ k.toInt ≤ 9) (hd : 0 ≤ d.toInt ∧ d.toInt ≤ 99) : ((zix t k d % 100 : Nat) : Int) = d.toInt := by
  have h := zix_lt ht hk hd
  omega
theorem zj_step {q : Nat} {σ0 σ σ' : za_S} {t k d a b : Int32} (hq : q ≠ 93) (ht : 0 ≤ t.toInt ∧ t.toInt ≤ 1) (hk : 0 ≤ k.toInt ∧ k.toInt ≤ 9) (hd9 : 0 ≤ d.toInt ∧ d.toInt < 100) (hz : zjr q σ0 σ) (v : zbg (σ.1 q) t k d ∧ zth (σ.1 q) t k (d - 1)) (e1 : a = zvl (σ.1 q (zix t k d))) (e2 : b = zrf (σ.1 q (zix t k d))) (e : σ' = za_si σ q (zix t k d) (zly a b (if (0 : Int32) = 0 then 0 else 1))) : zjr q σ0 σ' := by
  rw [e, e1, e2, if_pos rfl]
  have hd := v.1.1
  have h1 := zix_lt ht hk hd
  have hm := zix_m ht hk hd
  have hdm : (d - 1).toInt = d.toInt - 1 := by rw [z_sub (by rw [z_one]; omega) (by rw [z_one]; omega), z_one]
  have hp := v.2.1
  have h2 := zix_lt ht hk hp
  have h3 : zix t k (d - 1) = zix t k d - 1 := by omega
  have hT : zT (σ.1 q (zix t k d - 1)) := by rw [← h3]; exact v.2.2
  have hbg := v.1.2
  have hok := (hz.2 _ h1.1).1
  have hl := zlay_ok (b := 0) hbg.1 hok.2 (Or.inl rfl)
  refine ⟨zfx_si hq hz.1, fun i hi => ?_⟩
  rw [za_si_w]
  by_cases hc : i = zix t k d
  · rw [hc, zupd_s]
    have hj := hz.2 _ h1.1
    refine ⟨⟨by omega, hl.1.2⟩, ⟨fun _ => hj.2.1.mp hbg.1, fun _ => hl.1.1⟩, fun z => absurd (hl.2.mp z) (by decide), fun _ => Or.inr ⟨by omega, ?_⟩⟩
    exact (hz.2 _ (by omega)).2.1.mp hT
  · rw [zupd_n hc]
    exact hz.2 i hi
theorem zjn_G {f g : Nat → Int32} (h : zjn f g) (G9 : zG f) : zG g := by
  refine ⟨fun i hi => (h i hi).1, fun i hi ht => ?_, ?_, ?_⟩
  · have h1 := h i hi
    rcases G9.2.1 i hi (h1.2.1.mp ht) with q | ⟨q1, q2⟩
    · rcases h1.2.2.2 q with q3 | ⟨q3, q4⟩
      · exact Or.inl q3
      · exact Or.inr ⟨q3, (h (i - 1) (by omega)).2.1.mpr q4⟩
    · exact Or.inr ⟨q1, (h (i - 1) (by omega)).2.1.mpr q2⟩
  · exact Nat.le_trans (fb_ct_sub (fun j hj hp => zbB_iff.mpr ((h _ (by omega)).2.2.1 (zbB_iff.mp hp)))) G9.2.2.1
  · exact Nat.le_trans (fb_ct_sub (fun j hj hp => zbB_iff.mpr ((h _ (by omega)).2.2.1 (zbB_iff.mp hp)))) G9.2.2.2
/-! turned: what is there stays, rows only begin -/
def ztr (f g : Nat → Int32) : Prop := ∀ i, i < 2000 → zok1 (g i) ∧ (zT (g i) ↔ zT (f i)) ∧ (zBg (f i) → zBg (g i))
def ztu (q : Nat) (σ0 σ : za_S) : Prop := zfx 101 σ0 σ ∧ ztr (σ0.1 q) (σ.1 101)
theorem ztr_GI {f g : Nat → Int32} (h : ztr f g) (G9 : zGI f) : zGB g ∧ zGI g := by
  refine ⟨fun i hi => (h i hi).1, fun i hi ht => ?_⟩
  have h1 := h i hi
  rcases G9 i hi (h1.2.1.mp ht) with q | ⟨q1, q2⟩
  · exact Or.inl (h1.2.2 q)
  · exact Or.inr ⟨q1, (h (i - 1) (by omega)).2.1.mpr q2⟩
theorem zfx_cp {q : Nat} {σ0 σ σ' : za_S} (h : zfx 101 σ0 σ) (e : σ' = zcp σ q 101 2001) : zfx 101 σ0 σ' := by
  rw [e]
  refine ⟨fun w h1 h2 => ?_, h.2.1, fun j h1 h2 => ?_⟩
  · rw [zcp_o h1]
    exact h.1 w h1 h2
  · rw [zcp_o (by decide)]
    exact h.2.2 j h1 h2
theorem ztu_0 {q : Nat} {σ0 σ σ' : za_S} (hq : q ≠ 101 ∧ q ≠ 93) (hB : zGB (σ0.1 q)) (h : zfx 101 σ0 σ) (e : σ' = zcp σ q 101 2001) : ztu q σ0 σ' := by
  refine ⟨zfx_cp h e, fun i hi => ?_⟩
  rw [e, zcp_w (by omega), h.1 q hq.1 hq.2]
  exact ⟨hB i hi, Iff.rfl, fun z => z⟩
theorem ztu_q {q : Nat} {σ0 σ : za_S} (hq : q ≠ 101 ∧ q ≠ 93) (h : ztu q σ0 σ) : σ.1 q = σ0.1 q := h.1.1 q hq.1 hq.2
theorem zfx_q {q : Nat} {σ0 σ : za_S} (hq : q ≠ 101 ∧ q ≠ 93) (h : zfx 101 σ0 σ) : σ.1 q = σ0.1 q := h.1 q hq.1 hq.2
theorem ztu_l {q : Nat} {σ0 σ σ' : za_S} {t k d v f b : Int32} (ht : 0 ≤ t.toInt ∧ t.toInt ≤ 1) (hk : 0 ≤ k.toInt ∧ k.toInt ≤ 9) (hz : ztu q σ0 σ) (h : zth (σ0.1 q) t k d) (hv : 0 ≤ v.toInt ∧ v.toInt ≤ 99) (hf : 0 ≤ f.toInt ∧ f.toInt ≤ 10) (w : (b = 0 ∨ b = 1) ∧ (zbg (σ0.1 q) t k d → b = 1)) (e : σ' = za_si σ 101 (zix t k d) (zly v f (if b = 0 then 0 else 1))) : ztu q σ0 σ' := by
  have hb : (if b = 0 then (0 : Int32) else 1) = b := by
    rcases w.1 with rfl | rfl <;> rfl
  rw [e, hb]
  have h1 := zix_lt ht hk h.1
  have hl := z_lyB hv hf w.1
  refine ⟨zfx_si (by decide) hz.1, fun i hi => ?_⟩
  rw [za_si_w]
  by_cases hc : i = zix t k d
  · rw [hc, zupd_s]
    exact ⟨⟨by omega, hl.1.2⟩, ⟨fun _ => h.2, fun _ => hl.1.1⟩, fun z => hl.2.mpr (w.2 ⟨h.1, z⟩)⟩
  · rw [zupd_n hc]
    exact hz.2 i hi
theorem ztu_s {q : Nat} {σ0 σ σ' : za_S} {t k d : Int32} (ht : 0 ≤ t.toInt ∧ t.toInt ≤ 1) (hk : 0 ≤ k.toInt ∧ k.toInt ≤ 9) (hz : ztu q σ0 σ) (e : (zth (σ.1 101) t k d ∧ σ' = za_si σ 101 (zix t k d) (zly (zvl (σ.1 101 (zix t k d))) (zrf (σ.1 101 (zix t k d))) 1)) ∨ (¬ zth (σ.1 101) t k d ∧ σ' = σ)) : ztu q σ0 σ' := by
  rcases e with ⟨h, e⟩ | ⟨-, e⟩
  · rw [e]
    have h1 := zix_lt ht hk h.1
    have hj := hz.2 _ h1.1
    have hl := zlay_ok (b := 1) h.2 hj.1.2 (Or.inr rfl)
    refine ⟨zfx_si (by decide) hz.1, fun i hi => ?_⟩
    rw [za_si_w]
    by_cases hc : i = zix t k d
    · rw [hc, zupd_s]
      exact ⟨⟨by omega, hl.1.2⟩, ⟨fun _ => hj.2.1.mp h.2, fun _ => hl.1.1⟩, fun _ => hl.2.mpr rfl⟩
    · rw [zupd_n hc]
      exact hz.2 i hi
  · rw [e]
    exact hz
/-! a row laid -/
def zld (f g : Nat → Int32) (lo hi : Nat) : Prop := ∀ i, i < 2000 → (lo ≤ i ∧ i < hi → (0 < (g i).toInt ∧ (g i).toInt ≤ 2200) ∧ (zBg (g i) ↔ i = lo)) ∧ (¬ (lo ≤ i ∧ i < hi) → g i = f i)
theorem zld_GI {f g : Nat → Int32} {lo hi : Nat} (h : zld f g lo hi) (hB : zGB f) (G9 : zGI f) (h1 : lo / 100 = (hi - 1) / 100) (h2 : lo < hi) : zGB g ∧ zGI g := by
  refine ⟨fun i hi9 => ?_, fun i hi9 ht => ?_⟩
  · by_cases c : lo ≤ i ∧ i < hi
    · have := ((h i hi9).1 c).1
      omega
    · rw [(h i hi9).2 c]
      exact hB i hi9
  · by_cases c : lo ≤ i ∧ i < hi
    · have h3 := (h i hi9).1 c
      by_cases e : i = lo
      · exact Or.inl (h3.2.mpr e)
      · refine Or.inr ⟨by omega, ?_⟩
        exact ((h (i - 1) (by omega)).1 (by omega)).1.1
    · rw [(h i hi9).2 c] at ht ⊢
      rcases G9 i hi9 ht with q | ⟨q1, q2⟩
      · exact Or.inl q
      · refine Or.inr ⟨q1, ?_⟩
        by_cases c2 : lo ≤ i - 1 ∧ i - 1 < hi
        · exact ((h (i - 1) (by omega)).1 c2).1.1
        · rw [(h (i - 1) (by omega)).2 c2]
          exact q2
def zla (q : Nat) (t k fd d : Int32) (σ0 σ : za_S) : Prop := zfx 101 σ0 σ ∧ zld (σ0.1 q) (σ.1 101) (zix t k fd) (zix t k fd + (d.toInt - fd.toInt).toNat)
theorem zla_0 {q : Nat} {t k fd : Int32} {σ0 σ σ' : za_S} (hq : q ≠ 101 ∧ q ≠ 93) (h : zfx 101 σ0 σ) (e : σ' = zcp σ q 101 2001) : zla q t k fd fd σ0 σ' := by
  refine ⟨zfx_cp h e, fun i hi => ⟨fun c => by omega, fun _ => ?_⟩⟩
  rw [e, zcp_w (by omega), h.1 q hq.1 hq.2]
theorem zla_s {q : Nat} {t k fd d x v b : Int32} {σ0 σ σ' : za_S} (ht : 0 ≤ t.toInt ∧ t.toInt ≤ 1) (hk : 0 ≤ k.toInt ∧ k.toInt ≤ 9) (hf : 0 ≤ fd.toInt ∧ fd.toInt ≤ 99) (hd : fd.toInt ≤ d.toInt ∧ d.toInt ≤ 99) (hz : zla q t k fd d σ0 σ) (hv : 0 ≤ v.toInt ∧ v.toInt ≤ 99) (w : (b = 0 ∨ b = 1) ∧ (b = 1 ↔ d.toInt = fd.toInt)) (e : σ' = za_si σ 101 (zix t k d) (zly v 10 (if b = 0 then 0 else 1))) (ex : x.toInt = d.toInt + 1) : zla q t k fd x σ0 σ' := by
  have hb : (if b = 0 then (0 : Int32) else 1) = b := by
    rcases w.1 with rfl | rfl <;> rfl
  rw [e, hb]
  have h1 := zix_lt ht hk (d := d) (by omega)
  have h2 := zix_lt ht hk hf
  have hl := z_lyB (f := 10) hv (by decide) w.1
  refine ⟨zfx_si (by decide) hz.1, fun i hi => ?_⟩
  rw [za_si_w]
  by_cases hc : i = zix t k d
  · rw [hc, zupd_s]
    refine ⟨fun _ => ⟨hl.1, hl.2.trans (w.2.trans ⟨fun q => by omega, fun q => by omega⟩)⟩, fun c => absurd ⟨by omega, by omega⟩ c⟩
  · rw [zupd_n hc]
    refine ⟨fun c => (hz.2 i hi).1 ⟨by omega, by omega⟩, fun c => (hz.2 i hi).2 (fun c2 => c ⟨by omega, by omega⟩)⟩
theorem zla_G {q : Nat} {t k fd td : Int32} {σ0 σ : za_S} (ht : 0 ≤ t.toInt ∧ t.toInt ≤ 1) (hk : 0 ≤ k.toInt ∧ k.toInt ≤ 9) (hf : (0 ≤ fd.toInt ∧ fd.toInt ≤ 99) ∧ fd.toInt < td.toInt ∧ td.toInt ≤ 100) (hG : zG (σ0.1 q)) (hz : zla q t k fd td σ0 σ) : zGB (σ.1 101) ∧ zGI (σ.1 101) := by
  have h2 := zix_lt ht hk hf.1
  exact zld_GI hz.2 hG.1 hG.2.1 (by omega) (by omega)
/-- an act is done, or is refused -/
def zfa (q : Nat) (σ0 σ : za_S) : Prop := (∀ w, w ≠ q → w ≠ 101 → w ≠ 93 → σ.1 w = σ0.1 w) ∧ σ.2 = σ0.2 ∧ (∀ j, j ≠ 19 → j ≠ 20 → σ.1 93 j = σ0.1 93 j) ∧ zG (σ.1 q)
theorem zfa_r {q : Nat} {σ : za_S} (h : zG (σ.1 q)) : zfa q σ σ := ⟨fun _ _ _ _ => rfl, rfl, fun _ _ _ => rfl, h⟩
theorem zfa_x {q : Nat} {σ0 σ : za_S} (hq : q ≠ 101 ∧ q ≠ 93) (hG : zG (σ0.1 q)) (h : zfx 101 σ0 σ) : zfa q σ0 σ := ⟨fun w _ h2 h3 => h.1 w h2 h3, h.2.1, h.2.2, by rw [h.1 q hq.1 hq.2]; exact hG⟩
theorem zfa_s {q : Nat} {σ0 σ σ' : za_S} {r a : Int32} (hq : q ≠ 101 ∧ q ≠ 93) (hG : zG (σ0.1 q)) (h : zfx 101 σ0 σ) (g : zGB (σ.1 101) ∧ zGI (σ.1 101)) (e : (r = -9 ∧ σ' = σ) ∨ (r = a ∧ (zcn (σ.1 101) 0 ≤ 20 ∧ zcn (σ.1 101) 1 ≤ 20) ∧ σ' = zcp σ 101 q 2001)) : zfa q σ0 σ' := by
  rcases e with ⟨-, e⟩ | ⟨-, c, e⟩
  · rw [e]
    exact zfa_x hq hG h
  · rw [e]
    refine ⟨fun w h1 h2 h3 => ?_, h.2.1, fun j h1 h2 => ?_, ?_⟩
    · rw [zcp_o h1]
      exact h.1 w h2 h3
    · rw [zcp_o (Ne.symm hq.2)]
      exact h.2.2 j h1 h2
    · exact zG_cong (fun i hi => zcp_w (by omega)) ⟨g.1, g.2, c⟩
theorem z_v99 {a : Int32} (h : (0 : Int64).toInt ≤ a.toInt64.toInt ∧ a.toInt64.toInt ≤ (99 : Int64).toInt) : 0 ≤ a.toInt ∧ a.toInt ≤ 99 := by
  have hL := z_lL
  rw [z_w] at h
  omega
theorem z_v10 {a : Int32} (h : (0 : Int64).toInt ≤ a.toInt64.toInt ∧ a.toInt64.toInt ≤ (10 : Int64).toInt) : 0 ≤ a.toInt ∧ a.toInt ≤ 10 := by
  have hL := z_lL
  rw [z_w] at h
  omega
theorem zv_is {v : Int32} (h : 0 ≤ v.toInt ∧ v.toInt ≤ 99) : (¬ (1 : Int32) = 0 → 0 ≤ v.toInt ∧ v.toInt ≤ 99) ∧ ((1 : Int32) = 0 → 0 ≤ v.toInt ∧ v.toInt ≤ 10) := ⟨fun _ => h, fun q => absurd q (by decide)⟩
theorem zv_ir {v : Int32} (h : 0 ≤ v.toInt ∧ v.toInt ≤ 10) : (¬ (0 : Int32) = 0 → 0 ≤ v.toInt ∧ v.toInt ≤ 99) ∧ ((0 : Int32) = 0 → 0 ≤ v.toInt ∧ v.toInt ≤ 10) := ⟨fun q => absurd rfl q, fun _ => h⟩
theorem ztu_c {q : Nat} {σ0 σ σ' : za_S} {r : Int32} (hq : q ≠ 101 ∧ q ≠ 93) (h : zfx 101 σ0 σ) (k : zfx 101 σ σ' ∧ (0 ≤ r.toInt → ztr (σ.1 q) (σ'.1 101))) : zfx 101 σ0 σ' ∧ (0 ≤ r.toInt → ztr (σ0.1 q) (σ'.1 101)) := ⟨zfx_t h k.1, fun z => by rw [← zfx_q hq h]; exact k.2 z⟩
/-! a period taken out -/
def zt1 (q : Nat) (σ0 σ : za_S) : Prop := zfx q σ0 σ ∧ σ.1 q = σ0.1 q
theorem zt1_0 (q : Nat) (σ : za_S) : zt1 q σ σ := ⟨zfx_r q σ, rfl⟩
theorem zt1_w {q : Nat} {σ0 σ : za_S} {x : Int32} (hq : q ≠ 93) (h : zt1 q σ0 σ) : zt1 q σ0 (za_si σ 93 19 x) := ⟨zfx_93 (Or.inl rfl) h.1, by rw [(za_si_off q hq).1]; exact h.2⟩
def zto (f g : Nat → Int32) (lo cur hi : Nat) : Prop := (∀ i, i < 2000 → (lo ≤ i ∧ i < cur → (g i).toInt = 0) ∧ (¬ (lo ≤ i ∧ i < cur) → zok1 (g i) ∧ (zT (g i) ↔ zT (f i)) ∧ (zBg (f i) → zBg (g i)))) ∧ (hi < 2000 → ¬ hi % 100 = 0 → zT (f (hi - 1)) → zT (f hi) → zBg (g hi))
def zt3 (q : Nat) (t k fd td d : Int32) (σ0 σ : za_S) : Prop := zfx q σ0 σ ∧ zto (σ0.1 q) (σ.1 q) (zix t k fd) (zix t k fd + (d.toInt - fd.toInt).toNat) (zix t k fd + (td.toInt - fd.toInt).toNat)
theorem zt3_a {q : Nat} {t k fd td : Int32} {σ0 σ : za_S} (ht : 0 ≤ t.toInt ∧ t.toInt ≤ 1) (hk : 0 ≤ k.toInt ∧ k.toInt ≤ 9) (hp : (0 ≤ fd.toInt ∧ fd.toInt ≤ 99) ∧ fd.toInt < td.toInt ∧ td.toInt ≤ 100) (hB : zGB (σ0.1 q)) (_ : zGI (σ0.1 q)) (hz : zt1 q σ0 σ) (n : zth (σ.1 q) t k (td - 1) → False) : zt3 q t k fd td fd σ0 σ := by
  refine ⟨hz.1, fun i hi => ⟨fun c => by omega, fun _ => ?_⟩, fun h1 h2 h3 h4 => ?_⟩
  · rw [hz.2]
    exact ⟨hB i hi, Iff.rfl, fun z => z⟩
  · exfalso
    have e1 : (td - 1).toInt = td.toInt - 1 := by rw [z_sub (by rw [z_one]; omega) (by rw [z_one]; omega), z_one]
    have e2 := zix_lt ht hk hp.1
    have e3 := zix_lt ht hk (d := td - 1) (by omega)
    refine n ⟨by omega, ?_⟩
    rw [hz.2, show zix t k (td - 1) = zix t k fd + (td.toInt - fd.toInt).toNat - 1 by omega]
    exact h3
theorem zt3_b {q : Nat} {t k fd td : Int32} {σ0 σ σ' : za_S} (hq : q ≠ 93) (ht : 0 ≤ t.toInt ∧ t.toInt ≤ 1) (hk : 0 ≤ k.toInt ∧ k.toInt ≤ 9) (hp : (0 ≤ fd.toInt ∧ fd.toInt ≤ 99) ∧ fd.toInt < td.toInt ∧ td.toInt ≤ 100) (hB : zGB (σ0.1 q)) (hI : zGI (σ0.1 q)) (hz : zt1 q σ0 σ) (_ : zth (σ.1 q) t k (td - 1)) (e : (zth (σ.1 q) t k td ∧ σ' = za_si σ q (zix t k td) (zly (zvl (σ.1 q (zix t k td))) (zrf (σ.1 q (zix t k td))) 1)) ∨ (¬ zth (σ.1 q) t k td ∧ σ' = σ)) : zt3 q t k fd td fd σ0 σ' := by
  have e2 := zix_lt ht hk hp.1
  rcases e with ⟨h, e⟩ | ⟨h, e⟩
  · rw [e]
    have e3 := zix_lt ht hk h.1
    rw [hz.2] at h ⊢
    have hok := hB _ e3.1
    have hl := zlay_ok (b := 1) h.2 hok.2 (Or.inr rfl)
    refine ⟨zfx_si hq hz.1, fun i hi => ⟨fun c => by omega, fun _ => ?_⟩, fun h1 h2 h3 h4 => ?_⟩
    · rw [za_si_w, hz.2]
      by_cases hc : i = zix t k td
      · rw [hc, zupd_s]
        exact ⟨⟨by omega, hl.1.2⟩, ⟨fun _ => h.2, fun _ => hl.1.1⟩, fun _ => hl.2.mpr rfl⟩
      · rw [zupd_n hc]
        exact ⟨hB i hi, Iff.rfl, fun z => z⟩
    · rw [za_si_w, show zix t k fd + (td.toInt - fd.toInt).toNat = zix t k td by omega, zupd_s]
      exact hl.2.mpr rfl
  · rw [e]
    refine ⟨hz.1, fun i hi => ⟨fun c => by omega, fun _ => ?_⟩, fun h1 h2 h3 h4 => ?_⟩
    · rw [hz.2]
      exact ⟨hB i hi, Iff.rfl, fun z => z⟩
    · exfalso
      by_cases c : td.toInt ≤ 99
      · have e3 := zix_lt ht hk (d := td) (by omega)
        refine h ⟨by omega, ?_⟩
        rw [hz.2, show zix t k td = zix t k fd + (td.toInt - fd.toInt).toNat by omega]
        exact h4
      · omega
theorem zt3_s {q : Nat} {t k fd td d r : Int32} {σ0 σ : za_S} (hq : q ≠ 93) (ht : 0 ≤ t.toInt ∧ t.toInt ≤ 1) (hk : 0 ≤ k.toInt ∧ k.toInt ≤ 9) (hp : (0 ≤ fd.toInt ∧ fd.toInt ≤ 99) ∧ fd.toInt < td.toInt ∧ td.toInt ≤ 100) (hd : fd.toInt ≤ d.toInt ∧ d.toInt < td.toInt) (hz : zt3 q t k fd td d σ0 σ) (er : r.toNatClampNeg = zix t k d) : zt3 q t k fd td (d + 1) σ0 (za_si σ q r.toNatClampNeg 0) := by
  rw [er]
  have h1 := zix_lt ht hk (d := d) (by omega)
  have h2 := zix_lt ht hk hp.1
  have ed : (d + 1).toInt = d.toInt + 1 := by rw [z_add (by rw [z_one]; omega) (by rw [z_one]; omega), z_one]
  refine ⟨zfx_si hq hz.1, fun i hi => ?_, fun a1 a2 a3 a4 => ?_⟩
  · rw [za_si_w]
    by_cases hc : i = zix t k d
    · rw [hc, zupd_s]
      exact ⟨fun _ => by decide, fun c => absurd ⟨by omega, by omega⟩ c⟩
    · rw [zupd_n hc]
      exact ⟨fun c => (hz.2.1 i hi).1 ⟨by omega, by omega⟩, fun c => (hz.2.1 i hi).2 (fun c2 => c ⟨by omega, by omega⟩)⟩
  · rw [za_si_w, zupd_n (by omega)]
    exact hz.2.2 a1 a2 a3 a4
theorem zt3_n {q : Nat} {t k fd td d x : Int32} {σ0 σ : za_S} (hz : zt3 q t k fd td (d + 1) σ0 σ) (e : x.toInt = d.toInt + 1) : zt3 q t k fd td x σ0 σ := by
  have hr := z_rng x
  have hr2 := z_rng d
  have ed : (d + 1).toInt = x.toInt := by rw [z_add (by rw [z_one]; omega) (by rw [z_one]; omega), z_one, e]
  unfold zt3 at hz ⊢
  rw [ed] at hz
  exact hz
theorem zt3_G {q : Nat} {t k fd td : Int32} {σ0 σ : za_S} (ht : 0 ≤ t.toInt ∧ t.toInt ≤ 1) (hk : 0 ≤ k.toInt ∧ k.toInt ≤ 9) (hp : (0 ≤ fd.toInt ∧ fd.toInt ≤ 99) ∧ fd.toInt < td.toInt ∧ td.toInt ≤ 100) (hI : zGI (σ0.1 q)) (hz : zt3 q t k fd td td σ0 σ) : zfx q σ0 σ ∧ zGB (σ.1 q) ∧ zGI (σ.1 q) := by
  have e2 := zix_lt ht hk hp.1
  refine ⟨hz.1, fun i hi => ?_, fun i hi hT => ?_⟩
  · by_cases c : zix t k fd ≤ i ∧ i < zix t k fd + (td.toInt - fd.toInt).toNat
    · rw [(hz.2.1 i hi).1 c]
      decide
    · exact ((hz.2.1 i hi).2 c).1
  · by_cases c : zix t k fd ≤ i ∧ i < zix t k fd + (td.toInt - fd.toInt).toNat
    · have h0 := (hz.2.1 i hi).1 c
      unfold zT at hT
      omega
    · have h1 := (hz.2.1 i hi).2 c
      rcases hI i hi (h1.2.1.mp hT) with q1 | ⟨q1, q2⟩
      · exact Or.inl (h1.2.2 q1)
      · by_cases c2 : zix t k fd ≤ i - 1 ∧ i - 1 < zix t k fd + (td.toInt - fd.toInt).toNat
        · have ei : i = zix t k fd + (td.toInt - fd.toInt).toNat := by omega
          subst ei
          exact Or.inl (hz.2.2 hi q1 q2 (h1.2.1.mp hT))
        · exact Or.inr ⟨q1, ((hz.2.1 (i - 1) (by omega)).2 c2).2.1.mpr q2⟩
/-! what follows a cut -/
def zpx (g : Nat → Int32) (n : Nat) : Prop := ∀ i, i < n → i < 2000 → zok1 (g i) ∧ (zT (g i) → zBg (g i) ∨ (¬ i % 100 = 0 ∧ zT (g (i - 1))))
def zbd (f g : Nat → Int32) (n : Nat) (w : Int32) : Prop := ¬ n % 100 = 0 → zT (f (n - 1)) → zT (g (n - 1)) ∨ (¬ w = 0 ∧ f 2000 = 1)
def zfo (q : Nat) (n : Nat) (w : Int32) (σ0 σ : za_S) : Prop := zfx q σ0 σ ∧ σ.1 q 2000 = σ0.1 q 2000 ∧ (∀ i, i < 2000 → n ≤ i → σ.1 q i = σ0.1 q i) ∧ zpx (σ.1 q) n ∧ zbd (σ0.1 q) (σ.1 q) n w
def zfp (q : Nat) (n : Nat) (w b : Int32) (σ0 σ : za_S) : Prop := zfx q σ0 σ ∧ σ.1 q 2000 = σ0.1 q 2000 ∧ (∀ i, i < 2000 → n < i → σ.1 q i = σ0.1 q i) ∧ zpx (σ.1 q) n ∧ zbd (σ0.1 q) (σ.1 q) n w ∧ zok1 (σ.1 q n) ∧ (zT (σ.1 q n) ↔ zT (σ0.1 q n)) ∧ (zBg (σ0.1 q n) → zBg (σ.1 q n)) ∧ (¬ b = w → zT (σ0.1 q n) → zBg (σ.1 q n))
theorem zfo_0 {q : Nat} {σ0 σ : za_S} (h : zt1 q σ0 σ) : zfo q 0 0 σ0 σ := ⟨h.1, by rw [h.2], fun i _ _ => by rw [h.2], fun i h1 _ => absurd h1 (Nat.not_lt_zero _), fun h1 => absurd rfl h1⟩
theorem zt1_v {q : Nat} {σ0 σ : za_S} {x : Int32} (hq : q ≠ 93) (h : zt1 q σ0 σ) : zt1 q σ0 (za_si σ 93 20 x) := ⟨zfx_93 (Or.inr rfl) h.1, by rw [(za_si_off q hq).1]; exact h.2⟩
theorem zfo_r {q n m : Nat} {w w' : Int32} {σ0 σ : za_S} (h : zfo q n w σ0 σ) (e : n = m) (h2 : m % 100 = 0) : zfo q m w' σ0 σ := by
  subst e
  exact ⟨h.1, h.2.1, h.2.2.1, h.2.2.2.1, fun h3 => absurd h2 h3⟩
theorem zfp_93 {q n : Nat} {w b x : Int32} {σ0 σ : za_S} (hq : q ≠ 93) (h : zfp q n w b σ0 σ) : zfp q n w b σ0 (za_si σ 93 20 x) := by
  have e : (za_si σ 93 20 x).1 q = σ.1 q := (za_si_off q hq).1
  unfold zfp
  rw [e]
  exact ⟨zfx_93 (Or.inr rfl) h.1, h.2⟩
theorem zfp_n {q n : Nat} {w b : Int32} {σ0 σ : za_S} (hB : zGB (σ0.1 q)) (hn : n < 2000) (h : zfo q n w σ0 σ) (c : b = w ∨ ¬ zT (σ.1 q n)) : zfp q n w b σ0 σ := by
  have e := h.2.2.1 n hn (Nat.le_refl n)
  refine ⟨h.1, h.2.1, fun i h1 h2 => h.2.2.1 i h1 (by omega), h.2.2.2.1, h.2.2.2.2, by rw [e]; exact hB n hn, by rw [e], fun z => by rw [e]; exact z, fun h1 h2 => ?_⟩
  rcases c with c | c
  · exact absurd c h1
  · rw [e] at c
    exact absurd h2 c
theorem zbd_u {f g : Nat → Int32} {n i : Nat} {w x : Int32} (h : zbd f g n w) (hi : n ≤ i) : zbd f (upd g i x) n w := by
  intro h1 h2
  rw [zupd_n (by omega)]
  exact h h1 h2
theorem zpx_u {g : Nat → Int32} {n i : Nat} {x : Int32} (h : zpx g n) (hi : n ≤ i) : zpx (upd g i x) n := by
  intro j h1 h2
  rw [zupd_n (show j ≠ i by omega), zupd_n (show j - 1 ≠ i by omega)]
  exact h j h1 h2
theorem zfp_s {q n : Nat} {w b k d : Int32} {σ0 σ σ' : za_S} (hq : q ≠ 93) (hB : zGB (σ0.1 q)) (en : zix 0 k d = n) (hn : n < 2000) (h : zfo q n w σ0 σ) (ht : zth (σ.1 q) 0 k d) (e : (zth (σ.1 q) 0 k d ∧ σ' = za_si σ q (zix 0 k d) (zly (zvl (σ.1 q (zix 0 k d))) (zrf (σ.1 q (zix 0 k d))) 1)) ∨ (¬ zth (σ.1 q) 0 k d ∧ σ' = σ)) : zfp q n w b σ0 σ' := by
  rcases e with ⟨-, e⟩ | ⟨c, -⟩
  · rw [e, en]
    have e1 := h.2.2.1 n hn (Nat.le_refl n)
    have hT : zT (σ.1 q n) := by rw [← en]; exact ht.2
    have hok := hB n hn
    rw [← e1] at hok
    have hl := zlay_ok (b := 1) hT hok.2 (Or.inr rfl)
    unfold zfp
    rw [za_si_w, zupd_s, zupd_n (by omega)]
    refine ⟨zfx_si hq h.1, h.2.1, fun i h1 h2 => ?_, zpx_u h.2.2.2.1 (Nat.le_refl n), zbd_u h.2.2.2.2 (Nat.le_refl n), ⟨by omega, hl.1.2⟩, ⟨fun _ => by rw [← e1]; exact hT, fun _ => hl.1.1⟩, fun _ => hl.2.mpr rfl, fun _ _ => hl.2.mpr rfl⟩
    rw [zupd_n (by omega)]
    exact h.2.2.1 i h1 (by omega)
  · exact absurd ht c
theorem zfo_e {q n : Nat} {w b : Int32} {σ0 σ : za_S} (hI : zGI (σ0.1 q)) (hn : n < 2000) (h : zfp q n w b σ0 σ) (hc : b = 0 ∨ ¬ σ0.1 q 2000 = 1) (hT : zT (σ.1 q n)) : zBg (σ.1 q n) ∨ (¬ n % 100 = 0 ∧ zT (σ.1 q (n - 1))) := by
  obtain ⟨-, -, -, -, hbd, -, h6, h7, h8⟩ := h
  have hf := h6.mp hT
  rcases hI n hn hf with q1 | ⟨q1, q2⟩
  · exact Or.inl (h7 q1)
  · rcases hbd q1 q2 with q3 | ⟨q3, q4⟩
    · exact Or.inr ⟨q1, q3⟩
    · rcases hc with hc | hc
      · exact Or.inl (h8 (fun z => q3 (by rw [← z]; exact hc)) hf)
      · exact absurd q4 hc
theorem zfo_1 {q n m : Nat} {w b : Int32} {σ0 σ : za_S} (hI : zGI (σ0.1 q)) (hn : n < 2000) (em : m = n + 1) (h : zfp q n w b σ0 σ) (hb : b = 0) : zfo q m b σ0 σ := by
  subst em
  have hk := zfo_e hI hn h (Or.inl hb)
  obtain ⟨h1, h2, h3, h4, h5, h6, h7, h8, h9⟩ := h
  refine ⟨h1, h2, fun i a1 a2 => h3 i a1 (by omega), fun i a1 a2 => ?_, fun _ a2 => Or.inl (h7.mpr a2)⟩
  by_cases c : i = n
  · subst c
    exact ⟨h6, hk⟩
  · exact h4 i (by omega) a2
theorem zfo_2 {q n m : Nat} {w b : Int32} {σ0 σ : za_S} (hq : q ≠ 93) (hn : n < 2000) (em : m = n + 1) (h : zfp q n w b σ0 σ) (hb : ¬ b = 0) (hw : σ.1 q 2000 = 1) : zfo q m b σ0 (za_si σ q n 0) := by
  subst em
  obtain ⟨h1, h2, h3, h4, h5, h6, h7, h8, h9⟩ := h
  unfold zfo
  rw [za_si_w, zupd_n (by omega)]
  refine ⟨zfx_si hq h1, h2, fun i a1 a2 => ?_, fun i a1 a2 => ?_, fun _ _ => Or.inr ⟨hb, by rw [← h2]; exact hw⟩⟩
  · rw [zupd_n (by omega)]
    exact h3 i a1 (by omega)
  · by_cases c : i = n
    · subst c
      rw [zupd_s]
      exact ⟨show zok1 0 from ⟨by decide, by decide⟩, fun z => absurd z (show ¬ 0 < (0 : Int32).toInt by decide)⟩
    · exact zpx_u h4 (Nat.le_refl n) i (by omega) a2
theorem zfo_3 {q n m : Nat} {w b a r k d : Int32} {σ0 σ σ' : za_S} (hq : q ≠ 93) (hI : zGI (σ0.1 q)) (en : zix 0 k d = n) (hn : n < 2000) (em : m = n + 1) (h : zfp q n w b σ0 σ) (hT : zT (σ.1 q n)) (hw : ¬ σ.1 q 2000 = 1) (ea : a = zvl (σ.1 q (zix 0 k d))) (er : (r = 0 ∨ r = 1) ∧ (¬ r = 0 ↔ zbg (σ.1 q) 0 k d)) (hd : 0 ≤ d.toInt ∧ d.toInt ≤ 99) (e : σ' = za_si σ q (zix 0 k d) (zly a 10 (if r = 0 then 0 else 1))) : zfo q m b σ0 σ' := by
  subst em
  have hk := zfo_e hI hn h (Or.inr (by rw [← h.2.1]; exact hw)) hT
  obtain ⟨h1, h2, h3, h4, h5, h6, h7, h8, h9⟩ := h
  have hr : (if r = 0 then (0 : Int32) else 1) = r := by rcases er.1 with z | z <;> rw [z] <;> rfl
  rw [e, en, hr, ea, en]
  have hl := z_lyB (f := 10) (z_vl hT h6.2) (by decide) er.1
  have hb2 : zBg (σ.1 q n) ↔ r = 1 := by
    constructor
    · intro z
      rcases er.1 with y | y
      · exact absurd y (er.2.mpr ⟨hd, by rw [en]; exact z⟩)
      · exact y
    · intro z
      have := er.2.mp (by rw [z]; decide)
      rw [← en]
      exact this.2
  unfold zfo
  rw [za_si_w, zupd_n (by omega)]
  refine ⟨zfx_si hq h1, h2, fun i a1 a2 => ?_, fun i a1 a2 => ?_, fun _ _ => Or.inl ?_⟩
  · rw [zupd_n (by omega)]
    exact h3 i a1 (by omega)
  · by_cases c : i = n
    · subst c
      rw [zupd_s]
      refine ⟨⟨by omega, hl.1.2⟩, fun _ => ?_⟩
      rcases hk with z | ⟨z1, z2⟩
      · exact Or.inl (hl.2.mpr (hb2.mp z))
      · exact Or.inr ⟨z1, by rw [zupd_n (by omega)]; exact z2⟩
    · exact zpx_u h4 (Nat.le_refl n) i (by omega) a2
  · rw [Nat.add_sub_cancel, zupd_s]
    exact hl.1.1
theorem zfo_G {q : Nat} {w : Int32} {σ0 σ : za_S} (hB : zGB (σ0.1 q)) (hI : zGI (σ0.1 q)) (h : zfo q 1000 w σ0 σ) : zfx q σ0 σ ∧ zGB (σ.1 q) ∧ zGI (σ.1 q) := by
  obtain ⟨h1, h2, h3, h4, h5⟩ := h
  refine ⟨h1, fun i hi => ?_, fun i hi hT => ?_⟩
  · by_cases c : i < 1000
    · exact (h4 i c hi).1
    · rw [h3 i hi (by omega)]
      exact hB i hi
  · by_cases c : i < 1000
    · exact (h4 i c hi).2 hT
    · rw [h3 i hi (by omega)] at hT ⊢
      rcases hI i hi hT with q1 | ⟨q1, q2⟩
      · exact Or.inl q1
      · exact Or.inr ⟨q1, by rw [h3 (i - 1) (by omega) (by omega)]; exact q2⟩
theorem zix_0 {k d : Int32} (hk : 0 ≤ k.toInt ∧ k.toInt < 10) (hd : 0 ≤ d.toInt ∧ d.toInt < 100) : zix 0 k d = 100 * k.toInt.toNat + d.toInt.toNat := by
  have h0 : (0 : Int32).toInt = 0 := by decide
  unfold zix
  rw [h0]
  omega
/-! cut, shifted -/
def zc1 (σ0 σ : za_S) : Prop := zfx 101 σ0 σ ∧ zGB (σ.1 101) ∧ zGI (σ.1 101)
theorem zc1_0 {q : Nat} {σ0 σ σ' : za_S} (hq : q ≠ 101 ∧ q ≠ 93) (hG : zG (σ0.1 q)) (h : zfx 101 σ0 σ) (e : σ' = zcp σ q 101 2001) : zc1 σ0 σ' := by
  have hu := ztu_0 hq hG.1 h e
  exact ⟨hu.1, ztr_GI hu.2 hG.2.1⟩
theorem zc1_t {σ0 σ σ' : za_S} (h : zc1 σ0 σ) (k : zfx 101 σ σ' ∧ zGB (σ'.1 101) ∧ zGI (σ'.1 101)) : zc1 σ0 σ' := ⟨zfx_t h.1 k.1, k.2⟩
theorem zc1_w {σ0 σ : za_S} {x : Int32} (h : zc1 σ0 σ) : zc1 σ0 (za_si σ 93 20 x) := ⟨zfx_93 (Or.inr rfl) h.1, by rw [(za_si_off 101 (by decide)).1]; exact h.2⟩
def zsv (f : Nat → Int32) (b : Nat) (j s : Int) : Int32 := if 0 ≤ j - s ∧ j - s ≤ 99 then f (b + (j - s).toNat) else 0
def zsf (q : Nat) (b : Nat) (s : Int) (n : Nat) (σ0 σ : za_S) : Prop := zfx 101 σ0 σ ∧ ∀ i, i < 2000 → (b ≤ i ∧ i < b + n → σ.1 101 i = zsv (σ0.1 q) b ((i : Int) - b) s) ∧ (¬ (b ≤ i ∧ i < b + n) → σ.1 101 i = σ0.1 q i)
theorem zsf_0 {q b : Nat} {s : Int} {σ0 σ σ' : za_S} (hq : q ≠ 101 ∧ q ≠ 93) (h : zfx 101 σ0 σ) (e : σ' = zcp σ q 101 2001) : zsf q b s 0 σ0 σ' := by
  refine ⟨zfx_cp h e, fun i hi => ⟨fun c => by omega, fun _ => ?_⟩⟩
  rw [e, zcp_w (by omega), h.1 q hq.1 hq.2]
theorem zsf_s {q b n : Nat} {s : Int} {σ0 σ : za_S} {x : Int32} (h : zsf q b s n σ0 σ) (hb : b + n < 2000) (ex : x = zsv (σ0.1 q) b n s) : zsf q b s (n + 1) σ0 (za_si σ 101 (b + n) x) := by
  refine ⟨zfx_si (by decide) h.1, fun i hi => ?_⟩
  rw [za_si_w]
  by_cases c : i = b + n
  · rw [c, zupd_s]
    refine ⟨fun _ => ?_, fun c2 => absurd ⟨by omega, by omega⟩ c2⟩
    rw [ex]
    congr 1
    omega
  · rw [zupd_n c]
    exact ⟨fun c2 => (h.2 i hi).1 ⟨by omega, by omega⟩, fun c2 => (h.2 i hi).2 (fun c3 => c2 ⟨by omega, by omega⟩)⟩
def zcan (f : Nat → Int32) (b : Nat) (s : Int) (n : Nat) : Prop := ∀ j : Nat, j < n → zT (f (b + j)) → 0 ≤ (j : Int) + s ∧ (j : Int) + s ≤ 99
theorem zcan_s {f : Nat → Int32} {b n : Nat} {s : Int} (h : zcan f b s n) (k : zT (f (b + n)) → 0 ≤ (n : Int) + s ∧ (n : Int) + s ≤ 99) : zcan f b s (n + 1) := by
  intro j hj hT
  by_cases c : j = n
  · subst c
    exact k hT
  · exact h j (by omega) hT
theorem zsf_G {q b : Nat} {s : Int} {σ0 σ : za_S} (hG : zG (σ0.1 q)) (hb : b % 100 = 0) (hb2 : b < 2000) (h : zsf q b s 100 σ0 σ) (hc : zcan (σ0.1 q) b s 100) : zc1 σ0 σ := by
  refine ⟨h.1, fun i hi => ?_, fun i hi hT => ?_⟩
  · by_cases c : b ≤ i ∧ i < b + 100
    · rw [(h.2 i hi).1 c]
      unfold zsv
      split
      · exact hG.1 _ (by omega)
      · decide
    · rw [(h.2 i hi).2 c]
      exact hG.1 i hi
  · by_cases c : b ≤ i ∧ i < b + 100
    · rw [(h.2 i hi).1 c] at hT ⊢
      unfold zsv at hT ⊢
      by_cases d : 0 ≤ (i : Int) - b - s ∧ (i : Int) - b - s ≤ 99
      · rw [if_pos d] at hT ⊢
        rcases hG.2.1 _ (by omega) hT with q1 | ⟨q1, q2⟩
        · exact Or.inl q1
        · by_cases e : i = b
          · exfalso
            have h1 := hc (((i : Int) - b - s).toNat - 1) (by omega) (by rw [show b + (((i : Int) - b - s).toNat - 1) = b + ((i : Int) - b - s).toNat - 1 by omega]; exact q2)
            omega
          · refine Or.inr ⟨by omega, ?_⟩
            rw [(h.2 (i - 1) (by omega)).1 ⟨by omega, by omega⟩]
            unfold zsv
            rw [if_pos (by omega), show b + ((((i - 1 : Nat) : Int)) - b - s).toNat = b + ((i : Int) - b - s).toNat - 1 by omega]
            exact q2
      · rw [if_neg d] at hT
        exact absurd hT (show ¬ 0 < (0 : Int32).toInt by decide)
    · rw [(h.2 i hi).2 c] at hT ⊢
      rcases hG.2.1 i hi hT with q1 | ⟨q1, q2⟩
      · exact Or.inl q1
      · refine Or.inr ⟨q1, ?_⟩
        rw [(h.2 (i - 1) (by omega)).2 (by omega)]
        exact q2
theorem z_s99 {a : Int32} (h : (-99 : Int64).toInt ≤ a.toInt64.toInt ∧ a.toInt64.toInt ≤ (99 : Int64).toInt) : -99 ≤ a.toInt ∧ a.toInt ≤ 99 := by
  have hL := z_lL
  rw [z_w] at h
  omega
theorem zix_b {t k d : Int32} (ht : 0 ≤ t.toInt ∧ t.toInt ≤ 1) (hk : 0 ≤ k.toInt ∧ k.toInt ≤ 9) (hd : 0 ≤ d.toInt ∧ d.toInt ≤ 99) : zix t k d = zix t k 0 + d.toInt.toNat ∧ zix t k 0 % 100 = 0 ∧ zix t k 0 + 100 ≤ 2000 := by
  have h1 := zix_lt ht hk hd
  have h0 : (0 : Int32).toInt = 0 := by decide
  have h2 := zix_lt ht hk (d := 0) (by rw [h0]; omega)
  omega
theorem z_svT {q : Nat} {σ0 σ : za_S} {t k d s r : Int32} (ht : 0 ≤ t.toInt ∧ t.toInt ≤ 1) (hk : 0 ≤ k.toInt ∧ k.toInt ≤ 9) (hd : 0 ≤ d.toInt ∧ d.toInt < 100) (hs : -99 ≤ s.toInt ∧ s.toInt ≤ 99) (e : σ.1 q = σ0.1 q) (h : 0 ≤ (d - s).toInt ∧ (d - s).toInt ≤ 99) (er : r = 1000 * t + 100 * k + (d - s)) : σ.1 q r.toNatClampNeg = zsv (σ0.1 q) (zix t k 0) (d.toInt.toNat : Nat) s.toInt := by
  have e1 : (d - s).toInt = d.toInt - s.toInt := z_sub (by omega) (by omega)
  have h2 := zix_b ht hk h
  have e2 : zix t k 0 + (d - s).toInt.toNat = zix t k 0 + (((d.toInt.toNat : Nat) : Int) - s.toInt).toNat := by omega
  rw [(z_onI ht hk h er).2, h2.1, e, e2]
  unfold zsv
  rw [if_pos (by omega)]
theorem z_svF {q : Nat} {σ0 : za_S} {b : Nat} {d s : Int32} (hd : 0 ≤ d.toInt ∧ d.toInt < 100) (hs : -99 ≤ s.toInt ∧ s.toInt ≤ 99) (h : (0 ≤ (d - s).toInt ∧ (d - s).toInt ≤ 99) → False) : (0 : Int32) = zsv (σ0.1 q) b (d.toInt.toNat : Nat) s.toInt := by
  have e1 : (d - s).toInt = d.toInt - s.toInt := z_sub (by omega) (by omega)
  unfold zsv
  rw [if_neg (fun c => h ⟨by omega, by omega⟩)]
theorem zfx_way {q : Nat} {σ0 : za_S} {x : Int32} (hq : q ≠ 93) (hG : zG (σ0.1 q)) : zfx q σ0 (za_si σ0 q 2000 x) ∧ zG ((za_si σ0 q 2000 x).1 q) := ⟨zfx_si hq (zfx_r q σ0), zG_cong (fun i hi => by rw [za_si_ne _ _ (Or.inr (by omega))]) hG⟩
theorem z_day2 {s d : Int32} (hs : -99 ≤ s.toInt ∧ s.toInt ≤ 99) (hd : 0 ≤ d.toInt ∧ d.toInt < 100) (h : 0 ≤ (d + s).toInt ∧ (d + s).toInt ≤ 99) : 0 ≤ d.toInt + s.toInt ∧ d.toInt + s.toInt ≤ 99 := by
  rw [z_add (by omega) (by omega)] at h
  exact h
theorem z_thb {f : Nat → Int32} {t k d : Int32} (ht : 0 ≤ t.toInt ∧ t.toInt ≤ 1) (hk : 0 ≤ k.toInt ∧ k.toInt ≤ 9) (hd : 0 ≤ d.toInt ∧ d.toInt < 100) (z : zT (f (zix t k 0 + d.toInt.toNat))) : zth f t k d := ⟨by omega, by rw [(zix_b ht hk (by omega)).1]; exact z⟩
set_option maxHeartbeats 4000000 in
set_option maxRecDepth 100000 in
theorem zc_X10_joinsAll (l : Launch) (E : za_E) (q : Nat) (t : Int32) (σ0 : za_S) (ht : 0 ≤ t.toInt ∧ t.toInt ≤ 1) (hB : zGB (σ0.1 q)) : zMi l E yX10_joinsAll cX10_joinsAll 6 (Option.some Jvm.ClassFile.FieldType.int) 5 112 [za_O 22 q, za_I t] σ0 (fun r σ' => zjr q σ0 σ') := by
  refine zMi_of [(0, za_O 22 q), (1, za_I t)] (by decide) rfl rfl (Nat.le_of_ble_eq_true rfl) ?_
  intro ho p e s m args below meth c G hr
  have h_q : za_kd q = 22 := za_okO (by decide) (List.forall_mem_cons.mp ho).1
  have hq9 := zkq h_q
  refine zv_gen (R9 := zjr q σ0) (zjr_0 hB) (fun σ hz => ?_)
  refine zv_iconst (v := 0) G dX10_joinsAll_0 (by decide) ?_
  refine zv_istore_n (lv' := [(2, za_I 0), (0, za_O 22 q), (1, za_I t)]) G dX10_joinsAll_1 rfl (by decide) rfl ?_
  refine zv_iconst (v := 0) G dX10_joinsAll_2 (by decide) ?_
  have J_4 : ∀ (n : Nat) (y2_4 : Int32) (y3_4 : Int32) (σ : za_S) (hz : zjr q σ0 σ) (i3_4 : 0 ≤ y3_4.toInt) (u3_4 : y3_4.toInt ≤ 10) (hn_4 : (2147483648 - y3_4.toInt).toNat < n), zV p l e (zRm 5 112) s m args below meth c E (za_A E) 6 0 0 (MQ below (va_Qi (fun r σ' => zjr q σ0 σ') (zB E) (za_A E)) args s 0 0 (za_A E)) 4 [(0, za_O 22 q), (1, za_I t), (2, za_I y2_4), (3, za_I y3_4)] [] σ := by
    intro n
    induction n with
    | zero => intro y2_4 y3_4 σ hz i3_4 u3_4 hn; exact absurd hn (Nat.not_lt_zero _)
    | succ n ih_4 =>
      intro y2_4 y3_4 σ hz i3_4 u3_4 hn_4
      refine zv_iload_n (j := 3) G dX10_joinsAll_4 rfl rfl ?_
      refine zv_bipush (v := 10) G dX10_joinsAll_5 (by decide) ?_
      refine zv_icmp_ge (tgt := 138) G dX10_joinsAll_7 (by decide) (fun c_7 => ?_) (fun c_7 => ?_)
      · have k_7 := z_cle c_7 (a := 10) (b := y3_4.toInt) rfl rfl
        refine zv_iload_n (j := 2) G dX10_joinsAll_138 rfl rfl ?_
        exact zv_iret G hr dX10_joinsAll_139 hz
      · have b_7 : 0 ≤ y3_4.toInt ∧ y3_4.toInt < 10 := ⟨i3_4, z_ltk c_7 rfl⟩
        have k_7 := z_cnle c_7 (a := 10) (b := y3_4.toInt) rfl rfl
        refine zv_iconst (v := 1) G dX10_joinsAll_10 (by decide) ?_
        have J_13 : ∀ (n : Nat) (y2_13 : Int32) (y4_13 : Int32) (σ : za_S) (hz : zjr q σ0 σ) (i4_13 : 0 ≤ y4_13.toInt) (u4_13 : y4_13.toInt ≤ 100) (hn_13 : (2147483648 - y4_13.toInt).toNat < n), zV p l e (zRm 5 112) s m args below meth c E (za_A E) 6 0 0 (MQ below (va_Qi (fun r σ' => zjr q σ0 σ') (zB E) (za_A E)) args s 0 0 (za_A E)) 13 [(0, za_O 22 q), (1, za_I t), (2, za_I y2_13), (3, za_I y3_4), (4, za_I y4_13)] [] σ := by
          intro n
          induction n with
          | zero => intro y2_13 y4_13 σ hz i4_13 u4_13 hn; exact absurd hn (Nat.not_lt_zero _)
          | succ n ih_13 =>
            intro y2_13 y4_13 σ hz i4_13 u4_13 hn_13
            refine zv_iload (j := 4) G dX10_joinsAll_13 rfl ?_
            refine zv_bipush (v := 100) G dX10_joinsAll_15 (by decide) ?_
            refine zv_icmp_ge (tgt := 132) G dX10_joinsAll_17 (by decide) (fun c_17 => ?_) (fun c_17 => ?_)
            · have k_17 := z_cle c_17 (a := 100) (b := y4_13.toInt) rfl rfl
              obtain ⟨x_132, e_132⟩ : ∃ y : Int32, y = y3_4 + 1 := ⟨_, rfl⟩
              refine zv_iinc (j := 3) (v := x_132) (lv' := [(3, za_I x_132), (0, za_O 22 q), (1, za_I t), (2, za_I y2_13), (4, za_I y4_13)]) G dX10_joinsAll_132 rfl (by rw [e_132]; rfl) (by decide) rfl ?_
              first | have q_132 := z_inc9 (by omega) e_132 | skip
              refine zv_goto (tgt := 4) G dX10_joinsAll_135 (by decide) ?_
              refine zv_sub [1, 2, 3, 0] (lv' := [(0, za_O 22 q), (1, za_I t), (2, za_I y2_13), (3, za_I x_132)]) rfl ?_
              exact ih_4 y2_13 x_132 σ hz (by have := z_inc c_7 e_132; omega) (by have := z_inc9 (by omega) e_132; omega) (z_meas c_7 e_132 hn_4)
            · have b_17 : 0 ≤ y4_13.toInt ∧ y4_13.toInt < 100 := ⟨i4_13, z_ltk c_17 rfl⟩
              have k_17 := z_cnle c_17 (a := 100) (b := y4_13.toInt) rfl rfl
              refine zv_aload_n (j := 0) G dX10_joinsAll_20 rfl rfl ?_
              refine zv_iload_n (j := 1) G dX10_joinsAll_21 rfl rfl ?_
              refine zv_iload_n (j := 3) G dX10_joinsAll_22 rfl rfl ?_
              refine zv_iload (j := 4) G dX10_joinsAll_23 rfl ?_
              refine zv_callSi (as := [za_O 22 q, za_I t, za_I y3_4, za_I y4_13]) G (zc_X10_begins l E q t y3_4 y4_13 σ (by first | assumption | decide | omega) (by first | assumption | decide | omega)) zk_X10_begins zm_1317 rfl ⟨(Nat.le_of_ble_eq_true rfl), (Nat.le_of_ble_eq_true rfl)⟩ ⟨Nat.zero_le _, Nat.zero_le _⟩ (Nat.le_of_ble_eq_true rfl) dX10_joinsAll_25 (fun r_25 σ h_25 => ?_)
              obtain ⟨h_25, rfl⟩ := h_25
              have J_91 : ∀ (s0_91 : Int32) (σ : za_S) (hz : zjr q σ0 σ) (w_91 : s0_91 = 0 ∨ (zbg (σ.1 q) t y3_4 y4_13 ∧ zth (σ.1 q) t y3_4 (y4_13 - 1))), zV p l e (zRm 5 112) s m args below meth c E (za_A E) 6 0 0 (MQ below (va_Qi (fun r σ' => zjr q σ0 σ') (zB E) (za_A E)) args s 0 0 (za_A E)) 91 [(0, za_O 22 q), (1, za_I t), (2, za_I y2_13), (3, za_I y3_4), (4, za_I y4_13)] [za_I s0_91] σ := by
                intro s0_91 σ hz w_91
                refine zv_istore (lv' := [(5, za_I s0_91), (0, za_O 22 q), (1, za_I t), (2, za_I y2_13), (3, za_I y3_4), (4, za_I y4_13)]) G dX10_joinsAll_91 (by decide) rfl ?_
                refine zv_iload (j := 0) G dX10_joinsAll_93 rfl ?_
                refine zv_if_eq (tgt := 126) G dX10_joinsAll_95 (by decide) (fun c_95 => ?_) (fun c_95 => ?_)
                · have k_95 := z_ceq c_95 (a := s0_91.toInt) (b := 0) rfl rfl
                  obtain ⟨x_126, e_126⟩ : ∃ y : Int32, y = y4_13 + 1 := ⟨_, rfl⟩
                  refine zv_iinc (j := 5) (v := x_126) (lv' := [(4, za_I x_126), (5, za_I s0_91), (0, za_O 22 q), (1, za_I t), (2, za_I y2_13), (3, za_I y3_4)]) G dX10_joinsAll_126 rfl (by rw [e_126]; rfl) (by decide) rfl ?_
                  first | have q_126 := z_inc9 (by omega) e_126 | skip
                  refine zv_goto (tgt := 13) G dX10_joinsAll_129 (by decide) ?_
                  refine zv_sub [2, 3, 4, 5, 0] (lv' := [(0, za_O 22 q), (1, za_I t), (2, za_I y2_13), (3, za_I y3_4), (4, za_I x_126)]) rfl ?_
                  exact ih_13 y2_13 x_126 σ hz (by have := z_inc c_17 e_126; omega) (by have := z_inc9 (by omega) e_126; omega) (z_meas c_17 e_126 hn_13)
                · have k_95 := z_cne c_95 (a := s0_91.toInt) (b := 0) rfl rfl
                  have v_95 := w_91.resolve_left c_95
                  refine zv_aload_n (j := 1) G dX10_joinsAll_98 rfl rfl ?_
                  refine zv_iload_n (j := 2) G dX10_joinsAll_99 rfl rfl ?_
                  refine zv_iload_n (j := 4) G dX10_joinsAll_100 rfl rfl ?_
                  refine zv_iload (j := 5) G dX10_joinsAll_101 rfl ?_
                  refine zv_aload_n (j := 1) G dX10_joinsAll_103 rfl rfl ?_
                  refine zv_iload_n (j := 2) G dX10_joinsAll_104 rfl rfl ?_
                  refine zv_iload_n (j := 4) G dX10_joinsAll_105 rfl rfl ?_
                  refine zv_iload (j := 5) G dX10_joinsAll_106 rfl ?_
                  refine zv_callSi (as := [za_O 22 q, za_I t, za_I y3_4, za_I y4_13]) G (zc_X10_valueOn l E q t y3_4 y4_13 σ (by first | assumption | decide | omega) (by first | assumption | decide | omega) (by first | assumption | decide | omega)) zk_X10_valueOn zm_1334 rfl ⟨(Nat.le_of_ble_eq_true rfl), (Nat.le_of_ble_eq_true rfl)⟩ ⟨Nat.zero_le _, Nat.zero_le _⟩ (Nat.le_of_ble_eq_true rfl) dX10_joinsAll_108 (fun r_108 σ h_108 => ?_)
                  obtain ⟨h_108, rfl⟩ := h_108
                  refine zv_aload_n (j := 1) G dX10_joinsAll_111 rfl rfl ?_
                  refine zv_iload_n (j := 2) G dX10_joinsAll_112 rfl rfl ?_
                  refine zv_iload_n (j := 4) G dX10_joinsAll_113 rfl rfl ?_
                  refine zv_iload (j := 5) G dX10_joinsAll_114 rfl ?_
                  refine zv_callSi (as := [za_O 22 q, za_I t, za_I y3_4, za_I y4_13]) G (zc_X10_refOn l E q t y3_4 y4_13 σ (by first | assumption | decide | omega) (by first | assumption | decide | omega) (by first | assumption | decide | omega)) zk_X10_refOn zm_1340 rfl ⟨(Nat.le_of_ble_eq_true rfl), (Nat.le_of_ble_eq_true rfl)⟩ ⟨Nat.zero_le _, Nat.zero_le _⟩ (Nat.le_of_ble_eq_true rfl) dX10_joinsAll_116 (fun r_116 σ h_116 => ?_)
                  obtain ⟨h_116, rfl⟩ := h_116
                  refine zv_iconst (v := 0) G dX10_joinsAll_119 (by decide) ?_
                  refine zv_callSv (as := [za_O 22 q, za_I t, za_I y3_4, za_I y4_13, za_I r_108, za_I r_116, za_I 0]) G (zc_X10_lays l E q t y3_4 y4_13 r_108 r_116 (0 : Int32) σ (by first | assumption | decide | omega) (by first | assumption | decide | omega) (by first | assumption | decide | omega)) zk_X10_lays zm_1356 rfl ⟨(Nat.le_of_ble_eq_true rfl), (Nat.le_of_ble_eq_true rfl)⟩ ⟨Nat.zero_le _, Nat.zero_le _⟩ (Nat.le_of_ble_eq_true rfl) dX10_joinsAll_120 (fun σ h_120 => ?_)
                  have hz : zjr q σ0 σ := zj_step (by omega) ht (by omega) b_17 hz v_95 h_108 h_116 h_120
                  obtain ⟨x_123, e_123⟩ : ∃ y : Int32, y = y2_13 + 1 := ⟨_, rfl⟩
                  refine zv_iinc (j := 3) (v := x_123) (lv' := [(2, za_I x_123), (5, za_I s0_91), (0, za_O 22 q), (1, za_I t), (3, za_I y3_4), (4, za_I y4_13)]) G dX10_joinsAll_123 rfl (by rw [e_123]; rfl) (by decide) rfl ?_
                  first | have q_123 := z_inc9 (by omega) e_123 | skip
                  obtain ⟨x_126, e_126⟩ : ∃ y : Int32, y = y4_13 + 1 := ⟨_, rfl⟩
                  refine zv_iinc (j := 5) (v := x_126) (lv' := [(4, za_I x_126), (2, za_I x_123), (5, za_I s0_91), (0, za_O 22 q), (1, za_I t), (3, za_I y3_4)]) G dX10_joinsAll_126 rfl (by rw [e_126]; rfl) (by decide) rfl ?_
                  first | have q_126 := z_inc9 (by omega) e_126 | skip
                  refine zv_goto (tgt := 13) G dX10_joinsAll_129 (by decide) ?_
                  refine zv_sub [3, 4, 1, 5, 0] (lv' := [(0, za_O 22 q), (1, za_I t), (2, za_I x_123), (3, za_I y3_4), (4, za_I x_126)]) rfl ?_
                  exact ih_13 x_123 x_126 σ hz (by have := z_inc c_17 e_126; omega) (by have := z_inc9 (by omega) e_126; omega) (z_meas c_17 e_126 hn_13)
              have J_90 : ∀  (σ : za_S) (hz : zjr q σ0 σ), zV p l e (zRm 5 112) s m args below meth c E (za_A E) 6 0 0 (MQ below (va_Qi (fun r σ' => zjr q σ0 σ') (zB E) (za_A E)) args s 0 0 (za_A E)) 90 [(0, za_O 22 q), (1, za_I t), (2, za_I y2_13), (3, za_I y3_4), (4, za_I y4_13)] [] σ := by
                intro σ hz
                refine zv_iconst (v := 0) G dX10_joinsAll_90 (by decide) ?_
                refine zv_sub [0, 1, 2, 3, 4] (lv' := [(0, za_O 22 q), (1, za_I t), (2, za_I y2_13), (3, za_I y3_4), (4, za_I y4_13)]) rfl ?_
                exact J_91 (0 : Int32) σ hz (by first | exact Or.inl rfl | exact Or.inr ⟨t_25, t_38⟩)
              refine zv_if_eq (tgt := 90) G dX10_joinsAll_28 (by decide) (fun c_28 => ?_) (fun c_28 => ?_)
              · have f_25 := fun q9 => (h_25.2.mpr q9) c_28
                refine zv_sub [0, 1, 2, 3, 4] (lv' := [(0, za_O 22 q), (1, za_I t), (2, za_I y2_13), (3, za_I y3_4), (4, za_I y4_13)]) rfl ?_
                exact J_90 σ hz
              · have t_25 := h_25.2.mp c_28
                refine zv_aload_n (j := 0) G dX10_joinsAll_31 rfl rfl ?_
                refine zv_iload_n (j := 1) G dX10_joinsAll_32 rfl rfl ?_
                refine zv_iload_n (j := 3) G dX10_joinsAll_33 rfl rfl ?_
                refine zv_iload (j := 4) G dX10_joinsAll_34 rfl ?_
                refine zv_iconst (v := 1) G dX10_joinsAll_36 (by decide) ?_
                refine zv_isub G dX10_joinsAll_37 ?_
                refine zv_callSi (as := [za_O 22 q, za_I t, za_I y3_4, za_I (y4_13 - 1)]) G (zc_X10_isThere l E q t y3_4 (y4_13 - 1) σ (by first | assumption | decide | omega) (by first | assumption | decide | omega)) zk_X10_isThere zm_1320 rfl ⟨(Nat.le_of_ble_eq_true rfl), (Nat.le_of_ble_eq_true rfl)⟩ ⟨Nat.zero_le _, Nat.zero_le _⟩ (Nat.le_of_ble_eq_true rfl) dX10_joinsAll_38 (fun r_38 σ h_38 => ?_)
                obtain ⟨h_38, rfl⟩ := h_38
                refine zv_if_eq (tgt := 90) G dX10_joinsAll_41 (by decide) (fun c_41 => ?_) (fun c_41 => ?_)
                · have f_38 := fun q9 => (h_38.2.mpr q9) c_41
                  refine zv_sub [0, 1, 2, 3, 4] (lv' := [(0, za_O 22 q), (1, za_I t), (2, za_I y2_13), (3, za_I y3_4), (4, za_I y4_13)]) rfl ?_
                  exact J_90 σ hz
                · have t_38 := h_38.2.mp c_41
                  refine zv_aload_n (j := 0) G dX10_joinsAll_44 rfl rfl ?_
                  refine zv_iload_n (j := 1) G dX10_joinsAll_45 rfl rfl ?_
                  refine zv_iload_n (j := 3) G dX10_joinsAll_46 rfl rfl ?_
                  refine zv_iload (j := 4) G dX10_joinsAll_47 rfl ?_
                  refine zv_callSi (as := [za_O 22 q, za_I t, za_I y3_4, za_I y4_13]) G (zc_X10_valueOn l E q t y3_4 y4_13 σ (by first | assumption | decide | omega) (by first | assumption | decide | omega) (by first | assumption | decide | omega)) zk_X10_valueOn zm_1334 rfl ⟨(Nat.le_of_ble_eq_true rfl), (Nat.le_of_ble_eq_true rfl)⟩ ⟨Nat.zero_le _, Nat.zero_le _⟩ (Nat.le_of_ble_eq_true rfl) dX10_joinsAll_49 (fun r_49 σ h_49 => ?_)
                  obtain ⟨h_49, rfl⟩ := h_49
                  refine zv_aload_n (j := 0) G dX10_joinsAll_52 rfl rfl ?_
                  refine zv_iload_n (j := 1) G dX10_joinsAll_53 rfl rfl ?_
                  refine zv_iload_n (j := 3) G dX10_joinsAll_54 rfl rfl ?_
                  refine zv_iload (j := 4) G dX10_joinsAll_55 rfl ?_
                  refine zv_iconst (v := 1) G dX10_joinsAll_57 (by decide) ?_
                  refine zv_isub G dX10_joinsAll_58 ?_
                  refine zv_callSi (as := [za_O 22 q, za_I t, za_I y3_4, za_I (y4_13 - 1)]) G (zc_X10_valueOn l E q t y3_4 (y4_13 - 1) σ ht (by omega) t_38.1) zk_X10_valueOn zm_1334 rfl ⟨(Nat.le_of_ble_eq_true rfl), (Nat.le_of_ble_eq_true rfl)⟩ ⟨Nat.zero_le _, Nat.zero_le _⟩ (Nat.le_of_ble_eq_true rfl) dX10_joinsAll_59 (fun r_59 σ h_59 => ?_)
                  obtain ⟨h_59, rfl⟩ := h_59
                  refine zv_icmp_ne (tgt := 90) G dX10_joinsAll_62 (by decide) (fun c_62 => ?_) (fun c_62 => ?_)
                  · have k_62 := z_cne c_62 (a := r_49.toInt) (b := r_59.toInt) rfl rfl
                    refine zv_sub [0, 1, 2, 3, 4] (lv' := [(0, za_O 22 q), (1, za_I t), (2, za_I y2_13), (3, za_I y3_4), (4, za_I y4_13)]) rfl ?_
                    exact J_90 σ hz
                  · have k_62 := z_ceq c_62 (a := r_49.toInt) (b := r_59.toInt) rfl rfl
                    refine zv_aload_n (j := 0) G dX10_joinsAll_65 rfl rfl ?_
                    refine zv_iload_n (j := 1) G dX10_joinsAll_66 rfl rfl ?_
                    refine zv_iload_n (j := 3) G dX10_joinsAll_67 rfl rfl ?_
                    refine zv_iload (j := 4) G dX10_joinsAll_68 rfl ?_
                    refine zv_callSi (as := [za_O 22 q, za_I t, za_I y3_4, za_I y4_13]) G (zc_X10_refOn l E q t y3_4 y4_13 σ (by first | assumption | decide | omega) (by first | assumption | decide | omega) (by first | assumption | decide | omega)) zk_X10_refOn zm_1340 rfl ⟨(Nat.le_of_ble_eq_true rfl), (Nat.le_of_ble_eq_true rfl)⟩ ⟨Nat.zero_le _, Nat.zero_le _⟩ (Nat.le_of_ble_eq_true rfl) dX10_joinsAll_70 (fun r_70 σ h_70 => ?_)
                    obtain ⟨h_70, rfl⟩ := h_70
                    refine zv_aload_n (j := 0) G dX10_joinsAll_73 rfl rfl ?_
                    refine zv_iload_n (j := 1) G dX10_joinsAll_74 rfl rfl ?_
                    refine zv_iload_n (j := 3) G dX10_joinsAll_75 rfl rfl ?_
                    refine zv_iload (j := 4) G dX10_joinsAll_76 rfl ?_
                    refine zv_iconst (v := 1) G dX10_joinsAll_78 (by decide) ?_
                    refine zv_isub G dX10_joinsAll_79 ?_
                    refine zv_callSi (as := [za_O 22 q, za_I t, za_I y3_4, za_I (y4_13 - 1)]) G (zc_X10_refOn l E q t y3_4 (y4_13 - 1) σ ht (by omega) t_38.1) zk_X10_refOn zm_1340 rfl ⟨(Nat.le_of_ble_eq_true rfl), (Nat.le_of_ble_eq_true rfl)⟩ ⟨Nat.zero_le _, Nat.zero_le _⟩ (Nat.le_of_ble_eq_true rfl) dX10_joinsAll_80 (fun r_80 σ h_80 => ?_)
                    obtain ⟨h_80, rfl⟩ := h_80
                    refine zv_icmp_ne (tgt := 90) G dX10_joinsAll_83 (by decide) (fun c_83 => ?_) (fun c_83 => ?_)
                    · have k_83 := z_cne c_83 (a := r_70.toInt) (b := r_80.toInt) rfl rfl
                      refine zv_sub [0, 1, 2, 3, 4] (lv' := [(0, za_O 22 q), (1, za_I t), (2, za_I y2_13), (3, za_I y3_4), (4, za_I y4_13)]) rfl ?_
                      exact J_90 σ hz
                    · have k_83 := z_ceq c_83 (a := r_70.toInt) (b := r_80.toInt) rfl rfl
                      refine zv_iconst (v := 1) G dX10_joinsAll_86 (by decide) ?_
                      refine zv_goto (tgt := 91) G dX10_joinsAll_87 (by decide) ?_
                      refine zv_sub [0, 1, 2, 3, 4] (lv' := [(0, za_O 22 q), (1, za_I t), (2, za_I y2_13), (3, za_I y3_4), (4, za_I y4_13)]) rfl ?_
                      exact J_91 (1 : Int32) σ hz (by first | exact Or.inl rfl | exact Or.inr ⟨t_25, t_38⟩)
        refine zv_istore (lv' := [(4, za_I 1), (0, za_O 22 q), (1, za_I t), (2, za_I y2_4), (3, za_I y3_4)]) G dX10_joinsAll_11 (by decide) rfl ?_
        refine zv_sub [1, 2, 3, 4, 0] (lv' := [(0, za_O 22 q), (1, za_I t), (2, za_I y2_4), (3, za_I y3_4), (4, za_I 1)]) rfl ?_
        exact J_13 _ y2_4 (1 : Int32) σ hz (by decide) (by decide) (Nat.lt_succ_self _)
  refine zv_istore_n (lv' := [(3, za_I 0), (2, za_I 0), (0, za_O 22 q), (1, za_I t)]) G dX10_joinsAll_3 rfl (by decide) rfl ?_
  refine zv_sub [2, 3, 1, 0] (lv' := [(0, za_O 22 q), (1, za_I t), (2, za_I 0), (3, za_I 0)]) rfl ?_
  exact J_4 _ (0 : Int32) (0 : Int32) σ hz (by decide) (by decide) (Nat.lt_succ_self _)
set_option maxHeartbeats 4000000 in
set_option maxRecDepth 100000 in
theorem zc_X10_addsOne (l : Launch) (E : za_E) (q : Nat) (t : Int32) (k : Int32) (v : Int32) (fd : Int32) (td : Int32) (σ0 : za_S) (hq : q ≠ 101 ∧ q ≠ 93) (hG : zG (σ0.1 q)) : zMi l E yX10_addsOne cX10_addsOne 8 (Option.some Jvm.ClassFile.FieldType.int) 7 158 [za_O 19 93, za_O 22 q, za_I t, za_I k, za_I v, za_I fd, za_I td] σ0 (fun r σ' => zfa q σ0 σ') := by
  refine zMi_of [(0, za_O 19 93), (1, za_O 22 q), (2, za_I t), (3, za_I k), (4, za_I v), (5, za_I fd), (6, za_I td)] (by decide) rfl rfl (Nat.le_of_ble_eq_true rfl) ?_
  intro ho p e s m args below meth c G hr
  have h_q : za_kd q = 22 := za_okO (by decide) (List.forall_mem_cons.mp (List.forall_mem_cons.mp ho).2).1
  refine zv_gen (R9 := (zfx 101 σ0)) (zfx_r 101 σ0) (fun σ hz => ?_)
  refine zv_iload_n (j := 2) G dX10_addsOne_0 rfl rfl ?_
  refine zv_callSi (as := [za_I t]) G (zc_X10_isTable l E t σ ) zk_X10_isTable zm_1309 rfl ⟨(Nat.le_of_ble_eq_true rfl), (Nat.le_of_ble_eq_true rfl)⟩ ⟨Nat.zero_le _, Nat.zero_le _⟩ (Nat.le_of_ble_eq_true rfl) dX10_addsOne_1 (fun r_1 σ h_1 => ?_)
  obtain ⟨h_1, rfl⟩ := h_1
  refine zv_if_eq (tgt := 37) G dX10_addsOne_4 (by decide) (fun c_4 => ?_) (fun c_4 => ?_)
  · have f_1 := fun q9 => (h_1.2.mpr q9) c_4
    refine zv_iconst (v := (-1)) G dX10_addsOne_37 (by decide) ?_
    exact zv_iret G hr dX10_addsOne_38 (zfa_x hq hG hz)
  · have t_1 := h_1.2.mp c_4
    refine zv_iload_n (j := 3) G dX10_addsOne_7 rfl rfl ?_
    refine zv_callSi (as := [za_I k]) G (zc_X10_isKey l E k σ ) zk_X10_isKey zm_1371 rfl ⟨(Nat.le_of_ble_eq_true rfl), (Nat.le_of_ble_eq_true rfl)⟩ ⟨Nat.zero_le _, Nat.zero_le _⟩ (Nat.le_of_ble_eq_true rfl) dX10_addsOne_8 (fun r_8 σ h_8 => ?_)
    obtain ⟨h_8, rfl⟩ := h_8
    refine zv_if_eq (tgt := 37) G dX10_addsOne_11 (by decide) (fun c_11 => ?_) (fun c_11 => ?_)
    · have f_8 := fun q9 => (h_8.2.mpr q9) c_11
      refine zv_iconst (v := (-1)) G dX10_addsOne_37 (by decide) ?_
      exact zv_iret G hr dX10_addsOne_38 (zfa_x hq hG hz)
    · have t_8 := h_8.2.mp c_11
      refine zv_iload (j := 4) G dX10_addsOne_14 rfl ?_
      refine zv_i2l G dX10_addsOne_16 ?_
      refine zv_lconst (v := 0) G dX10_addsOne_17 (by decide) ?_
      refine zv_ldc2 (v := 99) G dX10_addsOne_18 zm_1326 ?_
      refine zv_callSi (as := [za_L v.toInt64, za_L 0, za_L 99]) G (zc_X10_in l E v.toInt64 0 99 σ ) zk_X10_in zm_1180 rfl ⟨(Nat.le_of_ble_eq_true rfl), (Nat.le_of_ble_eq_true rfl)⟩ ⟨Nat.zero_le _, Nat.zero_le _⟩ (Nat.le_of_ble_eq_true rfl) dX10_addsOne_21 (fun r_21 σ h_21 => ?_)
      obtain ⟨h_21, rfl⟩ := h_21
      refine zv_if_eq (tgt := 37) G dX10_addsOne_24 (by decide) (fun c_24 => ?_) (fun c_24 => ?_)
      · have f_21 := fun q9 => (h_21.2.mpr q9) c_24
        refine zv_iconst (v := (-1)) G dX10_addsOne_37 (by decide) ?_
        exact zv_iret G hr dX10_addsOne_38 (zfa_x hq hG hz)
      · have t_21 := h_21.2.mp c_24
        have v_24 := z_v99 t_21
        refine zv_iload (j := 5) G dX10_addsOne_27 rfl ?_
        refine zv_iload (j := 6) G dX10_addsOne_29 rfl ?_
        refine zv_callSi (as := [za_I fd, za_I td]) G (zc_X10_isPeriod l E fd td σ ) zk_X10_isPeriod zm_1375 rfl ⟨(Nat.le_of_ble_eq_true rfl), (Nat.le_of_ble_eq_true rfl)⟩ ⟨Nat.zero_le _, Nat.zero_le _⟩ (Nat.le_of_ble_eq_true rfl) dX10_addsOne_31 (fun r_31 σ h_31 => ?_)
        obtain ⟨h_31, rfl⟩ := h_31
        refine zv_if_ne (tgt := 39) G dX10_addsOne_34 (by decide) (fun c_34 => ?_) (fun c_34 => ?_)
        · have t_31 := h_31.2.mp c_34
          refine zv_aload_n (j := 1) G dX10_addsOne_39 rfl rfl ?_
          refine zv_iload_n (j := 2) G dX10_addsOne_40 rfl rfl ?_
          refine zv_iload_n (j := 3) G dX10_addsOne_41 rfl rfl ?_
          refine zv_iload (j := 5) G dX10_addsOne_42 rfl ?_
          refine zv_iload (j := 6) G dX10_addsOne_44 rfl ?_
          refine zv_callSi (as := [za_O 22 q, za_I t, za_I k, za_I fd, za_I td]) G (zc_X10_rowsIn l E q t k fd td σ t_1 t_8) zk_X10_rowsIn zm_1378 rfl ⟨(Nat.le_of_ble_eq_true rfl), (Nat.le_of_ble_eq_true rfl)⟩ ⟨Nat.zero_le _, Nat.zero_le _⟩ (Nat.le_of_ble_eq_true rfl) dX10_addsOne_46 (fun r_46 σ h_46 => ?_)
          subst h_46
          refine zv_if_le (tgt := 55) G dX10_addsOne_49 (by decide) (fun c_49 => ?_) (fun c_49 => ?_)
          · have k_49 := z_cle c_49 (a := r_46.toInt) (b := 0) rfl rfl
            refine zv_aload_n (j := 1) G dX10_addsOne_55 rfl rfl ?_
            refine zv_aload_n (j := 0) G dX10_addsOne_56 rfl rfl ?_
            refine zg_X10_124 G dX10_addsOne_57 ?_
            refine zv_callSv (as := [za_O 22 q, za_O 22 101]) G (zc_X10_copiesTo l E q 101 σ ) zk_X10_copiesTo zm_1381 rfl ⟨(Nat.le_of_ble_eq_true rfl), (Nat.le_of_ble_eq_true rfl)⟩ ⟨Nat.zero_le _, Nat.zero_le _⟩ (Nat.le_of_ble_eq_true rfl) dX10_addsOne_60 (fun σ h_60 => ?_)
            have hz : zla q t k fd fd σ0 σ := zla_0 hq hz h_60
            refine zv_iload (j := 5) G dX10_addsOne_63 rfl ?_
            have J_67 : ∀ (n : Nat) (y7_67 : Int32) (σ : za_S) (hz : zla q t k fd y7_67 σ0 σ) (g_67 : fd.toInt ≤ y7_67.toInt ∧ y7_67.toInt ≤ td.toInt) (i7_67 : 0 ≤ y7_67.toInt) (hn_67 : (2147483648 - y7_67.toInt).toNat < n), zV p l e (zRm 7 158) s m args below meth c E (za_A E) 8 0 0 (MQ below (va_Qi (fun r σ' => zfa q σ0 σ') (zB E) (za_A E)) args s 0 0 (za_A E)) 67 [(0, za_O 19 93), (1, za_O 22 q), (2, za_I t), (3, za_I k), (4, za_I v), (5, za_I fd), (6, za_I td), (7, za_I y7_67)] [] σ := by
              intro n
              induction n with
              | zero => intro y7_67 σ hz g_67 i7_67 hn; exact absurd hn (Nat.not_lt_zero _)
              | succ n ih_67 =>
                intro y7_67 σ hz g_67 i7_67 hn_67
                refine zv_iload (j := 7) G dX10_addsOne_67 rfl ?_
                refine zv_iload (j := 6) G dX10_addsOne_69 rfl ?_
                refine zv_icmp_ge (tgt := 107) G dX10_addsOne_71 (by decide) (fun c_71 => ?_) (fun c_71 => ?_)
                · have k_71 := z_cle c_71 (a := td.toInt) (b := y7_67.toInt) rfl rfl
                  have e9 : y7_67 = td := (z_eq _ _).mpr (by omega)
                  rw [e9] at hz
                  refine zv_aload_n (j := 0) G dX10_addsOne_107 rfl rfl ?_
                  refine zv_aload_n (j := 1) G dX10_addsOne_108 rfl rfl ?_
                  refine zv_aload_n (j := 0) G dX10_addsOne_109 rfl rfl ?_
                  refine zg_X10_124 G dX10_addsOne_110 ?_
                  refine zv_iload_n (j := 2) G dX10_addsOne_113 rfl rfl ?_
                  refine zv_iload_n (j := 3) G dX10_addsOne_114 rfl rfl ?_
                  refine zv_iload (j := 5) G dX10_addsOne_115 rfl ?_
                  refine zv_callSi (as := [za_O 22 101, za_I t, za_I k, za_I fd]) G (zc_X10_numberOf l E 101 t k fd σ t_1 t_8) zk_X10_numberOf zm_1384 rfl ⟨(Nat.le_of_ble_eq_true rfl), (Nat.le_of_ble_eq_true rfl)⟩ ⟨Nat.zero_le _, Nat.zero_le _⟩ (Nat.le_of_ble_eq_true rfl) dX10_addsOne_117 (fun r_117 σ h_117 => ?_)
                  subst h_117
                  refine zv_callVi (as := [za_O 22 q, za_I r_117]) G (by decide) rfl rfl (zc_X10_settles l E q r_117 σ ) zk_X10_settles zm_1387 rfl ⟨(Nat.le_of_ble_eq_true rfl), (Nat.le_of_ble_eq_true rfl)⟩ ⟨Nat.zero_le _, Nat.zero_le _⟩ (Nat.le_of_ble_eq_true rfl) dX10_addsOne_120 (fun r_120 σ h_120 => ?_)
                  have hz := zfa_s hq hG hz.1 (zla_G t_1 t_8 t_31 hG hz) h_120
                  exact zv_iret G hr dX10_addsOne_123 hz
                · have k_71 := z_cnle c_71 (a := td.toInt) (b := y7_67.toInt) rfl rfl
                  refine zv_aload_n (j := 0) G dX10_addsOne_74 rfl rfl ?_
                  refine zg_X10_124 G dX10_addsOne_75 ?_
                  refine zv_iload_n (j := 2) G dX10_addsOne_78 rfl rfl ?_
                  refine zv_iload_n (j := 3) G dX10_addsOne_79 rfl rfl ?_
                  refine zv_iload (j := 7) G dX10_addsOne_80 rfl ?_
                  refine zv_iload (j := 4) G dX10_addsOne_82 rfl ?_
                  refine zv_bipush (v := 10) G dX10_addsOne_84 (by decide) ?_
                  refine zv_iload (j := 7) G dX10_addsOne_86 rfl ?_
                  refine zv_iload (j := 5) G dX10_addsOne_88 rfl ?_
                  refine zv_icmp_ne (tgt := 97) G dX10_addsOne_90 (by decide) (fun c_90 => ?_) (fun c_90 => ?_)
                  · have k_90 := z_cne c_90 (a := y7_67.toInt) (b := fd.toInt) rfl rfl
                    refine zv_iconst (v := 0) G dX10_addsOne_97 (by decide) ?_
                    refine zv_callSv (as := [za_O 22 101, za_I t, za_I k, za_I y7_67, za_I v, za_I 10, za_I 0]) G (zc_X10_lays l E 101 t k y7_67 v (10 : Int32) (0 : Int32) σ (by first | assumption | decide | omega) (by first | assumption | decide | omega) (by first | assumption | decide | omega)) zk_X10_lays zm_1356 rfl ⟨(Nat.le_of_ble_eq_true rfl), (Nat.le_of_ble_eq_true rfl)⟩ ⟨Nat.zero_le _, Nat.zero_le _⟩ (Nat.le_of_ble_eq_true rfl) dX10_addsOne_98 (fun σ h_98 => ?_)
                    obtain ⟨x_101, e_101⟩ : ∃ y : Int32, y = y7_67 + 1 := ⟨_, rfl⟩
                    refine zv_iinc (j := 7) (v := x_101) (lv' := [(7, za_I x_101), (0, za_O 19 93), (1, za_O 22 q), (2, za_I t), (3, za_I k), (4, za_I v), (5, za_I fd), (6, za_I td)]) G dX10_addsOne_101 rfl (by rw [e_101]; rfl) (by decide) rfl ?_
                    first | have q_101 := z_inc9 (by omega) e_101 | skip
                    refine zv_goto (tgt := 67) G dX10_addsOne_104 (by decide) ?_
                    refine zv_sub [1, 2, 3, 4, 5, 6, 7, 0] (lv' := [(0, za_O 19 93), (1, za_O 22 q), (2, za_I t), (3, za_I k), (4, za_I v), (5, za_I fd), (6, za_I td), (7, za_I x_101)]) rfl ?_
                    exact ih_67 x_101 σ (zla_s t_1 t_8 t_31.1 (by omega) hz v_24 (by first | exact ⟨Or.inr rfl, fun _ => k_90, fun _ => rfl⟩ | exact ⟨Or.inl rfl, fun h => absurd h (by decide), fun h => absurd h k_90⟩) h_98 q_101) (by omega) (by have := z_inc c_71 e_101; omega) (z_meas c_71 e_101 hn_67)
                  · have k_90 := z_ceq c_90 (a := y7_67.toInt) (b := fd.toInt) rfl rfl
                    refine zv_iconst (v := 1) G dX10_addsOne_93 (by decide) ?_
                    refine zv_goto (tgt := 98) G dX10_addsOne_94 (by decide) ?_
                    refine zv_callSv (as := [za_O 22 101, za_I t, za_I k, za_I y7_67, za_I v, za_I 10, za_I 1]) G (zc_X10_lays l E 101 t k y7_67 v (10 : Int32) (1 : Int32) σ (by first | assumption | decide | omega) (by first | assumption | decide | omega) (by first | assumption | decide | omega)) zk_X10_lays zm_1356 rfl ⟨(Nat.le_of_ble_eq_true rfl), (Nat.le_of_ble_eq_true rfl)⟩ ⟨Nat.zero_le _, Nat.zero_le _⟩ (Nat.le_of_ble_eq_true rfl) dX10_addsOne_98 (fun σ h_98 => ?_)
                    obtain ⟨x_101, e_101⟩ : ∃ y : Int32, y = y7_67 + 1 := ⟨_, rfl⟩
                    refine zv_iinc (j := 7) (v := x_101) (lv' := [(7, za_I x_101), (0, za_O 19 93), (1, za_O 22 q), (2, za_I t), (3, za_I k), (4, za_I v), (5, za_I fd), (6, za_I td)]) G dX10_addsOne_101 rfl (by rw [e_101]; rfl) (by decide) rfl ?_
                    first | have q_101 := z_inc9 (by omega) e_101 | skip
                    refine zv_goto (tgt := 67) G dX10_addsOne_104 (by decide) ?_
                    refine zv_sub [1, 2, 3, 4, 5, 6, 7, 0] (lv' := [(0, za_O 19 93), (1, za_O 22 q), (2, za_I t), (3, za_I k), (4, za_I v), (5, za_I fd), (6, za_I td), (7, za_I x_101)]) rfl ?_
                    exact ih_67 x_101 σ (zla_s t_1 t_8 t_31.1 (by omega) hz v_24 (by first | exact ⟨Or.inr rfl, fun _ => k_90, fun _ => rfl⟩ | exact ⟨Or.inl rfl, fun h => absurd h (by decide), fun h => absurd h k_90⟩) h_98 q_101) (by omega) (by have := z_inc c_71 e_101; omega) (z_meas c_71 e_101 hn_67)
            refine zv_istore (lv' := [(7, za_I fd), (0, za_O 19 93), (1, za_O 22 q), (2, za_I t), (3, za_I k), (4, za_I v), (5, za_I fd), (6, za_I td)]) G dX10_addsOne_65 (by decide) rfl ?_
            refine zv_sub [1, 2, 3, 4, 5, 6, 7, 0] (lv' := [(0, za_O 19 93), (1, za_O 22 q), (2, za_I t), (3, za_I k), (4, za_I v), (5, za_I fd), (6, za_I td), (7, za_I fd)]) rfl ?_
            exact J_67 _ fd σ hz (by omega) (by first | assumption | omega) (Nat.lt_succ_self _)
          · have k_49 := z_cnle c_49 (a := r_46.toInt) (b := 0) rfl rfl
            refine zv_bipush (v := (-2)) G dX10_addsOne_52 (by decide) ?_
            exact zv_iret G hr dX10_addsOne_54 (zfa_x hq hG hz)
        · have f_31 := fun q9 => (h_31.2.mpr q9) c_34
          refine zv_iconst (v := (-1)) G dX10_addsOne_37 (by decide) ?_
          exact zv_iret G hr dX10_addsOne_38 (zfa_x hq hG hz)
set_option maxHeartbeats 4000000 in
set_option maxRecDepth 100000 in
theorem zc_X10_turns (l : Launch) (E : za_E) (q : Nat) (t : Int32) (k : Int32) (iv : Int32) (v : Int32) (fd : Int32) (td : Int32) (σ0 : za_S) (hq : q ≠ 101 ∧ q ≠ 93) (ht : 0 ≤ t.toInt ∧ t.toInt ≤ 1) (hk : 0 ≤ k.toInt ∧ k.toInt ≤ 9) (hB : zGB (σ0.1 q)) (hv : (¬ iv = 0 → 0 ≤ v.toInt ∧ v.toInt ≤ 99) ∧ (iv = 0 → 0 ≤ v.toInt ∧ v.toInt ≤ 10)) (hp : (0 ≤ fd.toInt ∧ fd.toInt ≤ 99) ∧ fd.toInt < td.toInt ∧ td.toInt ≤ 100) : zMi l E yX10_turns cX10_turns 13 (Option.some Jvm.ClassFile.FieldType.int) 6 138 [za_O 19 93, za_O 22 q, za_I t, za_I k, za_I iv, za_I v, za_I fd, za_I td] σ0 (fun r σ' => zfx 101 σ0 σ' ∧ (0 ≤ r.toInt → ztr (σ0.1 q) (σ'.1 101))) := by
  refine zMi_of [(0, za_O 19 93), (1, za_O 22 q), (2, za_I t), (3, za_I k), (4, za_I iv), (5, za_I v), (6, za_I fd), (7, za_I td)] (by decide) rfl rfl (Nat.le_of_ble_eq_true rfl) ?_
  intro ho p e s m args below meth c G hr
  have h_q : za_kd q = 22 := za_okO (by decide) (List.forall_mem_cons.mp (List.forall_mem_cons.mp ho).2).1
  refine zv_gen (R9 := (zfx 101 σ0)) (zfx_r 101 σ0) (fun σ hz => ?_)
  refine zv_aload_n (j := 1) G dX10_turns_0 rfl rfl ?_
  refine zv_iload_n (j := 2) G dX10_turns_1 rfl rfl ?_
  refine zv_iload_n (j := 3) G dX10_turns_2 rfl rfl ?_
  refine zv_iload (j := 6) G dX10_turns_3 rfl ?_
  refine zv_iload (j := 7) G dX10_turns_5 rfl ?_
  refine zv_callSi (as := [za_O 22 q, za_I t, za_I k, za_I fd, za_I td]) G (zc_X10_rowsIn l E q t k fd td σ (by first | assumption | decide | omega) (by first | assumption | decide | omega)) zk_X10_rowsIn zm_1378 rfl ⟨(Nat.le_of_ble_eq_true rfl), (Nat.le_of_ble_eq_true rfl)⟩ ⟨Nat.zero_le _, Nat.zero_le _⟩ (Nat.le_of_ble_eq_true rfl) dX10_turns_7 (fun r_7 σ h_7 => ?_)
  subst h_7
  refine zv_istore (lv' := [(8, za_I r_7), (0, za_O 19 93), (1, za_O 22 q), (2, za_I t), (3, za_I k), (4, za_I iv), (5, za_I v), (6, za_I fd), (7, za_I td)]) G dX10_turns_10 (by decide) rfl ?_
  refine zv_iload (j := 0) G dX10_turns_12 rfl ?_
  refine zv_if_ne (tgt := 20) G dX10_turns_14 (by decide) (fun c_14 => ?_) (fun c_14 => ?_)
  · refine zv_aload_n (j := 2) G dX10_turns_20 rfl rfl ?_
    refine zv_aload_n (j := 1) G dX10_turns_21 rfl rfl ?_
    refine zg_X10_124 G dX10_turns_22 ?_
    refine zv_callSv (as := [za_O 22 q, za_O 22 101]) G (zc_X10_copiesTo l E q 101 σ ) zk_X10_copiesTo zm_1381 rfl ⟨(Nat.le_of_ble_eq_true rfl), (Nat.le_of_ble_eq_true rfl)⟩ ⟨Nat.zero_le _, Nat.zero_le _⟩ (Nat.le_of_ble_eq_true rfl) dX10_turns_25 (fun σ h_25 => ?_)
    have hz : ztu q σ0 σ := ztu_0 hq hB hz h_25
    refine zv_iload (j := 7) G dX10_turns_28 rfl ?_
    have J_32 : ∀ (n : Nat) (y9_32 : Int32) (σ : za_S) (hz : ztu q σ0 σ) (g_32 : fd.toInt ≤ y9_32.toInt) (i9_32 : 0 ≤ y9_32.toInt) (hn_32 : (2147483648 - y9_32.toInt).toNat < n), zV p l e (zRm 6 138) s m args below meth c E (za_A E) 13 0 0 (MQ below (va_Qi (fun r σ' => zfx 101 σ0 σ' ∧ (0 ≤ r.toInt → ztr (σ0.1 q) (σ'.1 101))) (zB E) (za_A E)) args s 0 0 (za_A E)) 32 [(0, za_O 19 93), (1, za_O 22 q), (2, za_I t), (3, za_I k), (4, za_I iv), (5, za_I v), (6, za_I fd), (7, za_I td), (8, za_I r_7), (9, za_I y9_32)] [] σ := by
      intro n
      induction n with
      | zero => intro y9_32 σ hz g_32 i9_32 hn; exact absurd hn (Nat.not_lt_zero _)
      | succ n ih_32 =>
        intro y9_32 σ hz g_32 i9_32 hn_32
        refine zv_iload (j := 9) G dX10_turns_32 rfl ?_
        refine zv_iload (j := 7) G dX10_turns_34 rfl ?_
        refine zv_icmp_ge (tgt := 175) G dX10_turns_36 (by decide) (fun c_36 => ?_) (fun c_36 => ?_)
        · have k_36 := z_cle c_36 (a := td.toInt) (b := y9_32.toInt) rfl rfl
          refine zv_iload (j := 8) G dX10_turns_175 rfl ?_
          exact zv_iret G hr dX10_turns_177 ⟨hz.1, fun _ => hz.2⟩
        · have k_36 := z_cnle c_36 (a := td.toInt) (b := y9_32.toInt) rfl rfl
          refine zv_aload_n (j := 1) G dX10_turns_39 rfl rfl ?_
          refine zv_iload_n (j := 2) G dX10_turns_40 rfl rfl ?_
          refine zv_iload_n (j := 3) G dX10_turns_41 rfl rfl ?_
          refine zv_iload (j := 9) G dX10_turns_42 rfl ?_
          refine zv_callSi (as := [za_O 22 q, za_I t, za_I k, za_I y9_32]) G (zc_X10_isThere l E q t k y9_32 σ (by first | assumption | decide | omega) (by first | assumption | decide | omega)) zk_X10_isThere zm_1320 rfl ⟨(Nat.le_of_ble_eq_true rfl), (Nat.le_of_ble_eq_true rfl)⟩ ⟨Nat.zero_le _, Nat.zero_le _⟩ (Nat.le_of_ble_eq_true rfl) dX10_turns_44 (fun r_44 σ h_44 => ?_)
          obtain ⟨h_44, rfl⟩ := h_44
          refine zv_if_eq (tgt := 169) G dX10_turns_47 (by decide) (fun c_47 => ?_) (fun c_47 => ?_)
          · have f_44 := fun q9 => (h_44.2.mpr q9) c_47
            obtain ⟨x_169, e_169⟩ : ∃ y : Int32, y = y9_32 + 1 := ⟨_, rfl⟩
            refine zv_iinc (j := 9) (v := x_169) (lv' := [(9, za_I x_169), (0, za_O 19 93), (1, za_O 22 q), (2, za_I t), (3, za_I k), (4, za_I iv), (5, za_I v), (6, za_I fd), (7, za_I td), (8, za_I r_7)]) G dX10_turns_169 rfl (by rw [e_169]; rfl) (by decide) rfl ?_
            first | have q_169 := z_inc9 (by omega) e_169 | skip
            refine zv_goto (tgt := 32) G dX10_turns_172 (by decide) ?_
            refine zv_sub [1, 2, 3, 4, 5, 6, 7, 8, 9, 0] (lv' := [(0, za_O 19 93), (1, za_O 22 q), (2, za_I t), (3, za_I k), (4, za_I iv), (5, za_I v), (6, za_I fd), (7, za_I td), (8, za_I r_7), (9, za_I x_169)]) rfl ?_
            exact ih_32 x_169 σ hz (by omega) (by have := z_inc c_36 e_169; omega) (z_meas c_36 e_169 hn_32)
          · have t_44 := h_44.2.mp c_47
            rw [ztu_q hq hz] at t_44
            refine zv_aload_n (j := 1) G dX10_turns_50 rfl rfl ?_
            refine zv_iload_n (j := 2) G dX10_turns_51 rfl rfl ?_
            refine zv_iload_n (j := 3) G dX10_turns_52 rfl rfl ?_
            refine zv_iload (j := 9) G dX10_turns_53 rfl ?_
            refine zv_callSi (as := [za_O 22 q, za_I t, za_I k, za_I y9_32]) G (zc_X10_valueOn l E q t k y9_32 σ (by first | assumption | decide | omega) (by first | assumption | decide | omega) (by first | assumption | decide | omega)) zk_X10_valueOn zm_1334 rfl ⟨(Nat.le_of_ble_eq_true rfl), (Nat.le_of_ble_eq_true rfl)⟩ ⟨Nat.zero_le _, Nat.zero_le _⟩ (Nat.le_of_ble_eq_true rfl) dX10_turns_55 (fun r_55 σ h_55 => ?_)
            obtain ⟨h_55, rfl⟩ := h_55
            rw [ztu_q hq hz] at h_55
            refine zv_istore (lv' := [(10, za_I r_55), (0, za_O 19 93), (1, za_O 22 q), (2, za_I t), (3, za_I k), (4, za_I iv), (5, za_I v), (6, za_I fd), (7, za_I td), (8, za_I r_7), (9, za_I y9_32)]) G dX10_turns_58 (by decide) rfl ?_
            refine zv_aload_n (j := 2) G dX10_turns_60 rfl rfl ?_
            refine zv_iload_n (j := 3) G dX10_turns_61 rfl rfl ?_
            refine zv_iload_n (j := 4) G dX10_turns_62 rfl rfl ?_
            refine zv_iload (j := 10) G dX10_turns_63 rfl ?_
            refine zv_callSi (as := [za_O 22 q, za_I t, za_I k, za_I y9_32]) G (zc_X10_refOn l E q t k y9_32 σ (by first | assumption | decide | omega) (by first | assumption | decide | omega) (by first | assumption | decide | omega)) zk_X10_refOn zm_1340 rfl ⟨(Nat.le_of_ble_eq_true rfl), (Nat.le_of_ble_eq_true rfl)⟩ ⟨Nat.zero_le _, Nat.zero_le _⟩ (Nat.le_of_ble_eq_true rfl) dX10_turns_65 (fun r_65 σ h_65 => ?_)
            obtain ⟨h_65, rfl⟩ := h_65
            rw [ztu_q hq hz] at h_65
            refine zv_istore (lv' := [(11, za_I r_65), (10, za_I r_55), (0, za_O 19 93), (1, za_O 22 q), (2, za_I t), (3, za_I k), (4, za_I iv), (5, za_I v), (6, za_I fd), (7, za_I td), (8, za_I r_7), (9, za_I y9_32)]) G dX10_turns_68 (by decide) rfl ?_
            refine zv_iload (j := 6) G dX10_turns_70 rfl ?_
            have J_82 : ∀ (s0_82 : Int32) (σ : za_S) (hz : ztu q σ0 σ), zV p l e (zRm 6 138) s m args below meth c E (za_A E) 13 0 0 (MQ below (va_Qi (fun r σ' => zfx 101 σ0 σ' ∧ (0 ≤ r.toInt → ztr (σ0.1 q) (σ'.1 101))) (zB E) (za_A E)) args s 0 0 (za_A E)) 82 [(0, za_O 19 93), (1, za_O 22 q), (2, za_I t), (3, za_I k), (4, za_I iv), (5, za_I v), (6, za_I fd), (7, za_I td), (8, za_I r_7), (9, za_I y9_32), (10, za_I r_55), (11, za_I r_65)] [za_I s0_82] σ := by
              intro s0_82 σ hz
              refine zv_iload (j := 5) G dX10_turns_82 rfl ?_
              refine zv_icmp_eq (tgt := 169) G dX10_turns_84 (by decide) (fun c_84 => ?_) (fun c_84 => ?_)
              · have k_84 := z_ceq c_84 (a := s0_82.toInt) (b := v.toInt) rfl rfl
                obtain ⟨x_169, e_169⟩ : ∃ y : Int32, y = y9_32 + 1 := ⟨_, rfl⟩
                refine zv_iinc (j := 9) (v := x_169) (lv' := [(9, za_I x_169), (0, za_O 19 93), (1, za_O 22 q), (2, za_I t), (3, za_I k), (4, za_I iv), (5, za_I v), (6, za_I fd), (7, za_I td), (8, za_I r_7), (10, za_I r_55), (11, za_I r_65)]) G dX10_turns_169 rfl (by rw [e_169]; rfl) (by decide) rfl ?_
                first | have q_169 := z_inc9 (by omega) e_169 | skip
                refine zv_goto (tgt := 32) G dX10_turns_172 (by decide) ?_
                refine zv_sub [1, 2, 3, 4, 5, 6, 7, 8, 9, 0] (lv' := [(0, za_O 19 93), (1, za_O 22 q), (2, za_I t), (3, za_I k), (4, za_I iv), (5, za_I v), (6, za_I fd), (7, za_I td), (8, za_I r_7), (9, za_I x_169)]) rfl ?_
                exact ih_32 x_169 σ hz (by omega) (by have := z_inc c_36 e_169; omega) (z_meas c_36 e_169 hn_32)
              · have k_84 := z_cne c_84 (a := s0_82.toInt) (b := v.toInt) rfl rfl
                refine zv_aload_n (j := 1) G dX10_turns_87 rfl rfl ?_
                refine zv_iload_n (j := 2) G dX10_turns_88 rfl rfl ?_
                refine zv_iload_n (j := 3) G dX10_turns_89 rfl rfl ?_
                refine zv_iload (j := 9) G dX10_turns_90 rfl ?_
                refine zv_callSi (as := [za_O 22 q, za_I t, za_I k, za_I y9_32]) G (zc_X10_begins l E q t k y9_32 σ (by first | assumption | decide | omega) (by first | assumption | decide | omega)) zk_X10_begins zm_1317 rfl ⟨(Nat.le_of_ble_eq_true rfl), (Nat.le_of_ble_eq_true rfl)⟩ ⟨Nat.zero_le _, Nat.zero_le _⟩ (Nat.le_of_ble_eq_true rfl) dX10_turns_92 (fun r_92 σ h_92 => ?_)
                obtain ⟨h_92, rfl⟩ := h_92
                have J_110 : ∀ (s0_110 : Int32) (σ : za_S) (hz : ztu q σ0 σ) (w_110 : (s0_110 = 0 ∨ s0_110 = 1) ∧ (zbg (σ0.1 q) t k y9_32 → s0_110 = 1)), zV p l e (zRm 6 138) s m args below meth c E (za_A E) 13 0 0 (MQ below (va_Qi (fun r σ' => zfx 101 σ0 σ' ∧ (0 ≤ r.toInt → ztr (σ0.1 q) (σ'.1 101))) (zB E) (za_A E)) args s 0 0 (za_A E)) 110 [(0, za_O 19 93), (1, za_O 22 q), (2, za_I t), (3, za_I k), (4, za_I iv), (5, za_I v), (6, za_I fd), (7, za_I td), (8, za_I r_7), (9, za_I y9_32), (10, za_I r_55), (11, za_I r_65)] [za_I s0_110] σ := by
                  intro s0_110 σ hz w_110
                  refine zv_istore (lv' := [(12, za_I s0_110), (0, za_O 19 93), (1, za_O 22 q), (2, za_I t), (3, za_I k), (4, za_I iv), (5, za_I v), (6, za_I fd), (7, za_I td), (8, za_I r_7), (9, za_I y9_32), (10, za_I r_55), (11, za_I r_65)]) G dX10_turns_110 (by decide) rfl ?_
                  refine zv_aload_n (j := 1) G dX10_turns_112 rfl rfl ?_
                  refine zg_X10_124 G dX10_turns_113 ?_
                  refine zv_iload_n (j := 3) G dX10_turns_116 rfl rfl ?_
                  refine zv_iload_n (j := 4) G dX10_turns_117 rfl rfl ?_
                  refine zv_iload (j := 10) G dX10_turns_118 rfl ?_
                  refine zv_iload (j := 5) G dX10_turns_120 rfl ?_
                  have J_132 : ∀ (s0_132 : Int32) (σ : za_S) (hz : ztu q σ0 σ) (v_132 : 0 ≤ s0_132.toInt ∧ s0_132.toInt ≤ 99), zV p l e (zRm 6 138) s m args below meth c E (za_A E) 13 0 0 (MQ below (va_Qi (fun r σ' => zfx 101 σ0 σ' ∧ (0 ≤ r.toInt → ztr (σ0.1 q) (σ'.1 101))) (zB E) (za_A E)) args s 0 0 (za_A E)) 132 [(0, za_O 19 93), (1, za_O 22 q), (2, za_I t), (3, za_I k), (4, za_I iv), (5, za_I v), (6, za_I fd), (7, za_I td), (8, za_I r_7), (9, za_I y9_32), (11, za_I r_65), (12, za_I s0_110)] [za_I s0_132, za_I y9_32, za_I k, za_I t, za_O 22 101] σ := by
                    intro s0_132 σ hz v_132
                    refine zv_iload (j := 4) G dX10_turns_132 rfl ?_
                    have J_144 : ∀ (s0_144 : Int32) (σ : za_S) (hz : ztu q σ0 σ) (v_144 : 0 ≤ s0_144.toInt ∧ s0_144.toInt ≤ 10), zV p l e (zRm 6 138) s m args below meth c E (za_A E) 13 0 0 (MQ below (va_Qi (fun r σ' => zfx 101 σ0 σ' ∧ (0 ≤ r.toInt → ztr (σ0.1 q) (σ'.1 101))) (zB E) (za_A E)) args s 0 0 (za_A E)) 144 [(0, za_O 19 93), (1, za_O 22 q), (2, za_I t), (3, za_I k), (4, za_I iv), (5, za_I v), (6, za_I fd), (7, za_I td), (8, za_I r_7), (9, za_I y9_32), (12, za_I s0_110)] [za_I s0_144, za_I s0_132, za_I y9_32, za_I k, za_I t, za_O 22 101] σ := by
                      intro s0_144 σ hz v_144
                      refine zv_iload (j := 10) G dX10_turns_144 rfl ?_
                      refine zv_callSv (as := [za_O 22 101, za_I t, za_I k, za_I y9_32, za_I s0_132, za_I s0_144, za_I s0_110]) G (zc_X10_lays l E 101 t k y9_32 s0_132 s0_144 s0_110 σ (by first | assumption | decide | omega) (by first | assumption | decide | omega) (by first | assumption | decide | omega)) zk_X10_lays zm_1356 rfl ⟨(Nat.le_of_ble_eq_true rfl), (Nat.le_of_ble_eq_true rfl)⟩ ⟨Nat.zero_le _, Nat.zero_le _⟩ (Nat.le_of_ble_eq_true rfl) dX10_turns_146 (fun σ h_146 => ?_)
                      have hz : ztu q σ0 σ := ztu_l ht hk hz t_44 v_132 v_144 w_110 h_146
                      refine zv_iload (j := 9) G dX10_turns_149 rfl ?_
                      refine zv_iload (j := 7) G dX10_turns_151 rfl ?_
                      refine zv_iconst (v := 1) G dX10_turns_153 (by decide) ?_
                      refine zv_isub G dX10_turns_154 ?_
                      refine zv_icmp_ne (tgt := 169) G dX10_turns_155 (by decide) (fun c_155 => ?_) (fun c_155 => ?_)
                      · have k_155 := z_cne c_155 (a := y9_32.toInt) (b := (td - 1).toInt) rfl rfl
                        obtain ⟨x_169, e_169⟩ : ∃ y : Int32, y = y9_32 + 1 := ⟨_, rfl⟩
                        refine zv_iinc (j := 9) (v := x_169) (lv' := [(9, za_I x_169), (0, za_O 19 93), (1, za_O 22 q), (2, za_I t), (3, za_I k), (4, za_I iv), (5, za_I v), (6, za_I fd), (7, za_I td), (8, za_I r_7), (12, za_I s0_110)]) G dX10_turns_169 rfl (by rw [e_169]; rfl) (by decide) rfl ?_
                        first | have q_169 := z_inc9 (by omega) e_169 | skip
                        refine zv_goto (tgt := 32) G dX10_turns_172 (by decide) ?_
                        refine zv_sub [1, 2, 3, 4, 5, 6, 7, 8, 9, 0] (lv' := [(0, za_O 19 93), (1, za_O 22 q), (2, za_I t), (3, za_I k), (4, za_I iv), (5, za_I v), (6, za_I fd), (7, za_I td), (8, za_I r_7), (9, za_I x_169)]) rfl ?_
                        exact ih_32 x_169 σ hz (by omega) (by have := z_inc c_36 e_169; omega) (z_meas c_36 e_169 hn_32)
                      · have k_155 := z_ceq c_155 (a := y9_32.toInt) (b := (td - 1).toInt) rfl rfl
                        refine zv_aload_n (j := 0) G dX10_turns_158 rfl rfl ?_
                        refine zg_X10_124 G dX10_turns_159 ?_
                        refine zv_iload_n (j := 2) G dX10_turns_162 rfl rfl ?_
                        refine zv_iload_n (j := 3) G dX10_turns_163 rfl rfl ?_
                        refine zv_iload (j := 7) G dX10_turns_164 rfl ?_
                        refine zv_callSv (as := [za_O 22 101, za_I t, za_I k, za_I td]) G (zc_X10_splits l E 101 t k td σ (by first | assumption | decide | omega) (by first | assumption | decide | omega)) zk_X10_splits zm_1411 rfl ⟨(Nat.le_of_ble_eq_true rfl), (Nat.le_of_ble_eq_true rfl)⟩ ⟨Nat.zero_le _, Nat.zero_le _⟩ (Nat.le_of_ble_eq_true rfl) dX10_turns_166 (fun σ h_166 => ?_)
                        have hz : ztu q σ0 σ := ztu_s ht hk hz h_166
                        obtain ⟨x_169, e_169⟩ : ∃ y : Int32, y = y9_32 + 1 := ⟨_, rfl⟩
                        refine zv_iinc (j := 9) (v := x_169) (lv' := [(9, za_I x_169), (0, za_O 19 93), (1, za_O 22 q), (2, za_I t), (3, za_I k), (4, za_I iv), (5, za_I v), (6, za_I fd), (7, za_I td), (8, za_I r_7), (12, za_I s0_110)]) G dX10_turns_169 rfl (by rw [e_169]; rfl) (by decide) rfl ?_
                        first | have q_169 := z_inc9 (by omega) e_169 | skip
                        refine zv_goto (tgt := 32) G dX10_turns_172 (by decide) ?_
                        refine zv_sub [1, 2, 3, 4, 5, 6, 7, 8, 9, 0] (lv' := [(0, za_O 19 93), (1, za_O 22 q), (2, za_I t), (3, za_I k), (4, za_I iv), (5, za_I v), (6, za_I fd), (7, za_I td), (8, za_I r_7), (9, za_I x_169)]) rfl ?_
                        exact ih_32 x_169 σ hz (by omega) (by have := z_inc c_36 e_169; omega) (z_meas c_36 e_169 hn_32)
                    refine zv_if_eq (tgt := 142) G dX10_turns_134 (by decide) (fun c_134 => ?_) (fun c_134 => ?_)
                    · have k_134 := z_ceq c_134 (a := iv.toInt) (b := 0) rfl rfl
                      refine zv_iload (j := 5) G dX10_turns_142 rfl ?_
                      refine zv_sub [0, 1, 2, 3, 4, 5, 6, 7, 8, 9, 11] (lv' := [(0, za_O 19 93), (1, za_O 22 q), (2, za_I t), (3, za_I k), (4, za_I iv), (5, za_I v), (6, za_I fd), (7, za_I td), (8, za_I r_7), (9, za_I y9_32), (12, za_I s0_110)]) rfl ?_
                      exact J_144 v σ hz (by first | exact hv.2 c_134 | (rw [h_65]; exact z_rf t_44.2))
                    · have k_134 := z_cne c_134 (a := iv.toInt) (b := 0) rfl rfl
                      refine zv_iload (j := 10) G dX10_turns_137 rfl ?_
                      refine zv_goto (tgt := 144) G dX10_turns_139 (by decide) ?_
                      refine zv_sub [0, 1, 2, 3, 4, 5, 6, 7, 8, 9, 11] (lv' := [(0, za_O 19 93), (1, za_O 22 q), (2, za_I t), (3, za_I k), (4, za_I iv), (5, za_I v), (6, za_I fd), (7, za_I td), (8, za_I r_7), (9, za_I y9_32), (12, za_I s0_110)]) rfl ?_
                      exact J_144 r_65 σ hz (by first | exact hv.2 c_134 | (rw [h_65]; exact z_rf t_44.2))
                  refine zv_if_eq (tgt := 130) G dX10_turns_122 (by decide) (fun c_122 => ?_) (fun c_122 => ?_)
                  · have k_122 := z_ceq c_122 (a := iv.toInt) (b := 0) rfl rfl
                    refine zv_iload (j := 11) G dX10_turns_130 rfl ?_
                    refine zv_sub [1, 2, 3, 4, 5, 6, 7, 8, 9, 10, 12, 0] (lv' := [(0, za_O 19 93), (1, za_O 22 q), (2, za_I t), (3, za_I k), (4, za_I iv), (5, za_I v), (6, za_I fd), (7, za_I td), (8, za_I r_7), (9, za_I y9_32), (11, za_I r_65), (12, za_I s0_110)]) rfl ?_
                    exact J_132 r_55 σ hz (by first | exact hv.1 c_122 | (rw [h_55]; exact z_vl t_44.2 (hB _ (zix_lt ht hk t_44.1).1).2))
                  · have k_122 := z_cne c_122 (a := iv.toInt) (b := 0) rfl rfl
                    refine zv_iload (j := 6) G dX10_turns_125 rfl ?_
                    refine zv_goto (tgt := 132) G dX10_turns_127 (by decide) ?_
                    refine zv_sub [1, 2, 3, 4, 5, 6, 7, 8, 9, 10, 12, 0] (lv' := [(0, za_O 19 93), (1, za_O 22 q), (2, za_I t), (3, za_I k), (4, za_I iv), (5, za_I v), (6, za_I fd), (7, za_I td), (8, za_I r_7), (9, za_I y9_32), (11, za_I r_65), (12, za_I s0_110)]) rfl ?_
                    exact J_132 v σ hz (by first | exact hv.1 c_122 | (rw [h_55]; exact z_vl t_44.2 (hB _ (zix_lt ht hk t_44.1).1).2))
                have J_105 : ∀  (σ : za_S) (hz : ztu q σ0 σ), zV p l e (zRm 6 138) s m args below meth c E (za_A E) 13 0 0 (MQ below (va_Qi (fun r σ' => zfx 101 σ0 σ' ∧ (0 ≤ r.toInt → ztr (σ0.1 q) (σ'.1 101))) (zB E) (za_A E)) args s 0 0 (za_A E)) 105 [(0, za_O 19 93), (1, za_O 22 q), (2, za_I t), (3, za_I k), (4, za_I iv), (5, za_I v), (6, za_I fd), (7, za_I td), (8, za_I r_7), (9, za_I y9_32), (10, za_I r_55), (11, za_I r_65)] [] σ := by
                  intro σ hz
                  refine zv_iconst (v := 1) G dX10_turns_105 (by decide) ?_
                  refine zv_goto (tgt := 110) G dX10_turns_106 (by decide) ?_
                  refine zv_sub [0, 1, 2, 3, 4, 5, 6, 7, 8, 9, 10, 11] (lv' := [(0, za_O 19 93), (1, za_O 22 q), (2, za_I t), (3, za_I k), (4, za_I iv), (5, za_I v), (6, za_I fd), (7, za_I td), (8, za_I r_7), (9, za_I y9_32), (10, za_I r_55), (11, za_I r_65)]) rfl ?_
                  exact J_110 (1 : Int32) σ hz (by first | exact ⟨Or.inr rfl, fun _ => rfl⟩ | exact ⟨Or.inl rfl, fun h => absurd h f_92⟩)
                refine zv_if_ne (tgt := 105) G dX10_turns_95 (by decide) (fun c_95 => ?_) (fun c_95 => ?_)
                · have t_92 := h_92.2.mp c_95
                  rw [ztu_q hq hz] at t_92
                  refine zv_sub [0, 1, 2, 3, 4, 5, 6, 7, 8, 9, 10, 11] (lv' := [(0, za_O 19 93), (1, za_O 22 q), (2, za_I t), (3, za_I k), (4, za_I iv), (5, za_I v), (6, za_I fd), (7, za_I td), (8, za_I r_7), (9, za_I y9_32), (10, za_I r_55), (11, za_I r_65)]) rfl ?_
                  exact J_105 σ hz
                · have f_92 := fun q9 => (h_92.2.mpr q9) c_95
                  rw [ztu_q hq hz] at f_92
                  refine zv_iload (j := 9) G dX10_turns_98 rfl ?_
                  refine zv_iload (j := 6) G dX10_turns_100 rfl ?_
                  refine zv_icmp_ne (tgt := 109) G dX10_turns_102 (by decide) (fun c_102 => ?_) (fun c_102 => ?_)
                  · have k_102 := z_cne c_102 (a := y9_32.toInt) (b := fd.toInt) rfl rfl
                    refine zv_iconst (v := 0) G dX10_turns_109 (by decide) ?_
                    refine zv_sub [0, 1, 2, 3, 4, 5, 6, 7, 8, 9, 10, 11] (lv' := [(0, za_O 19 93), (1, za_O 22 q), (2, za_I t), (3, za_I k), (4, za_I iv), (5, za_I v), (6, za_I fd), (7, za_I td), (8, za_I r_7), (9, za_I y9_32), (10, za_I r_55), (11, za_I r_65)]) rfl ?_
                    exact J_110 (0 : Int32) σ hz (by first | exact ⟨Or.inr rfl, fun _ => rfl⟩ | exact ⟨Or.inl rfl, fun h => absurd h f_92⟩)
                  · have k_102 := z_ceq c_102 (a := y9_32.toInt) (b := fd.toInt) rfl rfl
                    refine zv_sub [0, 1, 2, 3, 4, 5, 6, 7, 8, 9, 10, 11] (lv' := [(0, za_O 19 93), (1, za_O 22 q), (2, za_I t), (3, za_I k), (4, za_I iv), (5, za_I v), (6, za_I fd), (7, za_I td), (8, za_I r_7), (9, za_I y9_32), (10, za_I r_55), (11, za_I r_65)]) rfl ?_
                    exact J_105 σ hz
            refine zv_if_eq (tgt := 80) G dX10_turns_72 (by decide) (fun c_72 => ?_) (fun c_72 => ?_)
            · have k_72 := z_ceq c_72 (a := iv.toInt) (b := 0) rfl rfl
              refine zv_iload (j := 0) G dX10_turns_80 rfl ?_
              refine zv_sub [2, 3, 4, 5, 6, 7, 8, 9, 10, 11, 1, 0] (lv' := [(0, za_O 19 93), (1, za_O 22 q), (2, za_I t), (3, za_I k), (4, za_I iv), (5, za_I v), (6, za_I fd), (7, za_I td), (8, za_I r_7), (9, za_I y9_32), (10, za_I r_55), (11, za_I r_65)]) rfl ?_
              exact J_82 r_65 σ hz
            · have k_72 := z_cne c_72 (a := iv.toInt) (b := 0) rfl rfl
              refine zv_iload (j := 1) G dX10_turns_75 rfl ?_
              refine zv_goto (tgt := 82) G dX10_turns_77 (by decide) ?_
              refine zv_sub [2, 3, 4, 5, 6, 7, 8, 9, 10, 11, 1, 0] (lv' := [(0, za_O 19 93), (1, za_O 22 q), (2, za_I t), (3, za_I k), (4, za_I iv), (5, za_I v), (6, za_I fd), (7, za_I td), (8, za_I r_7), (9, za_I y9_32), (10, za_I r_55), (11, za_I r_65)]) rfl ?_
              exact J_82 r_55 σ hz
    refine zv_istore (lv' := [(9, za_I fd), (8, za_I r_7), (0, za_O 19 93), (1, za_O 22 q), (2, za_I t), (3, za_I k), (4, za_I iv), (5, za_I v), (6, za_I fd), (7, za_I td)]) G dX10_turns_30 (by decide) rfl ?_
    refine zv_sub [2, 3, 4, 5, 6, 7, 8, 9, 1, 0] (lv' := [(0, za_O 19 93), (1, za_O 22 q), (2, za_I t), (3, za_I k), (4, za_I iv), (5, za_I v), (6, za_I fd), (7, za_I td), (8, za_I r_7), (9, za_I fd)]) rfl ?_
    exact J_32 _ fd σ hz (by omega) (by first | assumption | omega) (Nat.lt_succ_self _)
  · refine zv_bipush (v := (-2)) G dX10_turns_17 (by decide) ?_
    exact zv_iret G hr dX10_turns_19 ⟨hz, fun h => absurd h (by decide)⟩
set_option maxHeartbeats 4000000 in
set_option maxRecDepth 100000 in
theorem zc_X10_setsOne (l : Launch) (E : za_E) (q : Nat) (t : Int32) (k : Int32) (v : Int32) (fd : Int32) (td : Int32) (σ0 : za_S) (hq : q ≠ 101 ∧ q ≠ 93) (hG : zG (σ0.1 q)) : zMi l E yX10_setsOne cX10_setsOne 8 (Option.some Jvm.ClassFile.FieldType.int) 7 170 [za_O 19 93, za_O 22 q, za_I t, za_I k, za_I v, za_I fd, za_I td] σ0 (fun r σ' => (0 ≤ r.toInt → 0 ≤ t.toInt ∧ t.toInt ≤ 1) ∧ zfa q σ0 σ') := by
  refine zMi_of [(0, za_O 19 93), (1, za_O 22 q), (2, za_I t), (3, za_I k), (4, za_I v), (5, za_I fd), (6, za_I td)] (by decide) rfl rfl (Nat.le_of_ble_eq_true rfl) ?_
  intro ho p e s m args below meth c G hr
  have h_q : za_kd q = 22 := za_okO (by decide) (List.forall_mem_cons.mp (List.forall_mem_cons.mp ho).2).1
  refine zv_gen (R9 := (zfx 101 σ0)) (zfx_r 101 σ0) (fun σ hz => ?_)
  refine zv_iload_n (j := 2) G dX10_setsOne_0 rfl rfl ?_
  refine zv_callSi (as := [za_I t]) G (zc_X10_isTable l E t σ ) zk_X10_isTable zm_1309 rfl ⟨(Nat.le_of_ble_eq_true rfl), (Nat.le_of_ble_eq_true rfl)⟩ ⟨Nat.zero_le _, Nat.zero_le _⟩ (Nat.le_of_ble_eq_true rfl) dX10_setsOne_1 (fun r_1 σ h_1 => ?_)
  obtain ⟨h_1, rfl⟩ := h_1
  refine zv_if_eq (tgt := 37) G dX10_setsOne_4 (by decide) (fun c_4 => ?_) (fun c_4 => ?_)
  · have f_1 := fun q9 => (h_1.2.mpr q9) c_4
    refine zv_iconst (v := (-1)) G dX10_setsOne_37 (by decide) ?_
    exact zv_iret G hr dX10_setsOne_38 ⟨(fun h => absurd h (by decide)), (zfa_x hq hG hz)⟩
  · have t_1 := h_1.2.mp c_4
    refine zv_iload_n (j := 3) G dX10_setsOne_7 rfl rfl ?_
    refine zv_callSi (as := [za_I k]) G (zc_X10_isKey l E k σ ) zk_X10_isKey zm_1371 rfl ⟨(Nat.le_of_ble_eq_true rfl), (Nat.le_of_ble_eq_true rfl)⟩ ⟨Nat.zero_le _, Nat.zero_le _⟩ (Nat.le_of_ble_eq_true rfl) dX10_setsOne_8 (fun r_8 σ h_8 => ?_)
    obtain ⟨h_8, rfl⟩ := h_8
    refine zv_if_eq (tgt := 37) G dX10_setsOne_11 (by decide) (fun c_11 => ?_) (fun c_11 => ?_)
    · have f_8 := fun q9 => (h_8.2.mpr q9) c_11
      refine zv_iconst (v := (-1)) G dX10_setsOne_37 (by decide) ?_
      exact zv_iret G hr dX10_setsOne_38 ⟨(fun h => absurd h (by decide)), (zfa_x hq hG hz)⟩
    · have t_8 := h_8.2.mp c_11
      refine zv_iload (j := 4) G dX10_setsOne_14 rfl ?_
      refine zv_i2l G dX10_setsOne_16 ?_
      refine zv_lconst (v := 0) G dX10_setsOne_17 (by decide) ?_
      refine zv_ldc2 (v := 99) G dX10_setsOne_18 zm_1326 ?_
      refine zv_callSi (as := [za_L v.toInt64, za_L 0, za_L 99]) G (zc_X10_in l E v.toInt64 0 99 σ ) zk_X10_in zm_1180 rfl ⟨(Nat.le_of_ble_eq_true rfl), (Nat.le_of_ble_eq_true rfl)⟩ ⟨Nat.zero_le _, Nat.zero_le _⟩ (Nat.le_of_ble_eq_true rfl) dX10_setsOne_21 (fun r_21 σ h_21 => ?_)
      obtain ⟨h_21, rfl⟩ := h_21
      refine zv_if_eq (tgt := 37) G dX10_setsOne_24 (by decide) (fun c_24 => ?_) (fun c_24 => ?_)
      · have f_21 := fun q9 => (h_21.2.mpr q9) c_24
        refine zv_iconst (v := (-1)) G dX10_setsOne_37 (by decide) ?_
        exact zv_iret G hr dX10_setsOne_38 ⟨(fun h => absurd h (by decide)), (zfa_x hq hG hz)⟩
      · have t_21 := h_21.2.mp c_24
        have v_24 := z_v99 t_21
        refine zv_iload (j := 5) G dX10_setsOne_27 rfl ?_
        refine zv_iload (j := 6) G dX10_setsOne_29 rfl ?_
        refine zv_callSi (as := [za_I fd, za_I td]) G (zc_X10_isPeriod l E fd td σ ) zk_X10_isPeriod zm_1375 rfl ⟨(Nat.le_of_ble_eq_true rfl), (Nat.le_of_ble_eq_true rfl)⟩ ⟨Nat.zero_le _, Nat.zero_le _⟩ (Nat.le_of_ble_eq_true rfl) dX10_setsOne_31 (fun r_31 σ h_31 => ?_)
        obtain ⟨h_31, rfl⟩ := h_31
        refine zv_if_ne (tgt := 39) G dX10_setsOne_34 (by decide) (fun c_34 => ?_) (fun c_34 => ?_)
        · have t_31 := h_31.2.mp c_34
          refine zv_aload_n (j := 0) G dX10_setsOne_39 rfl rfl ?_
          refine zv_aload_n (j := 1) G dX10_setsOne_40 rfl rfl ?_
          refine zv_iload_n (j := 2) G dX10_setsOne_41 rfl rfl ?_
          refine zv_iload_n (j := 3) G dX10_setsOne_42 rfl rfl ?_
          refine zv_iconst (v := 1) G dX10_setsOne_43 (by decide) ?_
          refine zv_iload (j := 4) G dX10_setsOne_44 rfl ?_
          refine zv_iload (j := 5) G dX10_setsOne_46 rfl ?_
          refine zv_iload (j := 6) G dX10_setsOne_48 rfl ?_
          have hG9 : zG (σ.1 q) := by rw [zfx_q hq hz]; exact hG
          refine zv_callVi (as := [za_O 22 q, za_I t, za_I k, za_I 1, za_I v, za_I fd, za_I td]) G (by decide) rfl rfl (zc_X10_turns l E q t k (1 : Int32) v fd td σ hq t_1 t_8 hG9.1 (zv_is v_24) t_31) zk_X10_turns zm_1407 rfl ⟨(Nat.le_of_ble_eq_true rfl), (Nat.le_of_ble_eq_true rfl)⟩ ⟨Nat.zero_le _, Nat.zero_le _⟩ (Nat.le_of_ble_eq_true rfl) dX10_setsOne_50 (fun r_50 σ h_50 => ?_)
          have hz : zfx 101 σ0 σ ∧ (0 ≤ r_50.toInt → ztr (σ0.1 q) (σ.1 101)) := ztu_c hq hz h_50
          refine zv_istore (lv' := [(7, za_I r_50), (0, za_O 19 93), (1, za_O 22 q), (2, za_I t), (3, za_I k), (4, za_I v), (5, za_I fd), (6, za_I td)]) G dX10_setsOne_53 (by decide) rfl ?_
          refine zv_iload (j := 0) G dX10_setsOne_55 rfl ?_
          refine zv_if_ge (tgt := 65) G dX10_setsOne_57 (by decide) (fun c_57 => ?_) (fun c_57 => ?_)
          · have k_57 := z_cle c_57 (a := 0) (b := r_50.toInt) rfl rfl
            refine zv_aload_n (j := 1) G dX10_setsOne_65 rfl rfl ?_
            refine zv_aload_n (j := 2) G dX10_setsOne_66 rfl rfl ?_
            refine zv_iload (j := 0) G dX10_setsOne_67 rfl ?_
            refine zv_callVi (as := [za_O 22 q, za_I r_50]) G (by decide) rfl rfl (zc_X10_settles l E q r_50 σ ) zk_X10_settles zm_1387 rfl ⟨(Nat.le_of_ble_eq_true rfl), (Nat.le_of_ble_eq_true rfl)⟩ ⟨Nat.zero_le _, Nat.zero_le _⟩ (Nat.le_of_ble_eq_true rfl) dX10_setsOne_69 (fun r_69 σ h_69 => ?_)
            have hz := zfa_s hq hG hz.1 (ztr_GI (hz.2 (by omega)) hG.2.1) h_69
            exact zv_iret G hr dX10_setsOne_72 ⟨fun _ => t_1, by first | exact hz | exact zfa_x hq hG hz.1⟩
          · have k_57 := z_cnle c_57 (a := 0) (b := r_50.toInt) rfl rfl
            refine zv_iload (j := 0) G dX10_setsOne_60 rfl ?_
            refine zv_goto (tgt := 72) G dX10_setsOne_62 (by decide) ?_
            exact zv_iret G hr dX10_setsOne_72 ⟨fun _ => t_1, by first | exact hz | exact zfa_x hq hG hz.1⟩
        · have f_31 := fun q9 => (h_31.2.mpr q9) c_34
          refine zv_iconst (v := (-1)) G dX10_setsOne_37 (by decide) ?_
          exact zv_iret G hr dX10_setsOne_38 ⟨(fun h => absurd h (by decide)), (zfa_x hq hG hz)⟩
set_option maxHeartbeats 4000000 in
set_option maxRecDepth 100000 in
theorem zc_X10_refersOne (l : Launch) (E : za_E) (q : Nat) (k : Int32) (v : Int32) (fd : Int32) (td : Int32) (σ0 : za_S) (hq : q ≠ 101 ∧ q ≠ 93) (hG : zG (σ0.1 q)) : zMi l E yX10_refersOne cX10_refersOne 7 (Option.some Jvm.ClassFile.FieldType.int) 7 170 [za_O 19 93, za_O 22 q, za_I k, za_I v, za_I fd, za_I td] σ0 (fun r σ' => zfa q σ0 σ') := by
  refine zMi_of [(0, za_O 19 93), (1, za_O 22 q), (2, za_I k), (3, za_I v), (4, za_I fd), (5, za_I td)] (by decide) rfl rfl (Nat.le_of_ble_eq_true rfl) ?_
  intro ho p e s m args below meth c G hr
  have h_q : za_kd q = 22 := za_okO (by decide) (List.forall_mem_cons.mp (List.forall_mem_cons.mp ho).2).1
  refine zv_gen (R9 := (zfx 101 σ0)) (zfx_r 101 σ0) (fun σ hz => ?_)
  refine zv_iload_n (j := 2) G dX10_refersOne_0 rfl rfl ?_
  refine zv_callSi (as := [za_I k]) G (zc_X10_isKey l E k σ ) zk_X10_isKey zm_1371 rfl ⟨(Nat.le_of_ble_eq_true rfl), (Nat.le_of_ble_eq_true rfl)⟩ ⟨Nat.zero_le _, Nat.zero_le _⟩ (Nat.le_of_ble_eq_true rfl) dX10_refersOne_1 (fun r_1 σ h_1 => ?_)
  obtain ⟨h_1, rfl⟩ := h_1
  refine zv_if_eq (tgt := 29) G dX10_refersOne_4 (by decide) (fun c_4 => ?_) (fun c_4 => ?_)
  · have f_1 := fun q9 => (h_1.2.mpr q9) c_4
    refine zv_iconst (v := (-1)) G dX10_refersOne_29 (by decide) ?_
    exact zv_iret G hr dX10_refersOne_30 (zfa_x hq hG hz)
  · have t_1 := h_1.2.mp c_4
    refine zv_iload_n (j := 3) G dX10_refersOne_7 rfl rfl ?_
    refine zv_i2l G dX10_refersOne_8 ?_
    refine zv_lconst (v := 0) G dX10_refersOne_9 (by decide) ?_
    refine zv_ldc2 (v := 10) G dX10_refersOne_10 zm_1430 ?_
    refine zv_callSi (as := [za_L v.toInt64, za_L 0, za_L 10]) G (zc_X10_in l E v.toInt64 0 10 σ ) zk_X10_in zm_1180 rfl ⟨(Nat.le_of_ble_eq_true rfl), (Nat.le_of_ble_eq_true rfl)⟩ ⟨Nat.zero_le _, Nat.zero_le _⟩ (Nat.le_of_ble_eq_true rfl) dX10_refersOne_13 (fun r_13 σ h_13 => ?_)
    obtain ⟨h_13, rfl⟩ := h_13
    refine zv_if_eq (tgt := 29) G dX10_refersOne_16 (by decide) (fun c_16 => ?_) (fun c_16 => ?_)
    · have f_13 := fun q9 => (h_13.2.mpr q9) c_16
      refine zv_iconst (v := (-1)) G dX10_refersOne_29 (by decide) ?_
      exact zv_iret G hr dX10_refersOne_30 (zfa_x hq hG hz)
    · have t_13 := h_13.2.mp c_16
      have v_16 := z_v10 t_13
      refine zv_iload (j := 4) G dX10_refersOne_19 rfl ?_
      refine zv_iload (j := 5) G dX10_refersOne_21 rfl ?_
      refine zv_callSi (as := [za_I fd, za_I td]) G (zc_X10_isPeriod l E fd td σ ) zk_X10_isPeriod zm_1375 rfl ⟨(Nat.le_of_ble_eq_true rfl), (Nat.le_of_ble_eq_true rfl)⟩ ⟨Nat.zero_le _, Nat.zero_le _⟩ (Nat.le_of_ble_eq_true rfl) dX10_refersOne_23 (fun r_23 σ h_23 => ?_)
      obtain ⟨h_23, rfl⟩ := h_23
      refine zv_if_ne (tgt := 31) G dX10_refersOne_26 (by decide) (fun c_26 => ?_) (fun c_26 => ?_)
      · have t_23 := h_23.2.mp c_26
        refine zv_aload_n (j := 0) G dX10_refersOne_31 rfl rfl ?_
        refine zv_aload_n (j := 1) G dX10_refersOne_32 rfl rfl ?_
        refine zv_iconst (v := 0) G dX10_refersOne_33 (by decide) ?_
        refine zv_iload_n (j := 2) G dX10_refersOne_34 rfl rfl ?_
        refine zv_iconst (v := 0) G dX10_refersOne_35 (by decide) ?_
        refine zv_iload_n (j := 3) G dX10_refersOne_36 rfl rfl ?_
        refine zv_iload (j := 4) G dX10_refersOne_37 rfl ?_
        refine zv_iload (j := 5) G dX10_refersOne_39 rfl ?_
        have hG9 : zG (σ.1 q) := by rw [zfx_q hq hz]; exact hG
        refine zv_callVi (as := [za_O 22 q, za_I 0, za_I k, za_I 0, za_I v, za_I fd, za_I td]) G (by decide) rfl rfl (zc_X10_turns l E q (0 : Int32) k (0 : Int32) v fd td σ hq (by decide) t_1 hG9.1 (zv_ir v_16) t_23) zk_X10_turns zm_1407 rfl ⟨(Nat.le_of_ble_eq_true rfl), (Nat.le_of_ble_eq_true rfl)⟩ ⟨Nat.zero_le _, Nat.zero_le _⟩ (Nat.le_of_ble_eq_true rfl) dX10_refersOne_41 (fun r_41 σ h_41 => ?_)
        have hz : zfx 101 σ0 σ ∧ (0 ≤ r_41.toInt → ztr (σ0.1 q) (σ.1 101)) := ztu_c hq hz h_41
        refine zv_istore (lv' := [(6, za_I r_41), (0, za_O 19 93), (1, za_O 22 q), (2, za_I k), (3, za_I v), (4, za_I fd), (5, za_I td)]) G dX10_refersOne_44 (by decide) rfl ?_
        refine zv_iload (j := 0) G dX10_refersOne_46 rfl ?_
        refine zv_if_ge (tgt := 56) G dX10_refersOne_48 (by decide) (fun c_48 => ?_) (fun c_48 => ?_)
        · have k_48 := z_cle c_48 (a := 0) (b := r_41.toInt) rfl rfl
          refine zv_aload_n (j := 1) G dX10_refersOne_56 rfl rfl ?_
          refine zg_X10_124 G dX10_refersOne_57 ?_
          refine zv_callSi (as := [za_O 22 101]) G (zc_X10_isHeld l E 101 σ ) zk_X10_isHeld zm_1431 rfl ⟨(Nat.le_of_ble_eq_true rfl), (Nat.le_of_ble_eq_true rfl)⟩ ⟨Nat.zero_le _, Nat.zero_le _⟩ (Nat.le_of_ble_eq_true rfl) dX10_refersOne_60 (fun r_60 σ h_60 => ?_)
          obtain ⟨h_60, rfl⟩ := h_60
          refine zv_if_eq (tgt := 76) G dX10_refersOne_63 (by decide) (fun c_63 => ?_) (fun c_63 => ?_)
          · refine zv_bipush (v := (-3)) G dX10_refersOne_76 (by decide) ?_
            exact zv_iret G hr dX10_refersOne_78 (by first | exact hz | exact zfa_x hq hG hz.1)
          · refine zv_aload_n (j := 1) G dX10_refersOne_66 rfl rfl ?_
            refine zv_aload_n (j := 2) G dX10_refersOne_67 rfl rfl ?_
            refine zv_iload (j := 0) G dX10_refersOne_68 rfl ?_
            refine zv_callVi (as := [za_O 22 q, za_I r_41]) G (by decide) rfl rfl (zc_X10_settles l E q r_41 σ ) zk_X10_settles zm_1387 rfl ⟨(Nat.le_of_ble_eq_true rfl), (Nat.le_of_ble_eq_true rfl)⟩ ⟨Nat.zero_le _, Nat.zero_le _⟩ (Nat.le_of_ble_eq_true rfl) dX10_refersOne_70 (fun r_70 σ h_70 => ?_)
            have hz := zfa_s hq hG hz.1 (ztr_GI (hz.2 (by omega)) hG.2.1) h_70
            refine zv_goto (tgt := 78) G dX10_refersOne_73 (by decide) ?_
            exact zv_iret G hr dX10_refersOne_78 (by first | exact hz | exact zfa_x hq hG hz.1)
        · have k_48 := z_cnle c_48 (a := 0) (b := r_41.toInt) rfl rfl
          refine zv_iload (j := 0) G dX10_refersOne_51 rfl ?_
          refine zv_goto (tgt := 78) G dX10_refersOne_53 (by decide) ?_
          exact zv_iret G hr dX10_refersOne_78 (by first | exact hz | exact zfa_x hq hG hz.1)
      · have f_23 := fun q9 => (h_23.2.mpr q9) c_26
        refine zv_iconst (v := (-1)) G dX10_refersOne_29 (by decide) ?_
        exact zv_iret G hr dX10_refersOne_30 (zfa_x hq hG hz)
set_option maxHeartbeats 4000000 in
set_option maxRecDepth 100000 in
theorem zc_X10_takesOut (l : Launch) (E : za_E) (q : Nat) (t : Int32) (k : Int32) (fd : Int32) (td : Int32) (σ0 : za_S) (hq : q ≠ 93) (ht : 0 ≤ t.toInt ∧ t.toInt ≤ 1) (hk : 0 ≤ k.toInt ∧ k.toInt ≤ 9) (hB : zGB (σ0.1 q)) (hI : zGI (σ0.1 q)) (hp : (0 ≤ fd.toInt ∧ fd.toInt ≤ 99) ∧ fd.toInt < td.toInt ∧ td.toInt ≤ 100) : zMv l E yX10_takesOut cX10_takesOut 7 (Option.none : Option Jvm.ClassFile.FieldType) 5 112 [za_O 19 93, za_O 22 q, za_I t, za_I k, za_I fd, za_I td] σ0 (fun σ' => zfx q σ0 σ' ∧ zGB (σ'.1 q) ∧ zGI (σ'.1 q)) := by
  refine zMv_of [(0, za_O 19 93), (1, za_O 22 q), (2, za_I t), (3, za_I k), (4, za_I fd), (5, za_I td)] (by decide) rfl rfl (Nat.le_of_ble_eq_true rfl) ?_
  intro ho p e s m args below meth c G hr
  have h_q : za_kd q = 22 := za_okO (by decide) (List.forall_mem_cons.mp (List.forall_mem_cons.mp ho).2).1
  refine zv_gen (R9 := (zt1 q σ0)) (zt1_0 q σ0) (fun σ hz => ?_)
  refine zv_aload_n (j := 0) G dX10_takesOut_0 rfl rfl ?_
  refine zv_iconst (v := 0) G dX10_takesOut_1 (by decide) ?_
  refine zp_X10_265 G dX10_takesOut_2 ?_
  refine zv_gen (R9 := (zt1 q σ0)) (zt1_w hq hz) (fun σ hz => ?_)
  refine zv_iload (j := 4) G dX10_takesOut_5 rfl ?_
  have J_9 : ∀ (n : Nat) (y6_9 : Int32) (σ : za_S) (hz : (zt1 q σ0) σ) (g_9 : fd.toInt ≤ y6_9.toInt) (i6_9 : 0 ≤ y6_9.toInt) (hn_9 : (2147483648 - y6_9.toInt).toNat < n), zV p l e (zRm 5 112) s m args below meth c E (za_A E) 7 0 0 (MQ below (va_Qv (fun σ' => zfx q σ0 σ' ∧ zGB (σ'.1 q) ∧ zGI (σ'.1 q)) (zB E) (za_A E)) args s 0 0 (za_A E)) 9 [(0, za_O 19 93), (1, za_O 22 q), (2, za_I t), (3, za_I k), (4, za_I fd), (5, za_I td), (6, za_I y6_9)] [] σ := by
    intro n
    induction n with
    | zero => intro y6_9 σ hz g_9 i6_9 hn; exact absurd hn (Nat.not_lt_zero _)
    | succ n ih_9 =>
      intro y6_9 σ hz g_9 i6_9 hn_9
      refine zv_iload (j := 6) G dX10_takesOut_9 rfl ?_
      refine zv_iload (j := 5) G dX10_takesOut_11 rfl ?_
      refine zv_icmp_ge (tgt := 42) G dX10_takesOut_13 (by decide) (fun c_13 => ?_) (fun c_13 => ?_)
      · have k_13 := z_cle c_13 (a := td.toInt) (b := y6_9.toInt) rfl rfl
        refine zv_aload_n (j := 1) G dX10_takesOut_42 rfl rfl ?_
        refine zv_iload_n (j := 2) G dX10_takesOut_43 rfl rfl ?_
        refine zv_iload_n (j := 3) G dX10_takesOut_44 rfl rfl ?_
        refine zv_iload (j := 5) G dX10_takesOut_45 rfl ?_
        refine zv_iconst (v := 1) G dX10_takesOut_47 (by decide) ?_
        refine zv_isub G dX10_takesOut_48 ?_
        refine zv_callSi (as := [za_O 22 q, za_I t, za_I k, za_I (td - 1)]) G (zc_X10_isThere l E q t k (td - 1) σ ht hk) zk_X10_isThere zm_1320 rfl ⟨(Nat.le_of_ble_eq_true rfl), (Nat.le_of_ble_eq_true rfl)⟩ ⟨Nat.zero_le _, Nat.zero_le _⟩ (Nat.le_of_ble_eq_true rfl) dX10_takesOut_49 (fun r_49 σ h_49 => ?_)
        obtain ⟨h_49, rfl⟩ := h_49
        refine zv_if_eq (tgt := 63) G dX10_takesOut_52 (by decide) (fun c_52 => ?_) (fun c_52 => ?_)
        · have f_49 := fun q9 => (h_49.2.mpr q9) c_52
          have hz : zt3 q t k fd td fd σ0 σ := zt3_a ht hk hp hB hI hz f_49
          refine zv_iload (j := 4) G dX10_takesOut_63 rfl ?_
          have J_67 : ∀ (n : Nat) (y6_67 : Int32) (σ : za_S) (hz : zt3 q t k fd td y6_67 σ0 σ) (g_67 : fd.toInt ≤ y6_67.toInt ∧ y6_67.toInt ≤ td.toInt) (i6_67 : 0 ≤ y6_67.toInt) (hn_67 : (2147483648 - y6_67.toInt).toNat < n), zV p l e (zRm 5 112) s m args below meth c E (za_A E) 7 0 0 (MQ below (va_Qv (fun σ' => zfx q σ0 σ' ∧ zGB (σ'.1 q) ∧ zGI (σ'.1 q)) (zB E) (za_A E)) args s 0 0 (za_A E)) 67 [(1, za_O 22 q), (2, za_I t), (3, za_I k), (5, za_I td), (6, za_I y6_67)] [] σ := by
            intro n
            induction n with
            | zero => intro y6_67 σ hz g_67 i6_67 hn; exact absurd hn (Nat.not_lt_zero _)
            | succ n ih_67 =>
              intro y6_67 σ hz g_67 i6_67 hn_67
              refine zv_iload (j := 4) G dX10_takesOut_67 rfl ?_
              refine zv_iload (j := 3) G dX10_takesOut_69 rfl ?_
              refine zv_icmp_ge (tgt := 90) G dX10_takesOut_71 (by decide) (fun c_71 => ?_) (fun c_71 => ?_)
              · have k_71 := z_cle c_71 (a := td.toInt) (b := y6_67.toInt) rfl rfl
                have e9 : y6_67 = td := (z_eq _ _).mpr (by omega)
                rw [e9] at hz
                exact zv_vret G hr dX10_takesOut_90 (zt3_G ht hk hp hI hz)
              · have k_71 := z_cnle c_71 (a := td.toInt) (b := y6_67.toInt) rfl rfl
                refine zv_aload_n (j := 0) G dX10_takesOut_74 rfl rfl ?_
                refine zv_iload_n (j := 1) G dX10_takesOut_75 rfl rfl ?_
                refine zv_iload_n (j := 2) G dX10_takesOut_76 rfl rfl ?_
                refine zv_iload (j := 4) G dX10_takesOut_77 rfl ?_
                refine zv_callSi (as := [za_I t, za_I k, za_I y6_67]) G (zc_X10_on l E t k y6_67 σ ) zk_X10_on zm_1327 rfl ⟨(Nat.le_of_ble_eq_true rfl), (Nat.le_of_ble_eq_true rfl)⟩ ⟨Nat.zero_le _, Nat.zero_le _⟩ (Nat.le_of_ble_eq_true rfl) dX10_takesOut_79 (fun r_79 σ h_79 => ?_)
                obtain ⟨h_79, rfl⟩ := h_79
                refine zv_iconst (v := 0) G dX10_takesOut_82 (by decide) ?_
                refine zv_iast G (by decide) rfl (fun _ => rfl) (z_onI ht hk (by omega) h_79).1 dX10_takesOut_83 ?_
                refine zv_gen (R9 := (zt3 q t k fd td (y6_67 + 1) σ0)) (zt3_s hq ht hk hp (by omega) hz (z_onI ht hk (by omega) h_79).2) (fun σ hz => ?_)
                obtain ⟨x_84, e_84⟩ : ∃ y : Int32, y = y6_67 + 1 := ⟨_, rfl⟩
                refine zv_iinc (j := 4) (v := x_84) (lv' := [(6, za_I x_84), (1, za_O 22 q), (2, za_I t), (3, za_I k), (5, za_I td)]) G dX10_takesOut_84 rfl (by rw [e_84]; rfl) (by decide) rfl ?_
                first | have q_84 := z_inc9 (by omega) e_84 | skip
                refine zv_goto (tgt := 67) G dX10_takesOut_87 (by decide) ?_
                refine zv_sub [1, 2, 3, 4, 0] (lv' := [(1, za_O 22 q), (2, za_I t), (3, za_I k), (5, za_I td), (6, za_I x_84)]) rfl ?_
                exact ih_67 x_84 σ (zt3_n hz q_84) (by omega) (by have := z_inc c_71 e_84; omega) (z_meas c_71 e_84 hn_67)
          refine zv_istore (lv' := [(6, za_I fd), (0, za_O 19 93), (1, za_O 22 q), (2, za_I t), (3, za_I k), (4, za_I fd), (5, za_I td)]) G dX10_takesOut_65 (by decide) rfl ?_
          refine zv_sub [2, 3, 4, 6, 0] (lv' := [(1, za_O 22 q), (2, za_I t), (3, za_I k), (5, za_I td), (6, za_I fd)]) rfl ?_
          exact J_67 _ fd σ hz (by omega) (by first | assumption | omega) (Nat.lt_succ_self _)
        · have t_49 := h_49.2.mp c_52
          refine zv_aload_n (j := 1) G dX10_takesOut_55 rfl rfl ?_
          refine zv_iload_n (j := 2) G dX10_takesOut_56 rfl rfl ?_
          refine zv_iload_n (j := 3) G dX10_takesOut_57 rfl rfl ?_
          refine zv_iload (j := 5) G dX10_takesOut_58 rfl ?_
          refine zv_callSv (as := [za_O 22 q, za_I t, za_I k, za_I td]) G (zc_X10_splits l E q t k td σ ht hk) zk_X10_splits zm_1411 rfl ⟨(Nat.le_of_ble_eq_true rfl), (Nat.le_of_ble_eq_true rfl)⟩ ⟨Nat.zero_le _, Nat.zero_le _⟩ (Nat.le_of_ble_eq_true rfl) dX10_takesOut_60 (fun σ h_60 => ?_)
          have hz : zt3 q t k fd td fd σ0 σ := zt3_b hq ht hk hp hB hI hz t_49 h_60
          refine zv_iload (j := 4) G dX10_takesOut_63 rfl ?_
          have J_67 : ∀ (n : Nat) (y6_67 : Int32) (σ : za_S) (hz : zt3 q t k fd td y6_67 σ0 σ) (g_67 : fd.toInt ≤ y6_67.toInt ∧ y6_67.toInt ≤ td.toInt) (i6_67 : 0 ≤ y6_67.toInt) (hn_67 : (2147483648 - y6_67.toInt).toNat < n), zV p l e (zRm 5 112) s m args below meth c E (za_A E) 7 0 0 (MQ below (va_Qv (fun σ' => zfx q σ0 σ' ∧ zGB (σ'.1 q) ∧ zGI (σ'.1 q)) (zB E) (za_A E)) args s 0 0 (za_A E)) 67 [(1, za_O 22 q), (2, za_I t), (3, za_I k), (5, za_I td), (6, za_I y6_67)] [] σ := by
            intro n
            induction n with
            | zero => intro y6_67 σ hz g_67 i6_67 hn; exact absurd hn (Nat.not_lt_zero _)
            | succ n ih_67 =>
              intro y6_67 σ hz g_67 i6_67 hn_67
              refine zv_iload (j := 4) G dX10_takesOut_67 rfl ?_
              refine zv_iload (j := 3) G dX10_takesOut_69 rfl ?_
              refine zv_icmp_ge (tgt := 90) G dX10_takesOut_71 (by decide) (fun c_71 => ?_) (fun c_71 => ?_)
              · have k_71 := z_cle c_71 (a := td.toInt) (b := y6_67.toInt) rfl rfl
                have e9 : y6_67 = td := (z_eq _ _).mpr (by omega)
                rw [e9] at hz
                exact zv_vret G hr dX10_takesOut_90 (zt3_G ht hk hp hI hz)
              · have k_71 := z_cnle c_71 (a := td.toInt) (b := y6_67.toInt) rfl rfl
                refine zv_aload_n (j := 0) G dX10_takesOut_74 rfl rfl ?_
                refine zv_iload_n (j := 1) G dX10_takesOut_75 rfl rfl ?_
                refine zv_iload_n (j := 2) G dX10_takesOut_76 rfl rfl ?_
                refine zv_iload (j := 4) G dX10_takesOut_77 rfl ?_
                refine zv_callSi (as := [za_I t, za_I k, za_I y6_67]) G (zc_X10_on l E t k y6_67 σ ) zk_X10_on zm_1327 rfl ⟨(Nat.le_of_ble_eq_true rfl), (Nat.le_of_ble_eq_true rfl)⟩ ⟨Nat.zero_le _, Nat.zero_le _⟩ (Nat.le_of_ble_eq_true rfl) dX10_takesOut_79 (fun r_79 σ h_79 => ?_)
                obtain ⟨h_79, rfl⟩ := h_79
                refine zv_iconst (v := 0) G dX10_takesOut_82 (by decide) ?_
                refine zv_iast G (by decide) rfl (fun _ => rfl) (z_onI ht hk (by omega) h_79).1 dX10_takesOut_83 ?_
                refine zv_gen (R9 := (zt3 q t k fd td (y6_67 + 1) σ0)) (zt3_s hq ht hk hp (by omega) hz (z_onI ht hk (by omega) h_79).2) (fun σ hz => ?_)
                obtain ⟨x_84, e_84⟩ : ∃ y : Int32, y = y6_67 + 1 := ⟨_, rfl⟩
                refine zv_iinc (j := 4) (v := x_84) (lv' := [(6, za_I x_84), (1, za_O 22 q), (2, za_I t), (3, za_I k), (5, za_I td)]) G dX10_takesOut_84 rfl (by rw [e_84]; rfl) (by decide) rfl ?_
                first | have q_84 := z_inc9 (by omega) e_84 | skip
                refine zv_goto (tgt := 67) G dX10_takesOut_87 (by decide) ?_
                refine zv_sub [1, 2, 3, 4, 0] (lv' := [(1, za_O 22 q), (2, za_I t), (3, za_I k), (5, za_I td), (6, za_I x_84)]) rfl ?_
                exact ih_67 x_84 σ (zt3_n hz q_84) (by omega) (by have := z_inc c_71 e_84; omega) (z_meas c_71 e_84 hn_67)
          refine zv_istore (lv' := [(6, za_I fd), (0, za_O 19 93), (1, za_O 22 q), (2, za_I t), (3, za_I k), (4, za_I fd), (5, za_I td)]) G dX10_takesOut_65 (by decide) rfl ?_
          refine zv_sub [2, 3, 4, 6, 0] (lv' := [(1, za_O 22 q), (2, za_I t), (3, za_I k), (5, za_I td), (6, za_I fd)]) rfl ?_
          exact J_67 _ fd σ hz (by omega) (by first | assumption | omega) (Nat.lt_succ_self _)
      · have k_13 := z_cnle c_13 (a := td.toInt) (b := y6_9.toInt) rfl rfl
        refine zv_aload_n (j := 0) G dX10_takesOut_16 rfl rfl ?_
        refine zv_dupO G dX10_takesOut_17 ?_
        refine zg_X10_265 G dX10_takesOut_18 ?_
        refine zv_aload_n (j := 1) G dX10_takesOut_21 rfl rfl ?_
        refine zv_iload_n (j := 2) G dX10_takesOut_22 rfl rfl ?_
        refine zv_iload_n (j := 3) G dX10_takesOut_23 rfl rfl ?_
        refine zv_iload (j := 6) G dX10_takesOut_24 rfl ?_
        refine zv_callSi (as := [za_O 22 q, za_I t, za_I k, za_I y6_9]) G (zc_X10_isThere l E q t k y6_9 σ (by first | assumption | decide | omega) (by first | assumption | decide | omega)) zk_X10_isThere zm_1320 rfl ⟨(Nat.le_of_ble_eq_true rfl), (Nat.le_of_ble_eq_true rfl)⟩ ⟨Nat.zero_le _, Nat.zero_le _⟩ (Nat.le_of_ble_eq_true rfl) dX10_takesOut_26 (fun r_26 σ h_26 => ?_)
        obtain ⟨h_26, rfl⟩ := h_26
        refine zv_callSi (as := [za_I r_26]) G (zc_X10_flag l E r_26 σ ) zk_X10_flag zm_1351 rfl ⟨(Nat.le_of_ble_eq_true rfl), (Nat.le_of_ble_eq_true rfl)⟩ ⟨Nat.zero_le _, Nat.zero_le _⟩ (Nat.le_of_ble_eq_true rfl) dX10_takesOut_29 (fun r_29 σ h_29 => ?_)
        obtain ⟨h_29, rfl⟩ := h_29
        have g_29 := z_flagT h_29.2 (a := r_26.toInt) rfl
        refine zv_iadd G dX10_takesOut_32 ?_
        refine zp_X10_265 G dX10_takesOut_33 ?_
        refine zv_gen (R9 := (zt1 q σ0)) (zt1_w hq hz) (fun σ hz => ?_)
        obtain ⟨x_36, e_36⟩ : ∃ y : Int32, y = y6_9 + 1 := ⟨_, rfl⟩
        refine zv_iinc (j := 6) (v := x_36) (lv' := [(6, za_I x_36), (0, za_O 19 93), (1, za_O 22 q), (2, za_I t), (3, za_I k), (4, za_I fd), (5, za_I td)]) G dX10_takesOut_36 rfl (by rw [e_36]; rfl) (by decide) rfl ?_
        first | have q_36 := z_inc9 (by omega) e_36 | skip
        refine zv_goto (tgt := 9) G dX10_takesOut_39 (by decide) ?_
        refine zv_sub [1, 2, 3, 4, 5, 6, 0] (lv' := [(0, za_O 19 93), (1, za_O 22 q), (2, za_I t), (3, za_I k), (4, za_I fd), (5, za_I td), (6, za_I x_36)]) rfl ?_
        exact ih_9 x_36 σ hz (by omega) (by have := z_inc c_13 e_36; omega) (z_meas c_13 e_36 hn_9)
  refine zv_istore (lv' := [(6, za_I fd), (0, za_O 19 93), (1, za_O 22 q), (2, za_I t), (3, za_I k), (4, za_I fd), (5, za_I td)]) G dX10_takesOut_7 (by decide) rfl ?_
  refine zv_sub [1, 2, 3, 4, 5, 6, 0] (lv' := [(0, za_O 19 93), (1, za_O 22 q), (2, za_I t), (3, za_I k), (4, za_I fd), (5, za_I td), (6, za_I fd)]) rfl ?_
  exact J_9 _ fd σ hz (by omega) (by first | assumption | omega) (Nat.lt_succ_self _)
set_option maxHeartbeats 4000000 in
set_option maxRecDepth 100000 in
theorem zc_X10_follows (l : Launch) (E : za_E) (q : Nat) (σ0 : za_S) (hq : q ≠ 93) (hB : zGB (σ0.1 q)) (hI : zGI (σ0.1 q)) : zMv l E yX10_follows cX10_follows 6 (Option.none : Option Jvm.ClassFile.FieldType) 5 112 [za_O 19 93, za_O 22 q] σ0 (fun σ' => zfx q σ0 σ' ∧ zGB (σ'.1 q) ∧ zGI (σ'.1 q)) := by
  refine zMv_of [(0, za_O 19 93), (1, za_O 22 q)] (by decide) rfl rfl (Nat.le_of_ble_eq_true rfl) ?_
  intro ho p e s m args below meth c G hr
  have h_q : za_kd q = 22 := za_okO (by decide) (List.forall_mem_cons.mp (List.forall_mem_cons.mp ho).2).1
  refine zv_gen (R9 := (zt1 q σ0)) (zt1_0 q σ0) (fun σ hz => ?_)
  refine zv_aload_n (j := 0) G dX10_follows_0 rfl rfl ?_
  refine zv_iconst (v := 0) G dX10_follows_1 (by decide) ?_
  refine zp_X10_262 G dX10_follows_2 ?_
  refine zv_gen (R9 := (zt1 q σ0)) (zt1_v hq hz) (fun σ hz => ?_)
  refine zv_iconst (v := 0) G dX10_follows_5 (by decide) ?_
  have J_7 : ∀ (n : Nat) (y2_7 : Int32) (σ : za_S) (hz : zfo q (100 * y2_7.toInt.toNat) 0 σ0 σ) (i2_7 : 0 ≤ y2_7.toInt) (u2_7 : y2_7.toInt ≤ 10) (hn_7 : (2147483648 - y2_7.toInt).toNat < n), zV p l e (zRm 5 112) s m args below meth c E (za_A E) 6 0 0 (MQ below (va_Qv (fun σ' => zfx q σ0 σ' ∧ zGB (σ'.1 q) ∧ zGI (σ'.1 q)) (zB E) (za_A E)) args s 0 0 (za_A E)) 7 [(0, za_O 19 93), (1, za_O 22 q), (2, za_I y2_7)] [] σ := by
    intro n
    induction n with
    | zero => intro y2_7 σ hz i2_7 u2_7 hn; exact absurd hn (Nat.not_lt_zero _)
    | succ n ih_7 =>
      intro y2_7 σ hz i2_7 u2_7 hn_7
      refine zv_iload_n (j := 2) G dX10_follows_7 rfl rfl ?_
      refine zv_bipush (v := 10) G dX10_follows_8 (by decide) ?_
      refine zv_icmp_ge (tgt := 177) G dX10_follows_10 (by decide) (fun c_10 => ?_) (fun c_10 => ?_)
      · have k_10 := z_cle c_10 (a := 10) (b := y2_7.toInt) rfl rfl
        exact zv_vret G hr dX10_follows_177 (zfo_G hB hI (by rw [show 100 * y2_7.toInt.toNat = 1000 by omega] at hz; exact hz))
      · have b_10 : 0 ≤ y2_7.toInt ∧ y2_7.toInt < 10 := ⟨i2_7, z_ltk c_10 rfl⟩
        have k_10 := z_cnle c_10 (a := 10) (b := y2_7.toInt) rfl rfl
        refine zv_iconst (v := 0) G dX10_follows_13 (by decide) ?_
        refine zv_istore_n (lv' := [(3, za_I 0), (0, za_O 19 93), (1, za_O 22 q), (2, za_I y2_7)]) G dX10_follows_14 rfl (by decide) rfl ?_
        refine zv_iconst (v := 0) G dX10_follows_15 (by decide) ?_
        have J_18 : ∀ (n : Nat) (y3_18 : Int32) (y4_18 : Int32) (σ : za_S) (hz : zfo q (100 * y2_7.toInt.toNat + y4_18.toInt.toNat) y3_18 σ0 σ) (b3_18 : y3_18 = 0 ∨ y3_18 = 1) (i4_18 : 0 ≤ y4_18.toInt) (u4_18 : y4_18.toInt ≤ 100) (hn_18 : (2147483648 - y4_18.toInt).toNat < n), zV p l e (zRm 5 112) s m args below meth c E (za_A E) 6 0 0 (MQ below (va_Qv (fun σ' => zfx q σ0 σ' ∧ zGB (σ'.1 q) ∧ zGI (σ'.1 q)) (zB E) (za_A E)) args s 0 0 (za_A E)) 18 [(0, za_O 19 93), (1, za_O 22 q), (2, za_I y2_7), (3, za_I y3_18), (4, za_I y4_18)] [] σ := by
          intro n
          induction n with
          | zero => intro y3_18 y4_18 σ hz b3_18 i4_18 u4_18 hn; exact absurd hn (Nat.not_lt_zero _)
          | succ n ih_18 =>
            intro y3_18 y4_18 σ hz b3_18 i4_18 u4_18 hn_18
            refine zv_iload (j := 4) G dX10_follows_18 rfl ?_
            refine zv_bipush (v := 100) G dX10_follows_20 (by decide) ?_
            refine zv_icmp_ge (tgt := 171) G dX10_follows_22 (by decide) (fun c_22 => ?_) (fun c_22 => ?_)
            · have k_22 := z_cle c_22 (a := 100) (b := y4_18.toInt) rfl rfl
              obtain ⟨x_171, e_171⟩ : ∃ y : Int32, y = y2_7 + 1 := ⟨_, rfl⟩
              refine zv_iinc (j := 2) (v := x_171) (lv' := [(2, za_I x_171), (0, za_O 19 93), (1, za_O 22 q), (3, za_I y3_18), (4, za_I y4_18)]) G dX10_follows_171 rfl (by rw [e_171]; rfl) (by decide) rfl ?_
              first | have q_171 := z_inc9 (by omega) e_171 | skip
              refine zv_goto (tgt := 7) G dX10_follows_174 (by decide) ?_
              refine zv_sub [1, 2, 0] (lv' := [(0, za_O 19 93), (1, za_O 22 q), (2, za_I x_171)]) rfl ?_
              exact ih_7 x_171 σ (zfo_r hz (by omega) (by omega)) (by have := z_inc c_10 e_171; omega) (by have := z_inc9 (by omega) e_171; omega) (z_meas c_10 e_171 hn_7)
            · have b_22 : 0 ≤ y4_18.toInt ∧ y4_18.toInt < 100 := ⟨i4_18, z_ltk c_22 rfl⟩
              have k_22 := z_cnle c_22 (a := 100) (b := y4_18.toInt) rfl rfl
              refine zv_aload_n (j := 1) G dX10_follows_25 rfl rfl ?_
              refine zv_iconst (v := 0) G dX10_follows_26 (by decide) ?_
              refine zv_iload_n (j := 2) G dX10_follows_27 rfl rfl ?_
              refine zv_iload (j := 4) G dX10_follows_28 rfl ?_
              refine zv_callSi (as := [za_O 22 q, za_I 0, za_I y2_7, za_I y4_18]) G (zc_X10_isThere l E q (0 : Int32) y2_7 y4_18 σ (by first | assumption | decide | omega) (by first | assumption | decide | omega)) zk_X10_isThere zm_1320 rfl ⟨(Nat.le_of_ble_eq_true rfl), (Nat.le_of_ble_eq_true rfl)⟩ ⟨Nat.zero_le _, Nat.zero_le _⟩ (Nat.le_of_ble_eq_true rfl) dX10_follows_30 (fun r_30 σ h_30 => ?_)
              obtain ⟨h_30, rfl⟩ := h_30
              have J_72 : ∀ (s0_72 : Int32) (σ : za_S) (hz : zfo q (100 * y2_7.toInt.toNat + y4_18.toInt.toNat) y3_18 σ0 σ) (w_72 : (s0_72 = 0 ∨ s0_72 = 1) ∧ (¬ s0_72 = 0 → zth (σ.1 q) 0 y2_7 y4_18)), zV p l e (zRm 5 112) s m args below meth c E (za_A E) 6 0 0 (MQ below (va_Qv (fun σ' => zfx q σ0 σ' ∧ zGB (σ'.1 q) ∧ zGI (σ'.1 q)) (zB E) (za_A E)) args s 0 0 (za_A E)) 72 [(0, za_O 19 93), (1, za_O 22 q), (2, za_I y2_7), (3, za_I y3_18), (4, za_I y4_18)] [za_I s0_72] σ := by
                intro s0_72 σ hz w_72
                have bs0_72 := w_72.1
                refine zv_istore (lv' := [(5, za_I s0_72), (0, za_O 19 93), (1, za_O 22 q), (2, za_I y2_7), (3, za_I y3_18), (4, za_I y4_18)]) G dX10_follows_72 (by decide) rfl ?_
                refine zv_iload (j := 0) G dX10_follows_74 rfl ?_
                refine zv_iload_n (j := 4) G dX10_follows_76 rfl rfl ?_
                have J_99 : ∀  (σ : za_S) (hz : zfp q (100 * y2_7.toInt.toNat + y4_18.toInt.toNat) y3_18 s0_72 σ0 σ) (w_99 : ¬ s0_72 = 0 → zT (σ0.1 q (100 * y2_7.toInt.toNat + y4_18.toInt.toNat))), zV p l e (zRm 5 112) s m args below meth c E (za_A E) 6 0 0 (MQ below (va_Qv (fun σ' => zfx q σ0 σ' ∧ zGB (σ'.1 q) ∧ zGI (σ'.1 q)) (zB E) (za_A E)) args s 0 0 (za_A E)) 99 [(0, za_O 19 93), (1, za_O 22 q), (2, za_I y2_7), (4, za_I y4_18), (5, za_I s0_72)] [] σ := by
                  intro σ hz w_99
                  refine zv_iload (j := 4) G dX10_follows_99 rfl ?_
                  refine zv_istore_n (lv' := [(3, za_I s0_72), (0, za_O 19 93), (1, za_O 22 q), (2, za_I y2_7), (4, za_I y4_18), (5, za_I s0_72)]) G dX10_follows_101 rfl (by decide) rfl ?_
                  refine zv_iload (j := 5) G dX10_follows_102 rfl ?_
                  refine zv_if_eq (tgt := 165) G dX10_follows_104 (by decide) (fun c_104 => ?_) (fun c_104 => ?_)
                  · have k_104 := z_ceq c_104 (a := s0_72.toInt) (b := 0) rfl rfl
                    have hz : zfo q ((100 * y2_7.toInt.toNat + y4_18.toInt.toNat) + 1) s0_72 σ0 σ := zfo_1 hI (by omega) rfl hz c_104
                    obtain ⟨x_165, e_165⟩ : ∃ y : Int32, y = y4_18 + 1 := ⟨_, rfl⟩
                    refine zv_iinc (j := 4) (v := x_165) (lv' := [(4, za_I x_165), (3, za_I s0_72), (0, za_O 19 93), (1, za_O 22 q), (2, za_I y2_7), (5, za_I s0_72)]) G dX10_follows_165 rfl (by rw [e_165]; rfl) (by decide) rfl ?_
                    first | have q_165 := z_inc9 (by omega) e_165 | skip
                    refine zv_goto (tgt := 18) G dX10_follows_168 (by decide) ?_
                    refine zv_sub [2, 3, 4, 1, 0] (lv' := [(0, za_O 19 93), (1, za_O 22 q), (2, za_I y2_7), (3, za_I s0_72), (4, za_I x_165)]) rfl ?_
                    exact ih_18 s0_72 x_165 σ (by rw [show 100 * y2_7.toInt.toNat + x_165.toInt.toNat = 100 * y2_7.toInt.toNat + y4_18.toInt.toNat + 1 by omega]; exact hz) bs0_72 (by have := z_inc c_22 e_165; omega) (by have := z_inc9 (by omega) e_165; omega) (z_meas c_22 e_165 hn_18)
                  · have k_104 := z_cne c_104 (a := s0_72.toInt) (b := 0) rfl rfl
                    refine zv_aload_n (j := 1) G dX10_follows_107 rfl rfl ?_
                    refine zv_dupO G dX10_follows_108 ?_
                    refine zg_X10_262 G dX10_follows_109 ?_
                    refine zv_iconst (v := 1) G dX10_follows_112 (by decide) ?_
                    refine zv_iadd G dX10_follows_113 ?_
                    refine zp_X10_262 G dX10_follows_114 ?_
                    refine zv_gen (R9 := (zfp q (100 * y2_7.toInt.toNat + y4_18.toInt.toNat) y3_18 s0_72 σ0)) (zfp_93 hq hz) (fun σ hz => ?_)
                    refine zv_aload_n (j := 2) G dX10_follows_117 rfl rfl ?_
                    refine zv_sipush (v := 2000) G dX10_follows_118 (by decide) ?_
                    refine zv_iald G (by decide) rfl (z_in (by decide) (by decide)) dX10_follows_121 ?_
                    refine zv_iconst (v := 1) G dX10_follows_122 (by decide) ?_
                    refine zv_icmp_ne (tgt := 139) G dX10_follows_123 (by decide) (fun c_123 => ?_) (fun c_123 => ?_)
                    · have k_123 := z_cne c_123 (a := (σ.1 q (2000 : Int32).toNatClampNeg).toInt) (b := 1) rfl rfl
                      refine zv_aload_n (j := 2) G dX10_follows_139 rfl rfl ?_
                      refine zv_iconst (v := 0) G dX10_follows_140 (by decide) ?_
                      refine zv_iload_n (j := 3) G dX10_follows_141 rfl rfl ?_
                      refine zv_iload (j := 4) G dX10_follows_142 rfl ?_
                      refine zv_aload_n (j := 2) G dX10_follows_144 rfl rfl ?_
                      refine zv_iconst (v := 0) G dX10_follows_145 (by decide) ?_
                      refine zv_iload_n (j := 3) G dX10_follows_146 rfl rfl ?_
                      refine zv_iload (j := 4) G dX10_follows_147 rfl ?_
                      refine zv_callSi (as := [za_O 22 q, za_I 0, za_I y2_7, za_I y4_18]) G (zc_X10_valueOn l E q (0 : Int32) y2_7 y4_18 σ (by first | assumption | decide | omega) (by first | assumption | decide | omega) (by first | assumption | decide | omega)) zk_X10_valueOn zm_1334 rfl ⟨(Nat.le_of_ble_eq_true rfl), (Nat.le_of_ble_eq_true rfl)⟩ ⟨Nat.zero_le _, Nat.zero_le _⟩ (Nat.le_of_ble_eq_true rfl) dX10_follows_149 (fun r_149 σ h_149 => ?_)
                      obtain ⟨h_149, rfl⟩ := h_149
                      refine zv_bipush (v := 10) G dX10_follows_152 (by decide) ?_
                      refine zv_aload_n (j := 2) G dX10_follows_154 rfl rfl ?_
                      refine zv_iconst (v := 0) G dX10_follows_155 (by decide) ?_
                      refine zv_iload_n (j := 3) G dX10_follows_156 rfl rfl ?_
                      refine zv_iload (j := 4) G dX10_follows_157 rfl ?_
                      refine zv_callSi (as := [za_O 22 q, za_I 0, za_I y2_7, za_I y4_18]) G (zc_X10_begins l E q (0 : Int32) y2_7 y4_18 σ (by first | assumption | decide | omega) (by first | assumption | decide | omega)) zk_X10_begins zm_1317 rfl ⟨(Nat.le_of_ble_eq_true rfl), (Nat.le_of_ble_eq_true rfl)⟩ ⟨Nat.zero_le _, Nat.zero_le _⟩ (Nat.le_of_ble_eq_true rfl) dX10_follows_159 (fun r_159 σ h_159 => ?_)
                      obtain ⟨h_159, rfl⟩ := h_159
                      refine zv_callSv (as := [za_O 22 q, za_I 0, za_I y2_7, za_I y4_18, za_I r_149, za_I 10, za_I r_159]) G (zc_X10_lays l E q (0 : Int32) y2_7 y4_18 r_149 (10 : Int32) r_159 σ (by first | assumption | decide | omega) (by first | assumption | decide | omega) (by first | assumption | decide | omega)) zk_X10_lays zm_1356 rfl ⟨(Nat.le_of_ble_eq_true rfl), (Nat.le_of_ble_eq_true rfl)⟩ ⟨Nat.zero_le _, Nat.zero_le _⟩ (Nat.le_of_ble_eq_true rfl) dX10_follows_162 (fun σ h_162 => ?_)
                      have hz : zfo q ((100 * y2_7.toInt.toNat + y4_18.toInt.toNat) + 1) s0_72 σ0 σ := zfo_3 hq hI (zix_0 b_10 b_22) (by omega) rfl hz (hz.2.2.2.2.2.2.1.mpr (w_99 c_104)) c_123 h_149 h_159 (by omega) h_162
                      obtain ⟨x_165, e_165⟩ : ∃ y : Int32, y = y4_18 + 1 := ⟨_, rfl⟩
                      refine zv_iinc (j := 4) (v := x_165) (lv' := [(4, za_I x_165), (3, za_I s0_72), (0, za_O 19 93), (1, za_O 22 q), (2, za_I y2_7), (5, za_I s0_72)]) G dX10_follows_165 rfl (by rw [e_165]; rfl) (by decide) rfl ?_
                      first | have q_165 := z_inc9 (by omega) e_165 | skip
                      refine zv_goto (tgt := 18) G dX10_follows_168 (by decide) ?_
                      refine zv_sub [2, 3, 4, 1, 0] (lv' := [(0, za_O 19 93), (1, za_O 22 q), (2, za_I y2_7), (3, za_I s0_72), (4, za_I x_165)]) rfl ?_
                      exact ih_18 s0_72 x_165 σ (by rw [show 100 * y2_7.toInt.toNat + x_165.toInt.toNat = 100 * y2_7.toInt.toNat + y4_18.toInt.toNat + 1 by omega]; exact hz) bs0_72 (by have := z_inc c_22 e_165; omega) (by have := z_inc9 (by omega) e_165; omega) (z_meas c_22 e_165 hn_18)
                    · have k_123 := z_ceq c_123 (a := (σ.1 q (2000 : Int32).toNatClampNeg).toInt) (b := 1) rfl rfl
                      refine zv_aload_n (j := 2) G dX10_follows_126 rfl rfl ?_
                      refine zv_iconst (v := 0) G dX10_follows_127 (by decide) ?_
                      refine zv_iload_n (j := 3) G dX10_follows_128 rfl rfl ?_
                      refine zv_iload (j := 4) G dX10_follows_129 rfl ?_
                      refine zv_callSi (as := [za_I 0, za_I y2_7, za_I y4_18]) G (zc_X10_on l E (0 : Int32) y2_7 y4_18 σ ) zk_X10_on zm_1327 rfl ⟨(Nat.le_of_ble_eq_true rfl), (Nat.le_of_ble_eq_true rfl)⟩ ⟨Nat.zero_le _, Nat.zero_le _⟩ (Nat.le_of_ble_eq_true rfl) dX10_follows_131 (fun r_131 σ h_131 => ?_)
                      obtain ⟨h_131, rfl⟩ := h_131
                      refine zv_iconst (v := 0) G dX10_follows_134 (by decide) ?_
                      refine zv_iast G (by decide) rfl (fun _ => rfl) (z_onI (by decide) (by omega) (by omega) h_131).1 dX10_follows_135 ?_
                      refine zv_gen (R9 := (zfo q ((100 * y2_7.toInt.toNat + y4_18.toInt.toNat) + 1) s0_72 σ0)) (by rw [(z_onI (by decide) (by omega) (by omega) h_131).2, zix_0 b_10 b_22]; exact zfo_2 hq (by omega) rfl hz c_104 c_123) (fun σ hz => ?_)
                      refine zv_goto (tgt := 165) G dX10_follows_136 (by decide) ?_
                      obtain ⟨x_165, e_165⟩ : ∃ y : Int32, y = y4_18 + 1 := ⟨_, rfl⟩
                      refine zv_iinc (j := 4) (v := x_165) (lv' := [(4, za_I x_165), (3, za_I s0_72), (0, za_O 19 93), (1, za_O 22 q), (2, za_I y2_7), (5, za_I s0_72)]) G dX10_follows_165 rfl (by rw [e_165]; rfl) (by decide) rfl ?_
                      first | have q_165 := z_inc9 (by omega) e_165 | skip
                      refine zv_goto (tgt := 18) G dX10_follows_168 (by decide) ?_
                      refine zv_sub [2, 3, 4, 1, 0] (lv' := [(0, za_O 19 93), (1, za_O 22 q), (2, za_I y2_7), (3, za_I s0_72), (4, za_I x_165)]) rfl ?_
                      exact ih_18 s0_72 x_165 σ (by rw [show 100 * y2_7.toInt.toNat + x_165.toInt.toNat = 100 * y2_7.toInt.toNat + y4_18.toInt.toNat + 1 by omega]; exact hz) bs0_72 (by have := z_inc c_22 e_165; omega) (by have := z_inc9 (by omega) e_165; omega) (z_meas c_22 e_165 hn_18)
                refine zv_icmp_eq (tgt := 99) G dX10_follows_77 (by decide) (fun c_77 => ?_) (fun c_77 => ?_)
                · have k_77 := z_ceq c_77 (a := s0_72.toInt) (b := y3_18.toInt) rfl rfl
                  have e99 := zix_0 b_10 b_22
                  have hz9 := hz
                  have hz : zfp q (100 * y2_7.toInt.toNat + y4_18.toInt.toNat) y3_18 s0_72 σ0 σ := zfp_n hB (by omega) hz (Or.inl c_77)
                  have w9 : zfp q (100 * y2_7.toInt.toNat + y4_18.toInt.toNat) y3_18 s0_72 σ0 σ → ¬ s0_72 = 0 → zT (σ.1 q (100 * y2_7.toInt.toNat + y4_18.toInt.toNat)) := fun _ c => e99 ▸ (w_72.2 c).2
                  refine zv_sub [1, 2, 3, 5, 0] (lv' := [(0, za_O 19 93), (1, za_O 22 q), (2, za_I y2_7), (4, za_I y4_18), (5, za_I s0_72)]) rfl ?_
                  exact J_99 σ hz (fun c => hz.2.2.2.2.2.2.1.mp (w9 hz c))
                · have k_77 := z_cne c_77 (a := s0_72.toInt) (b := y3_18.toInt) rfl rfl
                  refine zv_aload_n (j := 2) G dX10_follows_80 rfl rfl ?_
                  refine zv_iconst (v := 0) G dX10_follows_81 (by decide) ?_
                  refine zv_iload_n (j := 3) G dX10_follows_82 rfl rfl ?_
                  refine zv_iload (j := 5) G dX10_follows_83 rfl ?_
                  refine zv_callSi (as := [za_O 22 q, za_I 0, za_I y2_7, za_I y4_18]) G (zc_X10_isThere l E q (0 : Int32) y2_7 y4_18 σ (by first | assumption | decide | omega) (by first | assumption | decide | omega)) zk_X10_isThere zm_1320 rfl ⟨(Nat.le_of_ble_eq_true rfl), (Nat.le_of_ble_eq_true rfl)⟩ ⟨Nat.zero_le _, Nat.zero_le _⟩ (Nat.le_of_ble_eq_true rfl) dX10_follows_85 (fun r_85 σ h_85 => ?_)
                  obtain ⟨h_85, rfl⟩ := h_85
                  refine zv_if_eq (tgt := 99) G dX10_follows_88 (by decide) (fun c_88 => ?_) (fun c_88 => ?_)
                  · have f_85 := fun q9 => (h_85.2.mpr q9) c_88
                    have e99 := zix_0 b_10 b_22
                    have f9 : ¬ zT (σ.1 q (100 * y2_7.toInt.toNat + y4_18.toInt.toNat)) := fun z => f_85 ⟨by omega, by rw [e99]; exact z⟩
                    have hz : zfp q (100 * y2_7.toInt.toNat + y4_18.toInt.toNat) y3_18 s0_72 σ0 σ := zfp_n hB (by omega) hz (Or.inr f9)
                    have w9 : zfp q (100 * y2_7.toInt.toNat + y4_18.toInt.toNat) y3_18 s0_72 σ0 σ → ¬ s0_72 = 0 → zT (σ.1 q (100 * y2_7.toInt.toNat + y4_18.toInt.toNat)) := fun _ c => e99 ▸ (w_72.2 c).2
                    refine zv_sub [1, 2, 3, 5, 0] (lv' := [(0, za_O 19 93), (1, za_O 22 q), (2, za_I y2_7), (4, za_I y4_18), (5, za_I s0_72)]) rfl ?_
                    exact J_99 σ hz (fun c => hz.2.2.2.2.2.2.1.mp (w9 hz c))
                  · have t_85 := h_85.2.mp c_88
                    refine zv_aload_n (j := 2) G dX10_follows_91 rfl rfl ?_
                    refine zv_iconst (v := 0) G dX10_follows_92 (by decide) ?_
                    refine zv_iload_n (j := 3) G dX10_follows_93 rfl rfl ?_
                    refine zv_iload (j := 5) G dX10_follows_94 rfl ?_
                    have h0 := hz
                    refine zv_callSv (as := [za_O 22 q, za_I 0, za_I y2_7, za_I y4_18]) G (zc_X10_splits l E q (0 : Int32) y2_7 y4_18 σ (by first | assumption | decide | omega) (by first | assumption | decide | omega)) zk_X10_splits zm_1411 rfl ⟨(Nat.le_of_ble_eq_true rfl), (Nat.le_of_ble_eq_true rfl)⟩ ⟨Nat.zero_le _, Nat.zero_le _⟩ (Nat.le_of_ble_eq_true rfl) dX10_follows_96 (fun σ h_96 => ?_)
                    have e99 := zix_0 b_10 b_22
                    have hz : zfp q (100 * y2_7.toInt.toNat + y4_18.toInt.toNat) y3_18 s0_72 σ0 σ := zfp_s hq hB e99 (by omega) hz t_85 h_96
                    have w9 : zfp q (100 * y2_7.toInt.toNat + y4_18.toInt.toNat) y3_18 s0_72 σ0 σ → ¬ s0_72 = 0 → zT (σ.1 q (100 * y2_7.toInt.toNat + y4_18.toInt.toNat)) := fun h _ => h.2.2.2.2.2.2.1.mpr (by rw [← (h0.2.2.1 _ (by omega) (Nat.le_refl _)), ← e99]; exact t_85.2)
                    refine zv_sub [1, 2, 3, 5, 0] (lv' := [(0, za_O 19 93), (1, za_O 22 q), (2, za_I y2_7), (4, za_I y4_18), (5, za_I s0_72)]) rfl ?_
                    exact J_99 σ hz (fun c => hz.2.2.2.2.2.2.1.mp (w9 hz c))
              have J_71 : ∀  (σ : za_S) (hz : zfo q (100 * y2_7.toInt.toNat + y4_18.toInt.toNat) y3_18 σ0 σ), zV p l e (zRm 5 112) s m args below meth c E (za_A E) 6 0 0 (MQ below (va_Qv (fun σ' => zfx q σ0 σ' ∧ zGB (σ'.1 q) ∧ zGI (σ'.1 q)) (zB E) (za_A E)) args s 0 0 (za_A E)) 71 [(0, za_O 19 93), (1, za_O 22 q), (2, za_I y2_7), (3, za_I y3_18), (4, za_I y4_18)] [] σ := by
                intro σ hz
                refine zv_iconst (v := 0) G dX10_follows_71 (by decide) ?_
                refine zv_sub [0, 1, 2, 3, 4] (lv' := [(0, za_O 19 93), (1, za_O 22 q), (2, za_I y2_7), (3, za_I y3_18), (4, za_I y4_18)]) rfl ?_
                exact J_72 (0 : Int32) σ hz (by first | exact ⟨Or.inl rfl, fun h => absurd rfl h⟩ | exact ⟨Or.inr rfl, fun _ => t_30⟩)
              refine zv_if_eq (tgt := 71) G dX10_follows_33 (by decide) (fun c_33 => ?_) (fun c_33 => ?_)
              · have f_30 := fun q9 => (h_30.2.mpr q9) c_33
                refine zv_sub [0, 1, 2, 3, 4] (lv' := [(0, za_O 19 93), (1, za_O 22 q), (2, za_I y2_7), (3, za_I y3_18), (4, za_I y4_18)]) rfl ?_
                exact J_71 σ hz
              · have t_30 := h_30.2.mp c_33
                refine zv_aload_n (j := 1) G dX10_follows_36 rfl rfl ?_
                refine zv_iconst (v := 0) G dX10_follows_37 (by decide) ?_
                refine zv_iload_n (j := 2) G dX10_follows_38 rfl rfl ?_
                refine zv_iload (j := 4) G dX10_follows_39 rfl ?_
                refine zv_callSi (as := [za_O 22 q, za_I 0, za_I y2_7, za_I y4_18]) G (zc_X10_refOn l E q (0 : Int32) y2_7 y4_18 σ (by first | assumption | decide | omega) (by first | assumption | decide | omega) (by first | assumption | decide | omega)) zk_X10_refOn zm_1340 rfl ⟨(Nat.le_of_ble_eq_true rfl), (Nat.le_of_ble_eq_true rfl)⟩ ⟨Nat.zero_le _, Nat.zero_le _⟩ (Nat.le_of_ble_eq_true rfl) dX10_follows_41 (fun r_41 σ h_41 => ?_)
                obtain ⟨h_41, rfl⟩ := h_41
                refine zv_bipush (v := 10) G dX10_follows_44 (by decide) ?_
                refine zv_icmp_eq (tgt := 71) G dX10_follows_46 (by decide) (fun c_46 => ?_) (fun c_46 => ?_)
                · have k_46 := z_ceq c_46 (a := r_41.toInt) (b := 10) rfl rfl
                  refine zv_sub [0, 1, 2, 3, 4] (lv' := [(0, za_O 19 93), (1, za_O 22 q), (2, za_I y2_7), (3, za_I y3_18), (4, za_I y4_18)]) rfl ?_
                  exact J_71 σ hz
                · have k_46 := z_cne c_46 (a := r_41.toInt) (b := 10) rfl rfl
                  refine zv_aload_n (j := 1) G dX10_follows_49 rfl rfl ?_
                  refine zv_iconst (v := 1) G dX10_follows_50 (by decide) ?_
                  refine zv_aload_n (j := 1) G dX10_follows_51 rfl rfl ?_
                  refine zv_iconst (v := 0) G dX10_follows_52 (by decide) ?_
                  refine zv_iload_n (j := 2) G dX10_follows_53 rfl rfl ?_
                  refine zv_iload (j := 4) G dX10_follows_54 rfl ?_
                  refine zv_callSi (as := [za_O 22 q, za_I 0, za_I y2_7, za_I y4_18]) G (zc_X10_refOn l E q (0 : Int32) y2_7 y4_18 σ (by first | assumption | decide | omega) (by first | assumption | decide | omega) (by first | assumption | decide | omega)) zk_X10_refOn zm_1340 rfl ⟨(Nat.le_of_ble_eq_true rfl), (Nat.le_of_ble_eq_true rfl)⟩ ⟨Nat.zero_le _, Nat.zero_le _⟩ (Nat.le_of_ble_eq_true rfl) dX10_follows_56 (fun r_56 σ h_56 => ?_)
                  obtain ⟨h_56, rfl⟩ := h_56
                  refine zv_iload (j := 4) G dX10_follows_59 rfl ?_
                  refine zv_callSi (as := [za_O 22 q, za_I 1, za_I r_56, za_I y4_18]) G (zc_X10_isThere l E q (1 : Int32) r_56 y4_18 σ (by decide) (z_rf9 t_30.2 h_56 (fun e9 => c_46 (by rw [h_41, ← h_56]; exact e9)))) zk_X10_isThere zm_1320 rfl ⟨(Nat.le_of_ble_eq_true rfl), (Nat.le_of_ble_eq_true rfl)⟩ ⟨Nat.zero_le _, Nat.zero_le _⟩ (Nat.le_of_ble_eq_true rfl) dX10_follows_61 (fun r_61 σ h_61 => ?_)
                  obtain ⟨h_61, rfl⟩ := h_61
                  refine zv_if_ne (tgt := 71) G dX10_follows_64 (by decide) (fun c_64 => ?_) (fun c_64 => ?_)
                  · have t_61 := h_61.2.mp c_64
                    refine zv_sub [0, 1, 2, 3, 4] (lv' := [(0, za_O 19 93), (1, za_O 22 q), (2, za_I y2_7), (3, za_I y3_18), (4, za_I y4_18)]) rfl ?_
                    exact J_71 σ hz
                  · have f_61 := fun q9 => (h_61.2.mpr q9) c_64
                    refine zv_iconst (v := 1) G dX10_follows_67 (by decide) ?_
                    refine zv_goto (tgt := 72) G dX10_follows_68 (by decide) ?_
                    refine zv_sub [0, 1, 2, 3, 4] (lv' := [(0, za_O 19 93), (1, za_O 22 q), (2, za_I y2_7), (3, za_I y3_18), (4, za_I y4_18)]) rfl ?_
                    exact J_72 (1 : Int32) σ hz (by first | exact ⟨Or.inl rfl, fun h => absurd rfl h⟩ | exact ⟨Or.inr rfl, fun _ => t_30⟩)
        refine zv_istore (lv' := [(4, za_I 0), (3, za_I 0), (0, za_O 19 93), (1, za_O 22 q), (2, za_I y2_7)]) G dX10_follows_16 (by decide) rfl ?_
        refine zv_sub [2, 3, 4, 1, 0] (lv' := [(0, za_O 19 93), (1, za_O 22 q), (2, za_I y2_7), (3, za_I 0), (4, za_I 0)]) rfl ?_
        exact J_18 _ (0 : Int32) (0 : Int32) σ (zfo_r hz (by have hL := z_lits; omega) (by have hL := z_lits; omega)) (Or.inl rfl) (by decide) (by decide) (Nat.lt_succ_self _)
  refine zv_istore_n (lv' := [(2, za_I 0), (0, za_O 19 93), (1, za_O 22 q)]) G dX10_follows_6 rfl (by decide) rfl ?_
  refine zv_sub [1, 2, 0] (lv' := [(0, za_O 19 93), (1, za_O 22 q), (2, za_I 0)]) rfl ?_
  exact J_7 _ (0 : Int32) σ (zfo_0 hz) (by decide) (by decide) (Nat.lt_succ_self _)
set_option maxHeartbeats 4000000 in
set_option maxRecDepth 100000 in
theorem zc_X10_cutsOne (l : Launch) (E : za_E) (q : Nat) (t : Int32) (k : Int32) (fd : Int32) (td : Int32) (σ0 : za_S) (hq : q ≠ 101 ∧ q ≠ 93) (hG : zG (σ0.1 q)) : zMi l E yX10_cutsOne cX10_cutsOne 7 (Option.some Jvm.ClassFile.FieldType.int) 7 158 [za_O 19 93, za_O 22 q, za_I t, za_I k, za_I fd, za_I td] σ0 (fun r σ' => zfa q σ0 σ') := by
  refine zMi_of [(0, za_O 19 93), (1, za_O 22 q), (2, za_I t), (3, za_I k), (4, za_I fd), (5, za_I td)] (by decide) rfl rfl (Nat.le_of_ble_eq_true rfl) ?_
  intro ho p e s m args below meth c G hr
  have h_q : za_kd q = 22 := za_okO (by decide) (List.forall_mem_cons.mp (List.forall_mem_cons.mp ho).2).1
  refine zv_gen (R9 := (zfx 101 σ0)) (zfx_r 101 σ0) (fun σ hz => ?_)
  refine zv_iload_n (j := 2) G dX10_cutsOne_0 rfl rfl ?_
  refine zv_callSi (as := [za_I t]) G (zc_X10_isTable l E t σ ) zk_X10_isTable zm_1309 rfl ⟨(Nat.le_of_ble_eq_true rfl), (Nat.le_of_ble_eq_true rfl)⟩ ⟨Nat.zero_le _, Nat.zero_le _⟩ (Nat.le_of_ble_eq_true rfl) dX10_cutsOne_1 (fun r_1 σ h_1 => ?_)
  obtain ⟨h_1, rfl⟩ := h_1
  refine zv_if_eq (tgt := 24) G dX10_cutsOne_4 (by decide) (fun c_4 => ?_) (fun c_4 => ?_)
  · have f_1 := fun q9 => (h_1.2.mpr q9) c_4
    refine zv_iconst (v := (-1)) G dX10_cutsOne_24 (by decide) ?_
    exact zv_iret G hr dX10_cutsOne_25 (zfa_x hq hG hz)
  · have t_1 := h_1.2.mp c_4
    refine zv_iload_n (j := 3) G dX10_cutsOne_7 rfl rfl ?_
    refine zv_callSi (as := [za_I k]) G (zc_X10_isKey l E k σ ) zk_X10_isKey zm_1371 rfl ⟨(Nat.le_of_ble_eq_true rfl), (Nat.le_of_ble_eq_true rfl)⟩ ⟨Nat.zero_le _, Nat.zero_le _⟩ (Nat.le_of_ble_eq_true rfl) dX10_cutsOne_8 (fun r_8 σ h_8 => ?_)
    obtain ⟨h_8, rfl⟩ := h_8
    refine zv_if_eq (tgt := 24) G dX10_cutsOne_11 (by decide) (fun c_11 => ?_) (fun c_11 => ?_)
    · have f_8 := fun q9 => (h_8.2.mpr q9) c_11
      refine zv_iconst (v := (-1)) G dX10_cutsOne_24 (by decide) ?_
      exact zv_iret G hr dX10_cutsOne_25 (zfa_x hq hG hz)
    · have t_8 := h_8.2.mp c_11
      refine zv_iload (j := 4) G dX10_cutsOne_14 rfl ?_
      refine zv_iload (j := 5) G dX10_cutsOne_16 rfl ?_
      refine zv_callSi (as := [za_I fd, za_I td]) G (zc_X10_isPeriod l E fd td σ ) zk_X10_isPeriod zm_1375 rfl ⟨(Nat.le_of_ble_eq_true rfl), (Nat.le_of_ble_eq_true rfl)⟩ ⟨Nat.zero_le _, Nat.zero_le _⟩ (Nat.le_of_ble_eq_true rfl) dX10_cutsOne_18 (fun r_18 σ h_18 => ?_)
      obtain ⟨h_18, rfl⟩ := h_18
      refine zv_if_ne (tgt := 26) G dX10_cutsOne_21 (by decide) (fun c_21 => ?_) (fun c_21 => ?_)
      · have t_18 := h_18.2.mp c_21
        refine zv_aload_n (j := 1) G dX10_cutsOne_26 rfl rfl ?_
        refine zv_iload_n (j := 2) G dX10_cutsOne_27 rfl rfl ?_
        refine zv_iload_n (j := 3) G dX10_cutsOne_28 rfl rfl ?_
        refine zv_iload (j := 4) G dX10_cutsOne_29 rfl ?_
        refine zv_iload (j := 5) G dX10_cutsOne_31 rfl ?_
        refine zv_callSi (as := [za_O 22 q, za_I t, za_I k, za_I fd, za_I td]) G (zc_X10_rowsIn l E q t k fd td σ (by first | assumption | decide | omega) (by first | assumption | decide | omega)) zk_X10_rowsIn zm_1378 rfl ⟨(Nat.le_of_ble_eq_true rfl), (Nat.le_of_ble_eq_true rfl)⟩ ⟨Nat.zero_le _, Nat.zero_le _⟩ (Nat.le_of_ble_eq_true rfl) dX10_cutsOne_33 (fun r_33 σ h_33 => ?_)
        subst h_33
        refine zv_istore (lv' := [(6, za_I r_33), (0, za_O 19 93), (1, za_O 22 q), (2, za_I t), (3, za_I k), (4, za_I fd), (5, za_I td)]) G dX10_cutsOne_36 (by decide) rfl ?_
        refine zv_iload (j := 0) G dX10_cutsOne_38 rfl ?_
        refine zv_if_ne (tgt := 46) G dX10_cutsOne_40 (by decide) (fun c_40 => ?_) (fun c_40 => ?_)
        · refine zv_aload_n (j := 2) G dX10_cutsOne_46 rfl rfl ?_
          refine zv_aload_n (j := 1) G dX10_cutsOne_47 rfl rfl ?_
          refine zg_X10_124 G dX10_cutsOne_48 ?_
          refine zv_callSv (as := [za_O 22 q, za_O 22 101]) G (zc_X10_copiesTo l E q 101 σ ) zk_X10_copiesTo zm_1381 rfl ⟨(Nat.le_of_ble_eq_true rfl), (Nat.le_of_ble_eq_true rfl)⟩ ⟨Nat.zero_le _, Nat.zero_le _⟩ (Nat.le_of_ble_eq_true rfl) dX10_cutsOne_51 (fun σ h_51 => ?_)
          have hz : zc1 σ0 σ := zc1_0 hq hG hz h_51
          refine zv_aload_n (j := 1) G dX10_cutsOne_54 rfl rfl ?_
          refine zv_aload_n (j := 1) G dX10_cutsOne_55 rfl rfl ?_
          refine zg_X10_124 G dX10_cutsOne_56 ?_
          refine zv_iload_n (j := 3) G dX10_cutsOne_59 rfl rfl ?_
          refine zv_iload_n (j := 4) G dX10_cutsOne_60 rfl rfl ?_
          refine zv_iload (j := 5) G dX10_cutsOne_61 rfl ?_
          refine zv_iload (j := 6) G dX10_cutsOne_63 rfl ?_
          refine zv_callVv (as := [za_O 22 101, za_I t, za_I k, za_I fd, za_I td]) G (by decide) rfl rfl (zc_X10_takesOut l E 101 t k fd td σ (by decide) t_1 t_8 hz.2.1 hz.2.2 t_18) zk_X10_takesOut zm_1442 rfl ⟨(Nat.le_of_ble_eq_true rfl), (Nat.le_of_ble_eq_true rfl)⟩ ⟨Nat.zero_le _, Nat.zero_le _⟩ (Nat.le_of_ble_eq_true rfl) dX10_cutsOne_65 (fun σ h_65 => ?_)
          have hz : zc1 σ0 σ := zc1_t hz h_65
          refine zv_aload_n (j := 1) G dX10_cutsOne_68 rfl rfl ?_
          refine zv_iconst (v := 0) G dX10_cutsOne_69 (by decide) ?_
          refine zp_X10_262 G dX10_cutsOne_70 ?_
          refine zv_gen (R9 := zc1 σ0) (zc1_w hz) (fun σ hz => ?_)
          refine zv_aload_n (j := 1) G dX10_cutsOne_73 rfl rfl ?_
          refine zg_X10_124 G dX10_cutsOne_74 ?_
          refine zv_callSi (as := [za_O 22 101]) G (zc_X10_isHeld l E 101 σ ) zk_X10_isHeld zm_1431 rfl ⟨(Nat.le_of_ble_eq_true rfl), (Nat.le_of_ble_eq_true rfl)⟩ ⟨Nat.zero_le _, Nat.zero_le _⟩ (Nat.le_of_ble_eq_true rfl) dX10_cutsOne_77 (fun r_77 σ h_77 => ?_)
          obtain ⟨h_77, rfl⟩ := h_77
          refine zv_if_ne (tgt := 105) G dX10_cutsOne_80 (by decide) (fun c_80 => ?_) (fun c_80 => ?_)
          · refine zv_aload_n (j := 1) G dX10_cutsOne_105 rfl rfl ?_
            refine zv_aload_n (j := 2) G dX10_cutsOne_106 rfl rfl ?_
            refine zv_iload (j := 0) G dX10_cutsOne_107 rfl ?_
            refine zv_callVi (as := [za_O 22 q, za_I r_33]) G (by decide) rfl rfl (zc_X10_settles l E q r_33 σ ) zk_X10_settles zm_1387 rfl ⟨(Nat.le_of_ble_eq_true rfl), (Nat.le_of_ble_eq_true rfl)⟩ ⟨Nat.zero_le _, Nat.zero_le _⟩ (Nat.le_of_ble_eq_true rfl) dX10_cutsOne_109 (fun r_109 σ h_109 => ?_)
            have hz := zfa_s hq hG hz.1 hz.2 h_109
            exact zv_iret G hr dX10_cutsOne_112 hz
          · refine zv_aload_n (j := 1) G dX10_cutsOne_83 rfl rfl ?_
            refine zg_X10_124 G dX10_cutsOne_84 ?_
            refine zv_sipush (v := 2000) G dX10_cutsOne_87 (by decide) ?_
            refine zv_iald G (by decide) rfl (z_in (by decide) (by decide)) dX10_cutsOne_90 ?_
            refine zv_if_ne (tgt := 97) G dX10_cutsOne_91 (by decide) (fun c_91 => ?_) (fun c_91 => ?_)
            · have k_91 := z_cne c_91 (a := (σ.1 101 (2000 : Int32).toNatClampNeg).toInt) (b := 0) rfl rfl
              refine zv_aload_n (j := 1) G dX10_cutsOne_97 rfl rfl ?_
              refine zv_aload_n (j := 1) G dX10_cutsOne_98 rfl rfl ?_
              refine zg_X10_124 G dX10_cutsOne_99 ?_
              refine zv_callVv (as := [za_O 22 101]) G (by decide) rfl rfl (zc_X10_follows l E 101 σ (by decide) hz.2.1 hz.2.2) zk_X10_follows zm_1446 rfl ⟨(Nat.le_of_ble_eq_true rfl), (Nat.le_of_ble_eq_true rfl)⟩ ⟨Nat.zero_le _, Nat.zero_le _⟩ (Nat.le_of_ble_eq_true rfl) dX10_cutsOne_102 (fun σ h_102 => ?_)
              have hz : zc1 σ0 σ := zc1_t hz h_102
              refine zv_aload_n (j := 1) G dX10_cutsOne_105 rfl rfl ?_
              refine zv_aload_n (j := 2) G dX10_cutsOne_106 rfl rfl ?_
              refine zv_iload (j := 0) G dX10_cutsOne_107 rfl ?_
              refine zv_callVi (as := [za_O 22 q, za_I r_33]) G (by decide) rfl rfl (zc_X10_settles l E q r_33 σ ) zk_X10_settles zm_1387 rfl ⟨(Nat.le_of_ble_eq_true rfl), (Nat.le_of_ble_eq_true rfl)⟩ ⟨Nat.zero_le _, Nat.zero_le _⟩ (Nat.le_of_ble_eq_true rfl) dX10_cutsOne_109 (fun r_109 σ h_109 => ?_)
              have hz := zfa_s hq hG hz.1 hz.2 h_109
              exact zv_iret G hr dX10_cutsOne_112 hz
            · have k_91 := z_ceq c_91 (a := (σ.1 101 (2000 : Int32).toNatClampNeg).toInt) (b := 0) rfl rfl
              refine zv_bipush (v := (-3)) G dX10_cutsOne_94 (by decide) ?_
              exact zv_iret G hr dX10_cutsOne_96 (zfa_x hq hG hz.1)
        · refine zv_bipush (v := (-2)) G dX10_cutsOne_43 (by decide) ?_
          exact zv_iret G hr dX10_cutsOne_45 (zfa_x hq hG hz)
      · have f_18 := fun q9 => (h_18.2.mpr q9) c_21
        refine zv_iconst (v := (-1)) G dX10_cutsOne_24 (by decide) ?_
        exact zv_iret G hr dX10_cutsOne_25 (zfa_x hq hG hz)
set_option maxHeartbeats 4000000 in
set_option maxRecDepth 100000 in
theorem zc_X10_shiftsOne (l : Launch) (E : za_E) (q : Nat) (t : Int32) (k : Int32) (sh : Int32) (σ0 : za_S) (hq : q ≠ 101 ∧ q ≠ 93) (hG : zG (σ0.1 q)) : zMi l E yX10_shiftsOne cX10_shiftsOne 8 (Option.some Jvm.ClassFile.FieldType.int) 7 158 [za_O 19 93, za_O 22 q, za_I t, za_I k, za_I sh] σ0 (fun r σ' => zfa q σ0 σ') := by
  refine zMi_of [(0, za_O 19 93), (1, za_O 22 q), (2, za_I t), (3, za_I k), (4, za_I sh)] (by decide) rfl rfl (Nat.le_of_ble_eq_true rfl) ?_
  intro ho p e s m args below meth c G hr
  have h_q : za_kd q = 22 := za_okO (by decide) (List.forall_mem_cons.mp (List.forall_mem_cons.mp ho).2).1
  refine zv_gen (R9 := (zfx 101 σ0)) (zfx_r 101 σ0) (fun σ hz => ?_)
  refine zv_iload_n (j := 2) G dX10_shiftsOne_0 rfl rfl ?_
  refine zv_callSi (as := [za_I t]) G (zc_X10_isTable l E t σ ) zk_X10_isTable zm_1309 rfl ⟨(Nat.le_of_ble_eq_true rfl), (Nat.le_of_ble_eq_true rfl)⟩ ⟨Nat.zero_le _, Nat.zero_le _⟩ (Nat.le_of_ble_eq_true rfl) dX10_shiftsOne_1 (fun r_1 σ h_1 => ?_)
  obtain ⟨h_1, rfl⟩ := h_1
  refine zv_if_eq (tgt := 34) G dX10_shiftsOne_4 (by decide) (fun c_4 => ?_) (fun c_4 => ?_)
  · have f_1 := fun q9 => (h_1.2.mpr q9) c_4
    refine zv_iconst (v := (-1)) G dX10_shiftsOne_34 (by decide) ?_
    exact zv_iret G hr dX10_shiftsOne_35 (zfa_x hq hG hz)
  · have t_1 := h_1.2.mp c_4
    refine zv_iload_n (j := 3) G dX10_shiftsOne_7 rfl rfl ?_
    refine zv_callSi (as := [za_I k]) G (zc_X10_isKey l E k σ ) zk_X10_isKey zm_1371 rfl ⟨(Nat.le_of_ble_eq_true rfl), (Nat.le_of_ble_eq_true rfl)⟩ ⟨Nat.zero_le _, Nat.zero_le _⟩ (Nat.le_of_ble_eq_true rfl) dX10_shiftsOne_8 (fun r_8 σ h_8 => ?_)
    obtain ⟨h_8, rfl⟩ := h_8
    refine zv_if_eq (tgt := 34) G dX10_shiftsOne_11 (by decide) (fun c_11 => ?_) (fun c_11 => ?_)
    · have f_8 := fun q9 => (h_8.2.mpr q9) c_11
      refine zv_iconst (v := (-1)) G dX10_shiftsOne_34 (by decide) ?_
      exact zv_iret G hr dX10_shiftsOne_35 (zfa_x hq hG hz)
    · have t_8 := h_8.2.mp c_11
      refine zv_iload (j := 4) G dX10_shiftsOne_14 rfl ?_
      refine zv_if_eq (tgt := 34) G dX10_shiftsOne_16 (by decide) (fun c_16 => ?_) (fun c_16 => ?_)
      · have k_16 := z_ceq c_16 (a := sh.toInt) (b := 0) rfl rfl
        refine zv_iconst (v := (-1)) G dX10_shiftsOne_34 (by decide) ?_
        exact zv_iret G hr dX10_shiftsOne_35 (zfa_x hq hG hz)
      · have k_16 := z_cne c_16 (a := sh.toInt) (b := 0) rfl rfl
        refine zv_iload (j := 4) G dX10_shiftsOne_19 rfl ?_
        refine zv_i2l G dX10_shiftsOne_21 ?_
        refine zv_ldc2 (v := -99) G dX10_shiftsOne_22 zm_1458 ?_
        refine zv_ldc2 (v := 99) G dX10_shiftsOne_25 zm_1326 ?_
        refine zv_callSi (as := [za_L sh.toInt64, za_L (-99), za_L 99]) G (zc_X10_in l E sh.toInt64 (-99) 99 σ ) zk_X10_in zm_1180 rfl ⟨(Nat.le_of_ble_eq_true rfl), (Nat.le_of_ble_eq_true rfl)⟩ ⟨Nat.zero_le _, Nat.zero_le _⟩ (Nat.le_of_ble_eq_true rfl) dX10_shiftsOne_28 (fun r_28 σ h_28 => ?_)
        obtain ⟨h_28, rfl⟩ := h_28
        refine zv_if_ne (tgt := 36) G dX10_shiftsOne_31 (by decide) (fun c_31 => ?_) (fun c_31 => ?_)
        · have t_28 := h_28.2.mp c_31
          have s_31 := z_s99 t_28
          have hZ := zix_b (t := t) (k := k) (d := 0) t_1 t_8 (by decide)
          refine zv_aload_n (j := 1) G dX10_shiftsOne_36 rfl rfl ?_
          refine zv_iload_n (j := 2) G dX10_shiftsOne_37 rfl rfl ?_
          refine zv_iload_n (j := 3) G dX10_shiftsOne_38 rfl rfl ?_
          refine zv_iconst (v := 0) G dX10_shiftsOne_39 (by decide) ?_
          refine zv_bipush (v := 100) G dX10_shiftsOne_40 (by decide) ?_
          refine zv_callSi (as := [za_O 22 q, za_I t, za_I k, za_I 0, za_I 100]) G (zc_X10_rowsIn l E q t k (0 : Int32) (100 : Int32) σ (by first | assumption | decide | omega) (by first | assumption | decide | omega)) zk_X10_rowsIn zm_1378 rfl ⟨(Nat.le_of_ble_eq_true rfl), (Nat.le_of_ble_eq_true rfl)⟩ ⟨Nat.zero_le _, Nat.zero_le _⟩ (Nat.le_of_ble_eq_true rfl) dX10_shiftsOne_42 (fun r_42 σ h_42 => ?_)
          subst h_42
          refine zv_istore (lv' := [(5, za_I r_42), (0, za_O 19 93), (1, za_O 22 q), (2, za_I t), (3, za_I k), (4, za_I sh)]) G dX10_shiftsOne_45 (by decide) rfl ?_
          refine zv_iload (j := 0) G dX10_shiftsOne_47 rfl ?_
          refine zv_if_ne (tgt := 55) G dX10_shiftsOne_49 (by decide) (fun c_49 => ?_) (fun c_49 => ?_)
          · refine zv_aload_n (j := 2) G dX10_shiftsOne_55 rfl rfl ?_
            refine zv_aload_n (j := 1) G dX10_shiftsOne_56 rfl rfl ?_
            refine zg_X10_124 G dX10_shiftsOne_57 ?_
            refine zv_callSv (as := [za_O 22 q, za_O 22 101]) G (zc_X10_copiesTo l E q 101 σ ) zk_X10_copiesTo zm_1381 rfl ⟨(Nat.le_of_ble_eq_true rfl), (Nat.le_of_ble_eq_true rfl)⟩ ⟨Nat.zero_le _, Nat.zero_le _⟩ (Nat.le_of_ble_eq_true rfl) dX10_shiftsOne_60 (fun σ h_60 => ?_)
            have hz : zsf q (zix t k 0) sh.toInt 0 σ0 σ := zsf_0 hq hz h_60
            refine zv_iconst (v := 1) G dX10_shiftsOne_63 (by decide) ?_
            refine zv_istore (lv' := [(6, za_I 1), (5, za_I r_42), (0, za_O 19 93), (1, za_O 22 q), (2, za_I t), (3, za_I k), (4, za_I sh)]) G dX10_shiftsOne_64 (by decide) rfl ?_
            refine zv_iconst (v := 0) G dX10_shiftsOne_66 (by decide) ?_
            have J_69 : ∀ (n : Nat) (y6_69 : Int32) (y7_69 : Int32) (σ : za_S) (hz : zsf q (zix t k 0) sh.toInt y7_69.toInt.toNat σ0 σ) (n_69 : ¬ y6_69 = 0 → zcan (σ0.1 q) (zix t k 0) sh.toInt y7_69.toInt.toNat) (b6_69 : y6_69 = 0 ∨ y6_69 = 1) (i7_69 : 0 ≤ y7_69.toInt) (u7_69 : y7_69.toInt ≤ 100) (hn_69 : (2147483648 - y7_69.toInt).toNat < n), zV p l e (zRm 7 158) s m args below meth c E (za_A E) 8 0 0 (MQ below (va_Qi (fun r σ' => zfa q σ0 σ') (zB E) (za_A E)) args s 0 0 (za_A E)) 69 [(0, za_O 19 93), (1, za_O 22 q), (2, za_I t), (3, za_I k), (4, za_I sh), (5, za_I r_42), (6, za_I y6_69), (7, za_I y7_69)] [] σ := by
              intro n
              induction n with
              | zero => intro y6_69 y7_69 σ hz n_69 b6_69 i7_69 u7_69 hn; exact absurd hn (Nat.not_lt_zero _)
              | succ n ih_69 =>
                intro y6_69 y7_69 σ hz n_69 b6_69 i7_69 u7_69 hn_69
                refine zv_iload (j := 7) G dX10_shiftsOne_69 rfl ?_
                refine zv_bipush (v := 100) G dX10_shiftsOne_71 (by decide) ?_
                refine zv_icmp_ge (tgt := 155) G dX10_shiftsOne_73 (by decide) (fun c_73 => ?_) (fun c_73 => ?_)
                · have k_73 := z_cle c_73 (a := 100) (b := y7_69.toInt) rfl rfl
                  refine zv_iload (j := 6) G dX10_shiftsOne_155 rfl ?_
                  refine zv_if_ne (tgt := 163) G dX10_shiftsOne_157 (by decide) (fun c_157 => ?_) (fun c_157 => ?_)
                  · have k_157 := z_cne c_157 (a := y6_69.toInt) (b := 0) rfl rfl
                    have hz : zc1 σ0 σ := zsf_G hG hZ.2.1 (by omega) (by rw [show y7_69.toInt.toNat = 100 by omega] at hz; exact hz) (by have n9 := n_69 c_157; rw [show y7_69.toInt.toNat = 100 by omega] at n9; exact n9)
                    refine zv_aload_n (j := 0) G dX10_shiftsOne_163 rfl rfl ?_
                    refine zg_X10_124 G dX10_shiftsOne_164 ?_
                    refine zv_callSi (as := [za_O 22 101]) G (zc_X10_isHeld l E 101 σ ) zk_X10_isHeld zm_1431 rfl ⟨(Nat.le_of_ble_eq_true rfl), (Nat.le_of_ble_eq_true rfl)⟩ ⟨Nat.zero_le _, Nat.zero_le _⟩ (Nat.le_of_ble_eq_true rfl) dX10_shiftsOne_167 (fun r_167 σ h_167 => ?_)
                    obtain ⟨h_167, rfl⟩ := h_167
                    have J_199 : ∀  (σ : za_S) (hz : zc1 σ0 σ), zV p l e (zRm 7 158) s m args below meth c E (za_A E) 8 0 0 (MQ below (va_Qi (fun r σ' => zfa q σ0 σ') (zB E) (za_A E)) args s 0 0 (za_A E)) 199 [(0, za_O 19 93), (1, za_O 22 q), (5, za_I r_42)] [] σ := by
                      intro σ hz
                      refine zv_aload_n (j := 0) G dX10_shiftsOne_199 rfl rfl ?_
                      refine zv_aload_n (j := 1) G dX10_shiftsOne_200 rfl rfl ?_
                      refine zv_iload (j := 2) G dX10_shiftsOne_201 rfl ?_
                      refine zv_callVi (as := [za_O 22 q, za_I r_42]) G (by decide) rfl rfl (zc_X10_settles l E q r_42 σ ) zk_X10_settles zm_1387 rfl ⟨(Nat.le_of_ble_eq_true rfl), (Nat.le_of_ble_eq_true rfl)⟩ ⟨Nat.zero_le _, Nat.zero_le _⟩ (Nat.le_of_ble_eq_true rfl) dX10_shiftsOne_203 (fun r_203 σ h_203 => ?_)
                      have hz := zfa_s hq hG hz.1 hz.2 h_203
                      exact zv_iret G hr dX10_shiftsOne_206 hz
                    refine zv_if_ne (tgt := 199) G dX10_shiftsOne_170 (by decide) (fun c_170 => ?_) (fun c_170 => ?_)
                    · refine zv_sub [0, 1, 5] (lv' := [(0, za_O 19 93), (1, za_O 22 q), (5, za_I r_42)]) rfl ?_
                      exact J_199 σ hz
                    · refine zv_iload_n (j := 2) G dX10_shiftsOne_173 rfl rfl ?_
                      refine zv_if_eq (tgt := 188) G dX10_shiftsOne_174 (by decide) (fun c_174 => ?_) (fun c_174 => ?_)
                      · have k_174 := z_ceq c_174 (a := t.toInt) (b := 0) rfl rfl
                        refine zv_bipush (v := (-4)) G dX10_shiftsOne_188 (by decide) ?_
                        exact zv_iret G hr dX10_shiftsOne_190 (zfa_x hq hG hz.1)
                      · have k_174 := z_cne c_174 (a := t.toInt) (b := 0) rfl rfl
                        refine zv_aload_n (j := 0) G dX10_shiftsOne_177 rfl rfl ?_
                        refine zg_X10_124 G dX10_shiftsOne_178 ?_
                        refine zv_sipush (v := 2000) G dX10_shiftsOne_181 (by decide) ?_
                        refine zv_iald G (by decide) rfl (z_in (by decide) (by decide)) dX10_shiftsOne_184 ?_
                        refine zv_if_ne (tgt := 191) G dX10_shiftsOne_185 (by decide) (fun c_185 => ?_) (fun c_185 => ?_)
                        · have k_185 := z_cne c_185 (a := (σ.1 101 (2000 : Int32).toNatClampNeg).toInt) (b := 0) rfl rfl
                          refine zv_aload_n (j := 0) G dX10_shiftsOne_191 rfl rfl ?_
                          refine zv_aload_n (j := 0) G dX10_shiftsOne_192 rfl rfl ?_
                          refine zg_X10_124 G dX10_shiftsOne_193 ?_
                          refine zv_callVv (as := [za_O 22 101]) G (by decide) rfl rfl (zc_X10_follows l E 101 σ (by decide) hz.2.1 hz.2.2) zk_X10_follows zm_1446 rfl ⟨(Nat.le_of_ble_eq_true rfl), (Nat.le_of_ble_eq_true rfl)⟩ ⟨Nat.zero_le _, Nat.zero_le _⟩ (Nat.le_of_ble_eq_true rfl) dX10_shiftsOne_196 (fun σ h_196 => ?_)
                          have hz : zc1 σ0 σ := zc1_t hz h_196
                          refine zv_sub [0, 1, 5] (lv' := [(0, za_O 19 93), (1, za_O 22 q), (5, za_I r_42)]) rfl ?_
                          exact J_199 σ hz
                        · have k_185 := z_ceq c_185 (a := (σ.1 101 (2000 : Int32).toNatClampNeg).toInt) (b := 0) rfl rfl
                          refine zv_bipush (v := (-4)) G dX10_shiftsOne_188 (by decide) ?_
                          exact zv_iret G hr dX10_shiftsOne_190 (zfa_x hq hG hz.1)
                  · have k_157 := z_ceq c_157 (a := y6_69.toInt) (b := 0) rfl rfl
                    refine zv_bipush (v := (-3)) G dX10_shiftsOne_160 (by decide) ?_
                    exact zv_iret G hr dX10_shiftsOne_162 (zfa_x hq hG hz.1)
                · have b_73 : 0 ≤ y7_69.toInt ∧ y7_69.toInt < 100 := ⟨i7_69, z_ltk c_73 rfl⟩
                  have k_73 := z_cnle c_73 (a := 100) (b := y7_69.toInt) rfl rfl
                  refine zv_aload_n (j := 0) G dX10_shiftsOne_76 rfl rfl ?_
                  refine zg_X10_124 G dX10_shiftsOne_77 ?_
                  refine zv_iload_n (j := 2) G dX10_shiftsOne_80 rfl rfl ?_
                  refine zv_iload_n (j := 3) G dX10_shiftsOne_81 rfl rfl ?_
                  refine zv_iload (j := 7) G dX10_shiftsOne_82 rfl ?_
                  refine zv_callSi (as := [za_I t, za_I k, za_I y7_69]) G (zc_X10_on l E t k y7_69 σ ) zk_X10_on zm_1327 rfl ⟨(Nat.le_of_ble_eq_true rfl), (Nat.le_of_ble_eq_true rfl)⟩ ⟨Nat.zero_le _, Nat.zero_le _⟩ (Nat.le_of_ble_eq_true rfl) dX10_shiftsOne_84 (fun r_84 σ h_84 => ?_)
                  obtain ⟨h_84, rfl⟩ := h_84
                  refine zv_iload (j := 7) G dX10_shiftsOne_87 rfl ?_
                  refine zv_iload (j := 4) G dX10_shiftsOne_89 rfl ?_
                  refine zv_isub G dX10_shiftsOne_91 ?_
                  refine zv_callSi (as := [za_I (y7_69 - sh)]) G (zc_X10_isDay l E (y7_69 - sh) σ ) zk_X10_isDay zm_1323 rfl ⟨(Nat.le_of_ble_eq_true rfl), (Nat.le_of_ble_eq_true rfl)⟩ ⟨Nat.zero_le _, Nat.zero_le _⟩ (Nat.le_of_ble_eq_true rfl) dX10_shiftsOne_92 (fun r_92 σ h_92 => ?_)
                  obtain ⟨h_92, rfl⟩ := h_92
                  have J_114 : ∀ (s0_114 : Int32) (σ : za_S) (hz : zsf q (zix t k 0) sh.toInt y7_69.toInt.toNat σ0 σ) (w_114 : s0_114 = zsv (σ0.1 q) (zix t k 0) (y7_69.toInt.toNat : Nat) sh.toInt), zV p l e (zRm 7 158) s m args below meth c E (za_A E) 8 0 0 (MQ below (va_Qi (fun r σ' => zfa q σ0 σ') (zB E) (za_A E)) args s 0 0 (za_A E)) 114 [(0, za_O 19 93), (1, za_O 22 q), (2, za_I t), (3, za_I k), (4, za_I sh), (5, za_I r_42), (6, za_I y6_69), (7, za_I y7_69)] [za_I s0_114, za_I r_84, za_O 22 101] σ := by
                    intro s0_114 σ hz w_114
                    refine zv_iast G (by decide) rfl (fun _ => rfl) (z_onI t_1 t_8 (by omega) h_84).1 dX10_shiftsOne_114 ?_
                    refine zv_gen (R9 := (zsf q (zix t k 0) sh.toInt (y7_69.toInt.toNat + 1) σ0)) (by have e9 := (zix_b (d := y7_69) t_1 t_8 (by omega)).1; rw [(z_onI t_1 t_8 (by omega) h_84).2, e9]; exact zsf_s hz (by omega) w_114) (fun σ hz => ?_)
                    refine zv_iload (j := 6) G dX10_shiftsOne_115 rfl ?_
                    have J_147 : ∀ (s0_147 : Int32) (σ : za_S) (hz : zsf q (zix t k 0) sh.toInt (y7_69.toInt.toNat + 1) σ0 σ) (n_147 : ¬ s0_147 = 0 → ¬ y6_69 = 0 ∧ (zT (σ0.1 q (zix t k 0 + y7_69.toInt.toNat)) → 0 ≤ y7_69.toInt + sh.toInt ∧ y7_69.toInt + sh.toInt ≤ 99)) (bs0_147 : s0_147 = 0 ∨ s0_147 = 1), zV p l e (zRm 7 158) s m args below meth c E (za_A E) 8 0 0 (MQ below (va_Qi (fun r σ' => zfa q σ0 σ') (zB E) (za_A E)) args s 0 0 (za_A E)) 147 [(0, za_O 19 93), (1, za_O 22 q), (2, za_I t), (3, za_I k), (4, za_I sh), (5, za_I r_42), (7, za_I y7_69)] [za_I s0_147] σ := by
                      intro s0_147 σ hz n_147 bs0_147
                      refine zv_istore (lv' := [(6, za_I s0_147), (0, za_O 19 93), (1, za_O 22 q), (2, za_I t), (3, za_I k), (4, za_I sh), (5, za_I r_42), (7, za_I y7_69)]) G dX10_shiftsOne_147 (by decide) rfl ?_
                      obtain ⟨x_149, e_149⟩ : ∃ y : Int32, y = y7_69 + 1 := ⟨_, rfl⟩
                      refine zv_iinc (j := 7) (v := x_149) (lv' := [(7, za_I x_149), (6, za_I s0_147), (0, za_O 19 93), (1, za_O 22 q), (2, za_I t), (3, za_I k), (4, za_I sh), (5, za_I r_42)]) G dX10_shiftsOne_149 rfl (by rw [e_149]; rfl) (by decide) rfl ?_
                      first | have q_149 := z_inc9 (by omega) e_149 | skip
                      refine zv_goto (tgt := 69) G dX10_shiftsOne_152 (by decide) ?_
                      refine zv_sub [2, 3, 4, 5, 6, 7, 1, 0] (lv' := [(0, za_O 19 93), (1, za_O 22 q), (2, za_I t), (3, za_I k), (4, za_I sh), (5, za_I r_42), (6, za_I s0_147), (7, za_I x_149)]) rfl ?_
                      exact ih_69 s0_147 x_149 σ (by rw [show x_149.toInt.toNat = y7_69.toInt.toNat + 1 by omega]; exact hz) (fun c => by rw [show x_149.toInt.toNat = y7_69.toInt.toNat + 1 by omega]; exact zcan_s (n_69 (n_147 c).1) (fun z => by have n9 := (n_147 c).2 z; omega)) bs0_147 (by have := z_inc c_73 e_149; omega) (by have := z_inc9 (by omega) e_149; omega) (z_meas c_73 e_149 hn_69)
                    have J_146 : ∀  (σ : za_S) (hz : zsf q (zix t k 0) sh.toInt (y7_69.toInt.toNat + 1) σ0 σ), zV p l e (zRm 7 158) s m args below meth c E (za_A E) 8 0 0 (MQ below (va_Qi (fun r σ' => zfa q σ0 σ') (zB E) (za_A E)) args s 0 0 (za_A E)) 146 [(0, za_O 19 93), (1, za_O 22 q), (2, za_I t), (3, za_I k), (4, za_I sh), (5, za_I r_42), (7, za_I y7_69)] [] σ := by
                      intro σ hz
                      refine zv_iconst (v := 0) G dX10_shiftsOne_146 (by decide) ?_
                      refine zv_sub [0, 1, 2, 3, 4, 5, 6] (lv' := [(0, za_O 19 93), (1, za_O 22 q), (2, za_I t), (3, za_I k), (4, za_I sh), (5, za_I r_42), (7, za_I y7_69)]) rfl ?_
                      exact J_147 (0 : Int32) σ hz (by first | exact fun h => absurd rfl h | exact fun _ => n_142) (by first | exact Or.inl rfl | exact Or.inr rfl)
                    refine zv_if_eq (tgt := 146) G dX10_shiftsOne_117 (by decide) (fun c_117 => ?_) (fun c_117 => ?_)
                    · have k_117 := z_ceq c_117 (a := y6_69.toInt) (b := 0) rfl rfl
                      refine zv_sub [0, 1, 2, 3, 4, 5, 7] (lv' := [(0, za_O 19 93), (1, za_O 22 q), (2, za_I t), (3, za_I k), (4, za_I sh), (5, za_I r_42), (7, za_I y7_69)]) rfl ?_
                      exact J_146 σ hz
                    · have k_117 := z_cne c_117 (a := y6_69.toInt) (b := 0) rfl rfl
                      refine zv_aload_n (j := 1) G dX10_shiftsOne_120 rfl rfl ?_
                      refine zv_iload_n (j := 2) G dX10_shiftsOne_121 rfl rfl ?_
                      refine zv_iload_n (j := 3) G dX10_shiftsOne_122 rfl rfl ?_
                      refine zv_iload (j := 7) G dX10_shiftsOne_123 rfl ?_
                      refine zv_callSi (as := [za_O 22 q, za_I t, za_I k, za_I y7_69]) G (zc_X10_isThere l E q t k y7_69 σ (by first | assumption | decide | omega) (by first | assumption | decide | omega)) zk_X10_isThere zm_1320 rfl ⟨(Nat.le_of_ble_eq_true rfl), (Nat.le_of_ble_eq_true rfl)⟩ ⟨Nat.zero_le _, Nat.zero_le _⟩ (Nat.le_of_ble_eq_true rfl) dX10_shiftsOne_125 (fun r_125 σ h_125 => ?_)
                      obtain ⟨h_125, rfl⟩ := h_125
                      have J_142 : ∀  (σ : za_S) (hz : zsf q (zix t k 0) sh.toInt (y7_69.toInt.toNat + 1) σ0 σ) (n_142 : ¬ y6_69 = 0 ∧ (zT (σ0.1 q (zix t k 0 + y7_69.toInt.toNat)) → 0 ≤ y7_69.toInt + sh.toInt ∧ y7_69.toInt + sh.toInt ≤ 99)), zV p l e (zRm 7 158) s m args below meth c E (za_A E) 8 0 0 (MQ below (va_Qi (fun r σ' => zfa q σ0 σ') (zB E) (za_A E)) args s 0 0 (za_A E)) 142 [(0, za_O 19 93), (1, za_O 22 q), (2, za_I t), (3, za_I k), (4, za_I sh), (5, za_I r_42), (7, za_I y7_69)] [] σ := by
                        intro σ hz n_142
                        refine zv_iconst (v := 1) G dX10_shiftsOne_142 (by decide) ?_
                        refine zv_goto (tgt := 147) G dX10_shiftsOne_143 (by decide) ?_
                        refine zv_sub [0, 1, 2, 3, 4, 5, 6] (lv' := [(0, za_O 19 93), (1, za_O 22 q), (2, za_I t), (3, za_I k), (4, za_I sh), (5, za_I r_42), (7, za_I y7_69)]) rfl ?_
                        exact J_147 (1 : Int32) σ hz (by first | exact fun h => absurd rfl h | exact fun _ => n_142) (by first | exact Or.inl rfl | exact Or.inr rfl)
                      refine zv_if_eq (tgt := 142) G dX10_shiftsOne_128 (by decide) (fun c_128 => ?_) (fun c_128 => ?_)
                      · have f_125 := fun q9 => (h_125.2.mpr q9) c_128
                        have eq9 : σ.1 q = σ0.1 q := hz.1.1 q hq.1 hq.2
                        rw [eq9] at f_125
                        refine zv_sub [0, 1, 2, 3, 4, 5, 7] (lv' := [(0, za_O 19 93), (1, za_O 22 q), (2, za_I t), (3, za_I k), (4, za_I sh), (5, za_I r_42), (7, za_I y7_69)]) rfl ?_
                        exact J_142 σ hz (by first | exact ⟨c_117, fun z => absurd (z_thb t_1 t_8 b_73 z) f_125⟩ | exact ⟨c_117, fun _ => w_139⟩)
                      · have t_125 := h_125.2.mp c_128
                        refine zv_iload (j := 7) G dX10_shiftsOne_131 rfl ?_
                        refine zv_iload (j := 4) G dX10_shiftsOne_133 rfl ?_
                        refine zv_iadd G dX10_shiftsOne_135 ?_
                        refine zv_callSi (as := [za_I (y7_69 + sh)]) G (zc_X10_isDay l E (y7_69 + sh) σ ) zk_X10_isDay zm_1323 rfl ⟨(Nat.le_of_ble_eq_true rfl), (Nat.le_of_ble_eq_true rfl)⟩ ⟨Nat.zero_le _, Nat.zero_le _⟩ (Nat.le_of_ble_eq_true rfl) dX10_shiftsOne_136 (fun r_136 σ h_136 => ?_)
                        obtain ⟨h_136, rfl⟩ := h_136
                        refine zv_if_eq (tgt := 146) G dX10_shiftsOne_139 (by decide) (fun c_139 => ?_) (fun c_139 => ?_)
                        · have f_136 := fun q9 => (h_136.2.mpr q9) c_139
                          refine zv_sub [0, 1, 2, 3, 4, 5, 7] (lv' := [(0, za_O 19 93), (1, za_O 22 q), (2, za_I t), (3, za_I k), (4, za_I sh), (5, za_I r_42), (7, za_I y7_69)]) rfl ?_
                          exact J_146 σ hz
                        · have t_136 := h_136.2.mp c_139
                          have w_139 := z_day2 s_31 b_73 t_136
                          refine zv_sub [0, 1, 2, 3, 4, 5, 7] (lv' := [(0, za_O 19 93), (1, za_O 22 q), (2, za_I t), (3, za_I k), (4, za_I sh), (5, za_I r_42), (7, za_I y7_69)]) rfl ?_
                          exact J_142 σ hz (by first | exact ⟨c_117, fun z => absurd (z_thb t_1 t_8 b_73 z) f_125⟩ | exact ⟨c_117, fun _ => w_139⟩)
                  refine zv_if_eq (tgt := 113) G dX10_shiftsOne_95 (by decide) (fun c_95 => ?_) (fun c_95 => ?_)
                  · have f_92 := fun q9 => (h_92.2.mpr q9) c_95
                    refine zv_iconst (v := 0) G dX10_shiftsOne_113 (by decide) ?_
                    refine zv_sub [0, 1, 2, 3, 4, 5, 6, 7] (lv' := [(0, za_O 19 93), (1, za_O 22 q), (2, za_I t), (3, za_I k), (4, za_I sh), (5, za_I r_42), (6, za_I y6_69), (7, za_I y7_69)]) rfl ?_
                    exact J_114 (0 : Int32) σ hz (by first | exact z_svT t_1 t_8 b_73 s_31 (hz.1.1 q hq.1 hq.2) t_92 h_106 | exact z_svF b_73 s_31 f_92)
                  · have t_92 := h_92.2.mp c_95
                    refine zv_aload_n (j := 1) G dX10_shiftsOne_98 rfl rfl ?_
                    refine zv_iload_n (j := 2) G dX10_shiftsOne_99 rfl rfl ?_
                    refine zv_iload_n (j := 3) G dX10_shiftsOne_100 rfl rfl ?_
                    refine zv_iload (j := 7) G dX10_shiftsOne_101 rfl ?_
                    refine zv_iload (j := 4) G dX10_shiftsOne_103 rfl ?_
                    refine zv_isub G dX10_shiftsOne_105 ?_
                    refine zv_callSi (as := [za_I t, za_I k, za_I (y7_69 - sh)]) G (zc_X10_on l E t k (y7_69 - sh) σ ) zk_X10_on zm_1327 rfl ⟨(Nat.le_of_ble_eq_true rfl), (Nat.le_of_ble_eq_true rfl)⟩ ⟨Nat.zero_le _, Nat.zero_le _⟩ (Nat.le_of_ble_eq_true rfl) dX10_shiftsOne_106 (fun r_106 σ h_106 => ?_)
                    obtain ⟨h_106, rfl⟩ := h_106
                    refine zv_iald G (by decide) rfl (z_onI t_1 t_8 t_92 h_106).1 dX10_shiftsOne_109 ?_
                    refine zv_goto (tgt := 114) G dX10_shiftsOne_110 (by decide) ?_
                    refine zv_sub [0, 1, 2, 3, 4, 5, 6, 7] (lv' := [(0, za_O 19 93), (1, za_O 22 q), (2, za_I t), (3, za_I k), (4, za_I sh), (5, za_I r_42), (6, za_I y6_69), (7, za_I y7_69)]) rfl ?_
                    exact J_114 (σ.1 q r_106.toNatClampNeg) σ hz (by first | exact z_svT t_1 t_8 b_73 s_31 (hz.1.1 q hq.1 hq.2) t_92 h_106 | exact z_svF b_73 s_31 f_92)
            refine zv_istore (lv' := [(7, za_I 0), (6, za_I 1), (5, za_I r_42), (0, za_O 19 93), (1, za_O 22 q), (2, za_I t), (3, za_I k), (4, za_I sh)]) G dX10_shiftsOne_67 (by decide) rfl ?_
            refine zv_sub [3, 4, 5, 6, 7, 2, 1, 0] (lv' := [(0, za_O 19 93), (1, za_O 22 q), (2, za_I t), (3, za_I k), (4, za_I sh), (5, za_I r_42), (6, za_I 1), (7, za_I 0)]) rfl ?_
            exact J_69 _ (1 : Int32) (0 : Int32) σ hz (fun _ j h => absurd h (Nat.not_lt_zero j)) (Or.inr rfl) (by decide) (by decide) (Nat.lt_succ_self _)
          · refine zv_bipush (v := (-2)) G dX10_shiftsOne_52 (by decide) ?_
            exact zv_iret G hr dX10_shiftsOne_54 (zfa_x hq hG hz)
        · have f_28 := fun q9 => (h_28.2.mpr q9) c_31
          refine zv_iconst (v := (-1)) G dX10_shiftsOne_34 (by decide) ?_
          exact zv_iret G hr dX10_shiftsOne_35 (zfa_x hq hG hz)
set_option maxHeartbeats 4000000 in
set_option maxRecDepth 100000 in
theorem zc_X10_wayIs (l : Launch) (E : za_E) (q : Nat) (v : Int32) (σ0 : za_S) (hq : q ≠ 93) (hG : zG (σ0.1 q)) : zMi l E yX10_wayIs cX10_wayIs 3 (Option.some Jvm.ClassFile.FieldType.int) 2 46 [za_O 22 q, za_I v] σ0 (fun r σ' => zfx q σ0 σ' ∧ zG (σ'.1 q)) := by
  refine zMi_of [(0, za_O 22 q), (1, za_I v)] (by decide) rfl rfl (Nat.le_of_ble_eq_true rfl) ?_
  intro ho p e s m args below meth c G hr
  have h_q : za_kd q = 22 := za_okO (by decide) (List.forall_mem_cons.mp ho).1
  refine zv_iload_n (j := 1) G dX10_wayIs_0 rfl rfl ?_
  refine zv_i2l G dX10_wayIs_1 ?_
  refine zv_lconst (v := 0) G dX10_wayIs_2 (by decide) ?_
  refine zv_ldc2 (v := 2) G dX10_wayIs_3 zm_1473 ?_
  refine zv_callSi (as := [za_L v.toInt64, za_L 0, za_L 2]) G (zc_X10_in l E v.toInt64 0 2 σ0 ) zk_X10_in zm_1180 rfl ⟨(Nat.le_of_ble_eq_true rfl), (Nat.le_of_ble_eq_true rfl)⟩ ⟨Nat.zero_le _, Nat.zero_le _⟩ (Nat.le_of_ble_eq_true rfl) dX10_wayIs_6 (fun r_6 σ h_6 => ?_)
  obtain ⟨h_6, e9⟩ := h_6
  rw [e9]
  clear e9 σ
  refine zv_if_ne (tgt := 14) G dX10_wayIs_9 (by decide) (fun c_9 => ?_) (fun c_9 => ?_)
  · have t_6 := h_6.2.mp c_9
    refine zv_aload_n (j := 0) G dX10_wayIs_14 rfl rfl ?_
    refine zv_sipush (v := 2000) G dX10_wayIs_15 (by decide) ?_
    refine zv_iald G (by decide) rfl (z_in (by decide) (by decide)) dX10_wayIs_18 ?_
    refine zv_top (fun x_19 e_19 => ?_)
    refine zv_istore_n (lv' := [(2, za_I x_19), (0, za_O 22 q), (1, za_I v)]) G dX10_wayIs_19 rfl (by decide) rfl ?_
    refine zv_aload_n (j := 1) G dX10_wayIs_20 rfl rfl ?_
    refine zv_sipush (v := 2000) G dX10_wayIs_21 (by decide) ?_
    refine zv_iload_n (j := 2) G dX10_wayIs_24 rfl rfl ?_
    refine zv_iast G (by decide) rfl (fun _ => rfl) (z_in (by decide) (by decide)) dX10_wayIs_25 ?_
    refine zv_iload_n (j := 0) G dX10_wayIs_26 rfl rfl ?_
    refine zv_iload_n (j := 2) G dX10_wayIs_27 rfl rfl ?_
    refine zv_icmp_ne (tgt := 36) G dX10_wayIs_28 (by decide) (fun c_28 => ?_) (fun c_28 => ?_)
    · have k_28 := z_cne c_28 (a := x_19.toInt) (b := v.toInt) rfl rfl
      refine zv_bipush (v := 10) G dX10_wayIs_36 (by decide) ?_
      refine zv_iload_n (j := 0) G dX10_wayIs_38 rfl rfl ?_
      refine zv_iadd G dX10_wayIs_39 ?_
      exact zv_iret G hr dX10_wayIs_40 (zfx_way hq hG)
    · have k_28 := z_ceq c_28 (a := x_19.toInt) (b := v.toInt) rfl rfl
      refine zv_bipush (v := (-2)) G dX10_wayIs_31 (by decide) ?_
      refine zv_goto (tgt := 40) G dX10_wayIs_33 (by decide) ?_
      exact zv_iret G hr dX10_wayIs_40 (zfx_way hq hG)
  · have f_6 := fun q9 => (h_6.2.mpr q9) c_9
    refine zv_iconst (v := (-1)) G dX10_wayIs_12 (by decide) ?_
    exact zv_iret G hr dX10_wayIs_13 ⟨zfx_r q σ0, hG⟩
