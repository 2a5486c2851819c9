/-! ===== rows: sorted, apart; what is there at a day ===== -/
def wzvd (r : wzR) : Prop := (0 ≤ wzcm 0 r ∧ wzcm 0 r ≤ 9) ∧ (0 ≤ wzcm 1 r ∧ wzcm 1 r ≤ 99) ∧ (0 ≤ wzcm 2 r ∧ wzcm 2 r < wzcm 3 r ∧ wzcm 3 r ≤ 100) ∧ 0 ≤ wzcm 4 r ∧ wzcm 4 r ≤ 10
def wzlt (a b : wzR) : Prop := wzcm 0 a < wzcm 0 b ∨ (wzcm 0 a = wzcm 0 b ∧ wzcm 3 a ≤ wzcm 2 b)
def wzVs (L : List wzR) : Prop := (∀ r ∈ L, wzvd r) ∧ L.Pairwise wzlt
theorem wzvd_ok {r : wzR} (h : wzvd r) (j : Nat) : 0 ≤ wzcm j r ∧ wzcm j r ≤ 100 := by
  obtain ⟨h0, h1, h2, h3⟩ := h
  match j with
  | 0 => omega
  | 1 => omega
  | 2 => omega
  | 3 => omega
  | n + 4 => show 0 ≤ wzcm 4 r ∧ wzcm 4 r ≤ 100; omega
theorem wzVs_ok {L : List wzR} (h : wzVs L) : wzOk L := fun r hr => wzvd_ok (h.1 r hr)
theorem wzpt_m {r x : wzR} {a b : Int} (h : x ∈ wzpt r a b) : wzmx a (wzcm 2 r) < wzmn b (wzcm 3 r) ∧ x = (wzcm 0 r, wzcm 1 r, wzmx a (wzcm 2 r), wzmn b (wzcm 3 r), wzcm 4 r) := by
  unfold wzpt at h
  split at h
  · rename_i c
    exact ⟨c, List.mem_singleton.mp h⟩
  · cases h
theorem wzpt_x {r x : wzR} {a b : Int} (h : x ∈ wzpt r a b) : wzcm 0 x = wzcm 0 r ∧ wzcm 1 x = wzcm 1 r ∧ wzcm 2 x = wzmx a (wzcm 2 r) ∧ wzcm 3 x = wzmn b (wzcm 3 r) ∧ wzcm 4 x = wzcm 4 r ∧ wzcm 2 x < wzcm 3 x := by
  obtain ⟨h1, h2⟩ := wzpt_m h
  rw [h2]
  exact ⟨rfl, rfl, rfl, rfl, rfl, h1⟩
theorem wzpt_w {r : wzR} (h : wzvd r) : wzpt r 0 100 = [r] := by
  obtain ⟨h0, h1, h2, h3⟩ := h
  have e1 : wzmx 0 (wzcm 2 r) = wzcm 2 r := by
    have := wzmx_b 0 (wzcm 2 r)
    omega
  have e2 : wzmn 100 (wzcm 3 r) = wzcm 3 r := by
    have := wzmn_b 100 (wzcm 3 r)
    omega
  rw [wzpt_1 (by rw [e1, e2]; omega), e1, e2]
  rfl
/-- x is a piece of r -/
def wzsb (r x : wzR) : Prop := wzvd x ∧ wzcm 0 x = wzcm 0 r ∧ wzcm 2 r ≤ wzcm 2 x ∧ wzcm 3 x ≤ wzcm 3 r
theorem wzpt_s {r x : wzR} {a b : Int} (hr : wzvd r) (h : x ∈ wzpt r a b) : wzsb r x := by
  obtain ⟨a0, a1, a2, a3, a4, a5⟩ := wzpt_x h
  obtain ⟨h0, h1, h2, h3⟩ := hr
  have q1 := wzmx_b a (wzcm 2 r)
  have q2 := wzmn_b b (wzcm 3 r)
  refine ⟨⟨by omega, by omega, by omega, by omega⟩, a0, by omega, by omega⟩
theorem wzpt_p (r : wzR) (a b : Int) : (wzpt r a b).Pairwise wzlt := by
  unfold wzpt
  split
  · exact List.pairwise_singleton _ _
  · exact List.Pairwise.nil
theorem wzVs_fm {f : wzR → List wzR} (k : ∀ r, wzvd r → (∀ x ∈ f r, wzsb r x) ∧ (f r).Pairwise wzlt) : ∀ {L : List wzR}, wzVs L → wzVs (L.flatMap f)
  | [], _ => ⟨fun r h => (nomatch h), List.Pairwise.nil⟩
  | r :: L, h => by
    have hr := h.1 r (List.mem_cons_self ..)
    have hp := List.pairwise_cons.mp h.2
    have hL : wzVs L := ⟨fun x hx => h.1 x (List.mem_cons_of_mem r hx), hp.2⟩
    have ih := wzVs_fm k hL
    rw [List.flatMap_cons]
    refine ⟨fun x hx => ?_, List.pairwise_append.mpr ⟨(k r hr).2, ih.2, fun x hx y hy => ?_⟩⟩
    · rcases List.mem_append.mp hx with q | q
      · exact ((k r hr).1 x q).1
      · exact ih.1 x q
    · obtain ⟨s, hs, hy2⟩ := List.mem_flatMap.mp hy
      have h1 := (k r hr).1 x hx
      have h2 := (k s (hL.1 s hs)).1 y hy2
      have h3 := hp.1 s hs
      obtain ⟨-, a1, a2, a3⟩ := h1
      obtain ⟨-, b1, b2, b3⟩ := h2
      unfold wzlt at h3 ⊢
      omega
theorem wzse_x {j : Nat} {r : wzR} {v : Int} (hj : j = 1 ∨ j = 4) : wzcm 0 (wzse j r v) = wzcm 0 r ∧ wzcm 2 (wzse j r v) = wzcm 2 r ∧ wzcm 3 (wzse j r v) = wzcm 3 r ∧ wzcm 1 (wzse j r v) = (if j = 1 then v else wzcm 1 r) ∧ wzcm 4 (wzse j r v) = (if j = 1 then wzcm 4 r else v) := by
  rcases hj with q | q <;> subst q <;> exact ⟨rfl, rfl, rfl, rfl, rfl⟩
/-- what may be set -/
def wzvr (j : Nat) (v : Int) : Prop := (j = 1 ∧ 0 ≤ v ∧ v ≤ 99) ∨ (j = 4 ∧ 0 ≤ v ∧ v ≤ 10)
theorem wzvr_j {j : Nat} {v : Int} (h : wzvr j v) : j = 1 ∨ j = 4 := h.imp (fun q => q.1) (fun q => q.1)
theorem wzse_s {j : Nat} {r x : wzR} {v : Int} (hv : wzvr j v) (h : wzsb r x) : wzsb r (wzse j x v) := by
  obtain ⟨⟨h0, h1, h2, h3⟩, h4, h5, h6⟩ := h
  obtain ⟨e0, e2, e3, e1, e4⟩ := wzse_x (r := x) (v := v) (wzvr_j hv)
  refine ⟨⟨by omega, ?_, by omega, ?_⟩, by omega, by omega, by omega⟩
  · rw [e1]
    rcases hv with q | q
    · rw [if_pos q.1]; exact q.2
    · rw [if_neg (by omega)]; exact h1
  · rw [e4]
    rcases hv with q | q
    · rw [if_pos q.1]; exact h3
    · rw [if_neg (by omega)]; exact q.2
theorem wzfc_v {k a b : Int} {j : Nat} {v : Int} (hv : wzvr j v) (r : wzR) (hr : wzvd r) : (∀ x ∈ wzfc k a b j v r, wzsb r x) ∧ (wzfc k a b j v r).Pairwise wzlt := by
  unfold wzfc
  split
  · rename_i c
    obtain ⟨c1, c2, c3⟩ := c
    refine ⟨fun x hx => ?_, ?_⟩
    · rcases List.mem_append.mp hx with q | q
      · exact wzpt_s hr q
      · rcases List.mem_append.mp q with q | q
        · obtain ⟨y, hy, e⟩ := List.mem_map.mp q
          rw [← e]
          exact wzse_s hv (wzpt_s hr hy)
        · exact wzpt_s hr q
    · have key : ∀ x ∈ wzpt r 0 a, wzcm 0 x = wzcm 0 r ∧ wzcm 3 x ≤ a := fun x hx => by
        obtain ⟨a0, -, -, a3, -, -⟩ := wzpt_x hx
        have q2 := wzmn_b a (wzcm 3 r)
        omega
      have key2 : ∀ x ∈ (wzpt r a b).map (fun x => wzse j x v), wzcm 0 x = wzcm 0 r ∧ a ≤ wzcm 2 x ∧ wzcm 3 x ≤ b := fun x hx => by
        obtain ⟨y, hy, e⟩ := List.mem_map.mp hx
        obtain ⟨a0, -, a2, a3, -, -⟩ := wzpt_x hy
        obtain ⟨e0, e2, e3, -, -⟩ := wzse_x (r := y) (v := v) (wzvr_j hv)
        have q1 := wzmx_b a (wzcm 2 r)
        have q2 := wzmn_b b (wzcm 3 r)
        rw [← e]
        refine ⟨by omega, by omega, by omega⟩
      have key3 : ∀ x ∈ wzpt r b 100, wzcm 0 x = wzcm 0 r ∧ b ≤ wzcm 2 x := fun x hx => by
        obtain ⟨a0, -, a2, -, -, -⟩ := wzpt_x hx
        have q1 := wzmx_b b (wzcm 2 r)
        omega
      refine List.pairwise_append.mpr ⟨wzpt_p _ _ _, List.pairwise_append.mpr ⟨?_, wzpt_p _ _ _, fun x hx y hy => ?_⟩, fun x hx y hy => ?_⟩
      · unfold wzpt
        split
        · exact List.pairwise_singleton _ _
        · exact List.Pairwise.nil
      · have h1 := key2 x hx
        have h2 := key3 y hy
        exact Or.inr ⟨by omega, by omega⟩
      · have h1 := key x hx
        rcases List.mem_append.mp hy with q | q
        · have h2 := key2 y q
          exact Or.inr ⟨by omega, by omega⟩
        · have h2 := key3 y q
          exact Or.inr ⟨by omega, by omega⟩
  · rw [wzpt_w hr]
    refine ⟨fun x hx => ?_, List.pairwise_singleton _ _⟩
    rw [List.mem_singleton.mp hx]
    exact ⟨hr, rfl, Int.le_refl _, Int.le_refl _⟩
theorem wzfk_v {k a b : Int} (hab : a ≤ b) (r : wzR) (hr : wzvd r) : (∀ x ∈ wzfk k a b r, wzsb r x) ∧ (wzfk k a b r).Pairwise wzlt := by
  unfold wzfk
  split
  · refine ⟨fun x hx => ?_, List.pairwise_append.mpr ⟨wzpt_p _ _ _, wzpt_p _ _ _, fun x hx y hy => ?_⟩⟩
    · rcases List.mem_append.mp hx with q | q
      · exact wzpt_s hr q
      · exact wzpt_s hr q
    · obtain ⟨a0, -, -, a3, -, -⟩ := wzpt_x hx
      obtain ⟨b0, -, b2, -, -, -⟩ := wzpt_x hy
      have q1 := wzmn_b a (wzcm 3 r)
      have q2 := wzmx_b b (wzcm 2 r)
      exact Or.inr ⟨by omega, by omega⟩
  · rw [wzpt_w hr]
    refine ⟨fun x hx => ?_, List.pairwise_singleton _ _⟩
    rw [List.mem_singleton.mp hx]
    exact ⟨hr, rfl, Int.le_refl _, Int.le_refl _⟩
/-! cells of the reference -/
def wzjx (t k d : Int) : Nat := (1000 * t + 100 * k + d).toNat
def wzenc (r : wzR) (d : Int) : Int := 1 + 2 * (11 * wzcm 1 r + wzcm 4 r) + (if d = wzcm 2 r then 1 else 0)
def wzRel (L : List wzR) (f : Nat → Int32) (t : Int) : Prop := wzVs L ∧ (∀ r ∈ L, ∀ d, wzcm 2 r ≤ d → d < wzcm 3 r → (f (wzjx t (wzcm 0 r) d)).toInt = wzenc r d) ∧ ∀ k d, 0 ≤ k → k ≤ 9 → 0 ≤ d → d ≤ 99 → ¬ (f (wzjx t k d)).toInt = 0 → ∃ r ∈ L, wzcm 0 r = k ∧ wzcm 2 r ≤ d ∧ d < wzcm 3 r
theorem wzenc_d {r : wzR} (h : wzvd r) (d : Int) : 0 < wzenc r d ∧ (wzenc r d - 1) / 2 / 11 = wzcm 1 r ∧ (wzenc r d - 1) / 2 % 11 = wzcm 4 r ∧ ((wzenc r d - 1) % 2 = 1 ↔ d = wzcm 2 r) := by
  obtain ⟨h0, h1, h2, h3⟩ := h
  unfold wzenc
  split
  · rename_i c
    refine ⟨by omega, by omega, by omega, fun _ => c, fun _ => by omega⟩
  · rename_i c
    refine ⟨by omega, by omega, by omega, fun q => by omega, fun q => absurd q c⟩
/-- the cell of a day, by its row -/
theorem wzRel_c {L : List wzR} {f : Nat → Int32} {t k d : Int} (h : wzRel L f t) (hk : 0 ≤ k ∧ k ≤ 9) (hd : 0 ≤ d ∧ d ≤ 99) : ((f (wzjx t k d)).toInt = 0 ∧ ∀ r ∈ L, wzcm 0 r = k → ¬ (wzcm 2 r ≤ d ∧ d < wzcm 3 r)) ∨ (∃ r ∈ L, wzcm 0 r = k ∧ wzcm 2 r ≤ d ∧ d < wzcm 3 r ∧ (f (wzjx t k d)).toInt = wzenc r d) := by
  by_cases c : (f (wzjx t k d)).toInt = 0
  · refine Or.inl ⟨c, fun r hr e q => ?_⟩
    have h1 := h.2.1 r hr d q.1 q.2
    rw [e, c] at h1
    have h2 := (wzenc_d (h.1.1 r hr) d).1
    omega
  · obtain ⟨r, hr, e, h1, h2⟩ := h.2.2 k d hk.1 hk.2 hd.1 hd.2 c
    exact Or.inr ⟨r, hr, e, h1, h2, by rw [← e]; exact h.2.1 r hr d h1 h2⟩
/-- two rows with a day in common are one -/
theorem wzVs_u {L : List wzR} (h : wzVs L) {r s : wzR} (hr : r ∈ L) (hs : s ∈ L) {d : Int} (e : wzcm 0 r = wzcm 0 s) (h1 : wzcm 2 r ≤ d ∧ d < wzcm 3 r) (h2 : wzcm 2 s ≤ d ∧ d < wzcm 3 s) : r = s := by
  have h3 := List.pairwise_iff_getElem.mp h.2
  obtain ⟨i, hi, ei⟩ := List.mem_iff_getElem.mp hr
  obtain ⟨j, hj, ej⟩ := List.mem_iff_getElem.mp hs
  rcases Nat.lt_trichotomy i j with q | q | q
  · have h4 := h3 i j hi hj q
    rw [ei, ej] at h4
    unfold wzlt at h4
    omega
  · subst q
    rw [← ei, ← ej]
  · have h4 := h3 j i hj hi q
    rw [ei, ej] at h4
    unfold wzlt at h4
    omega
/-- nothing is where no row is -/
theorem wzRel_0 {t : Int} {f : Nat → Int32} (h : ∀ i, (f i).toInt = 0) : wzRel [] f t := ⟨⟨fun r h => (nomatch h), List.Pairwise.nil⟩, fun r h => (nomatch h), fun k d _ _ _ _ q => absurd (h _) q⟩
theorem wzRel_f {L : List wzR} {f g : Nat → Int32} {t : Int} (h : wzRel L f t) (e : ∀ k d, 0 ≤ k → k ≤ 9 → 0 ≤ d → d ≤ 99 → (g (wzjx t k d)).toInt = (f (wzjx t k d)).toInt) : wzRel L g t := by
  refine ⟨h.1, fun r hr d h1 h2 => ?_, fun k d h1 h2 h3 h4 q => ?_⟩
  · obtain ⟨v0, v1, v2, v3⟩ := h.1.1 r hr
    rw [e _ d v0.1 v0.2 (by omega) (by omega)]
    exact h.2.1 r hr d h1 h2
  · rw [e k d h1 h2 h3 h4] at q
    exact h.2.2 k d h1 h2 h3 h4 q
/-- the number of rows -/
theorem wzcn_eq {f : Nat → Int32} {t : Nat} : ∀ {L : List wzR} {n : Nat}, n ≤ 1000 → (∀ r ∈ L, wzvd r) → L.Pairwise wzlt → (∀ r ∈ L, (100 * wzcm 0 r + wzcm 2 r) < n) → (∀ j, j < n → (zp f t j = true ↔ ∃ r ∈ L, (j : Int) = 100 * wzcm 0 r + wzcm 2 r)) → fb_ct (zp f t) n = L.length := by
  intro L
  induction hL : L.length generalizing L with
  | zero =>
    intro n _ _ _ _ h
    have e : L = [] := List.length_eq_zero_iff.mp hL
    subst e
    have key : ∀ m, m ≤ n → fb_ct (zp f t) m = 0 := by
      intro m
      induction m with
      | zero => intro _; rfl
      | succ m ih =>
        intro hm
        rw [fb_ct_succ, ih (by omega), if_neg (fun q => by obtain ⟨r, hr, -⟩ := (h m (by omega)).mp q; cases hr)]
    exact key n (Nat.le_refl n)
  | succ k ih =>
    intro n hn hv hp hb h
    have hne : L ≠ [] := fun q => by rw [q] at hL; cases hL
    have e : L = L.dropLast ++ [L.getLast hne] := (List.dropLast_concat_getLast hne).symm
    have hx : L.getLast hne ∈ L := List.getLast_mem hne
    have hxv := hv _ hx
    have hxb := hb _ hx
    have hp2 := hp
    rw [e] at hp2
    obtain ⟨p1, -, p3⟩ := List.pairwise_append.mp hp2
    have hd : ∀ r ∈ L.dropLast, r ∈ L := fun r hr => List.dropLast_subset L hr
    have hlt : ∀ r ∈ L.dropLast, 100 * wzcm 0 r + wzcm 2 r < 100 * wzcm 0 (L.getLast hne) + wzcm 2 (L.getLast hne) := fun r hr => by
      have h1 := p3 r hr _ (List.mem_singleton.mpr rfl)
      obtain ⟨v0, v1, v2, v3⟩ := hv r (hd r hr)
      obtain ⟨w0, w1, w2, w3⟩ := hxv
      unfold wzlt at h1
      omega
    obtain ⟨w0, w1, w2, w3⟩ := hxv
    obtain ⟨m, hm⟩ : ∃ m : Nat, (m : Int) = 100 * wzcm 0 (L.getLast hne) + wzcm 2 (L.getLast hne) := ⟨(100 * wzcm 0 (L.getLast hne) + wzcm 2 (L.getLast hne)).toNat, by omega⟩
    have h1 := ih (L := L.dropLast) (by rw [List.length_dropLast]; omega) (n := m) (by omega) (fun r hr => hv r (hd r hr)) p1 (fun r hr => by have := hlt r hr; omega) (fun j hj => by
      rw [h j (by omega)]
      constructor
      · rintro ⟨r, hr, q⟩
        rw [e] at hr
        rcases List.mem_append.mp hr with q2 | q2
        · exact ⟨r, q2, q⟩
        · rw [List.mem_singleton.mp q2] at q
          omega
      · rintro ⟨r, hr, q⟩
        exact ⟨r, hd r hr, q⟩)
    have key : ∀ i, m + 1 + i ≤ n → fb_ct (zp f t) (m + 1 + i) = k + 1 := by
      intro i
      induction i with
      | zero =>
        intro _
        rw [Nat.add_zero, fb_ct_succ, h1, if_pos ((h m (by omega)).mpr ⟨_, hx, hm⟩)]
      | succ i ih2 =>
        intro hi
        rw [← Nat.add_assoc, fb_ct_succ, ih2 (by omega), if_neg (fun q => by
          obtain ⟨r, hr, q⟩ := (h _ (by omega)).mp q
          rw [e] at hr
          rcases List.mem_append.mp hr with q2 | q2
          · have := hlt r q2
            omega
          · rw [List.mem_singleton.mp q2] at q
            omega)]
    have h9 := key (n - (m + 1)) (by omega)
    rw [show m + 1 + (n - (m + 1)) = n by omega] at h9
    exact h9
theorem wzRel_n {L : List wzR} {f : Nat → Int32} {t : Nat} (h : wzRel L f t) : zcn f t = L.length := by
  unfold zcn
  refine wzcn_eq (Nat.le_refl _) h.1.1 h.1.2 (fun r hr => ?_) (fun j hj => ?_)
  · obtain ⟨v0, v1, v2, v3⟩ := h.1.1 r hr
    omega
  · have ej : 1000 * t + j = wzjx t ((j / 100 : Nat) : Int) ((j % 100 : Nat) : Int) := by
      unfold wzjx
      omega
    have h1 : zp f t j = true ↔ zBg (f (1000 * t + j)) := zbB_iff
    rw [h1, ej]
    rcases wzRel_c h (k := ((j / 100 : Nat) : Int)) (d := ((j % 100 : Nat) : Int)) (by omega) (by omega) with ⟨c, c2⟩ | ⟨r, hr, c1, c2, c3, c4⟩
    · constructor
      · intro q
        have := q.1
        omega
      · rintro ⟨r, hr, q⟩
        obtain ⟨v0, v1, v2, v3⟩ := h.1.1 r hr
        exact absurd ⟨by omega, by omega⟩ (c2 r hr (by omega))
    · have h2 := wzenc_d (h.1.1 r hr) ((j % 100 : Nat) : Int)
      obtain ⟨v0, v1, v2, v3⟩ := h.1.1 r hr
      unfold zBg
      rw [c4]
      constructor
      · intro q
        have h3 := h2.2.2.2.mp q.2
        exact ⟨r, hr, by omega⟩
      · rintro ⟨s, hs, q⟩
        obtain ⟨w0, w1, w2, w3⟩ := h.1.1 s hs
        have e : r = s := wzVs_u h.1 hr hs (d := ((j % 100 : Nat) : Int)) (by omega) ⟨c2, c3⟩ ⟨by omega, by omega⟩
        subst e
        exact ⟨h2.1, h2.2.2.2.mpr (by omega)⟩
