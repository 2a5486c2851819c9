/-! ===== joined; held; all together ===== -/
abbrev wzP : Type := List wzR × List wzR
/-! a line of days -/
def wzln (B : List wzR) (k d : Int) : Nat → Int := fun i => if wzcm 0 (wzg B i) = k ∧ wzcm 2 (wzg B i) ≤ d ∧ d < wzcm 3 (wzg B i) then 1 else 0
theorem wzln_1 {B : List wzR} {k d : Int} {n : Nat} (h : wzcm 0 (wzg B n) = k) (h2 : wzcm 2 (wzg B n) ≤ d) (h3 : d < wzcm 3 (wzg B n)) : wzln B k d n = 1 := if_pos ⟨h, h2, h3⟩
theorem wzln_0 {B : List wzR} {k d : Int} {n : Nat} (h : ¬ (wzcm 0 (wzg B n) = k ∧ wzcm 2 (wzg B n) ≤ d ∧ d < wzcm 3 (wzg B n))) : wzln B k d n = 0 := if_neg h
theorem wzln_b (B : List wzR) (k d : Int) (i : Nat) : 0 ≤ wzln B k d i ∧ wzln B k d i ≤ 1 := by
  unfold wzln
  split <;> omega
def wzhd (D : wzP) : Prop := ∀ i, i < D.1.length → wzhr D.2 (wzg D.1 i)
def wzFjo (f g : Nat → Int32) (t : Int) : Prop := (∀ i, i < 2001 → (∀ k d, 0 ≤ k → k ≤ 9 → 0 ≤ d → d ≤ 99 → i ≠ wzjx t k d) → g i = f i) ∧ ∀ k d, 0 ≤ k → k ≤ 9 → 0 ≤ d → d ≤ 99 →
  (1 ≤ d ∧ (0 < (f (wzjx t k d)).toInt ∧ ((f (wzjx t k d)).toInt - 1) % 2 = 1) ∧ 0 < (f (wzjx t k (d - 1))).toInt ∧ ((f (wzjx t k d)).toInt - 1) / 2 = ((f (wzjx t k (d - 1))).toInt - 1) / 2 → (g (wzjx t k d)).toInt = 1 + 2 * (((f (wzjx t k d)).toInt - 1) / 2)) ∧
  (¬ (1 ≤ d ∧ (0 < (f (wzjx t k d)).toInt ∧ ((f (wzjx t k d)).toInt - 1) % 2 = 1) ∧ 0 < (f (wzjx t k (d - 1))).toInt ∧ ((f (wzjx t k d)).toInt - 1) / 2 = ((f (wzjx t k (d - 1))).toInt - 1) / 2) → (g (wzjx t k d)).toInt = (f (wzjx t k d)).toInt)
def wzJi (L T : List wzR) (i : Nat) : Prop := wzVs T ∧
  (∀ x ∈ T, ∀ d, wzcm 2 x ≤ d → d < wzcm 3 x → ∃ j, ∃ hj : j < L.length, j < i ∧ wzcm 0 L[j] = wzcm 0 x ∧ wzcm 1 L[j] = wzcm 1 x ∧ wzcm 4 L[j] = wzcm 4 x ∧ (wzcm 2 L[j] ≤ d ∧ d < wzcm 3 L[j]) ∧ (d = wzcm 2 x ↔ (d = wzcm 2 L[j] ∧ ¬ wzak L j))) ∧
  (∀ j (hj : j < L.length), j < i → ∀ d, wzcm 2 L[j] ≤ d → d < wzcm 3 L[j] → ∃ x ∈ T, wzcm 0 x = wzcm 0 L[j] ∧ wzcm 2 x ≤ d ∧ d < wzcm 3 x) ∧
  (0 < i → ∃ T' y, T = T' ++ [y] ∧ ∃ hj : i - 1 < L.length, wzcm 0 y = wzcm 0 L[i - 1] ∧ wzcm 1 y = wzcm 1 L[i - 1] ∧ wzcm 4 y = wzcm 4 L[i - 1] ∧ wzcm 3 y = wzcm 3 L[i - 1])
theorem wzse3 (y : wzR) (v : Int) : wzcm 0 (wzse 3 y v) = wzcm 0 y ∧ wzcm 1 (wzse 3 y v) = wzcm 1 y ∧ wzcm 2 (wzse 3 y v) = wzcm 2 y ∧ wzcm 3 (wzse 3 y v) = v ∧ wzcm 4 (wzse 3 y v) = wzcm 4 y := ⟨rfl, rfl, rfl, rfl, rfl⟩
theorem wzJi_s {L T : List wzR} {i : Nat} (hL : wzVs L) (h24 : L.length ≤ 24) (hi : i < L.length) (h : wzJi L T i) : (wzak L i → wzJi L (wzcl T 3 (wzcm 3 (wzg L i))) (i + 1)) ∧ (¬ wzak L i → wzJi L (T ++ wzpt (wzg L i) 0 100) (i + 1)) := by
  have hp := List.pairwise_iff_getElem.mp hL.2
  have hrv := hL.1 _ (List.getElem_mem hi)
  obtain ⟨hA, hB, hC, hD⟩ := h
  refine ⟨fun hk => ?_, fun hk => ?_⟩
  · have hk2 := hk
    obtain ⟨⟨k0, k1, k2⟩, k3, k4⟩ := hk2
    rw [wzg_20 (by omega) h24, wzg_20 hi h24] at k1 k2 k3 k4
    obtain ⟨T', y, eT, hj, y0, y1, y4, y3⟩ := hD k0
    subst eT
    rw [wzg_20 hi h24, wzcl_one]
    obtain ⟨z0, z1, z2, z3, z4⟩ := wzse3 y (wzcm 3 L[i])
    have hyv := hA.1 y (List.mem_append.mpr (Or.inr (List.mem_singleton.mpr rfl)))
    obtain ⟨v0, v1, v2, v3⟩ := hyv
    obtain ⟨r0, r1, r2, r3⟩ := hrv
    obtain ⟨p1, -, p3⟩ := List.pairwise_append.mp hA.2
    refine ⟨⟨fun x hx => ?_, List.pairwise_append.mpr ⟨p1, List.pairwise_singleton _ _, fun x hx s hs => ?_⟩⟩, fun x hx d h1 h2 => ?_, fun j hj2 hji d h1 h2 => ?_, fun _ => ⟨T', wzse 3 y (wzcm 3 L[i]), rfl, hi, ?_, ?_, ?_, ?_⟩⟩
    · rcases List.mem_append.mp hx with q | q
      · exact hA.1 x (List.mem_append.mpr (Or.inl q))
      · rw [List.mem_singleton.mp q]
        exact ⟨by omega, by omega, by omega, by omega⟩
    · rw [List.mem_singleton.mp hs]
      have h5 := p3 x hx y (List.mem_singleton.mpr rfl)
      unfold wzlt at h5 ⊢
      omega
    · rcases List.mem_append.mp hx with q | q
      · obtain ⟨j, hj2, b1, b2⟩ := hB x (List.mem_append.mpr (Or.inl q)) d h1 h2
        exact ⟨j, hj2, by omega, b2⟩
      · have ex := List.mem_singleton.mp q
        subst ex
        rcases Int.lt_or_le d (wzcm 3 y) with c | c
        · obtain ⟨j, hj2, b1, b2, b3, b4, b5, b6⟩ := hB y (List.mem_append.mpr (Or.inr (List.mem_singleton.mpr rfl))) d (by omega) c
          exact ⟨j, hj2, by omega, by omega, by omega, by omega, b5, by rw [z2]; exact b6⟩
        · refine ⟨i, hi, by omega, by omega, by omega, by omega, ⟨by omega, by omega⟩, ⟨fun z => by omega, fun z => absurd hk z.2⟩⟩
    · by_cases c : j = i
      · subst c
        refine ⟨wzse 3 y (wzcm 3 L[j]), List.mem_append.mpr (Or.inr (List.mem_singleton.mpr rfl)), by omega, by omega, by omega⟩
      · obtain ⟨x, hx, b1, b2, b3⟩ := hC j hj2 (by omega) d h1 h2
        rcases List.mem_append.mp hx with q | q
        · exact ⟨x, List.mem_append.mpr (Or.inl q), b1, b2, b3⟩
        · have ex := List.mem_singleton.mp q
          subst ex
          refine ⟨wzse 3 x (wzcm 3 L[i]), List.mem_append.mpr (Or.inr (List.mem_singleton.mpr rfl)), by omega, by omega, by omega⟩
    · rw [z0]; show wzcm 0 y = wzcm 0 L[i]; omega
    · rw [z1]; show wzcm 1 y = wzcm 1 L[i]; omega
    · rw [z4]; show wzcm 4 y = wzcm 4 L[i]; omega
    · exact z3
  · rw [wzg_20 hi h24, wzpt_w hrv]
    have hrv2 := hrv
    obtain ⟨r0, r1, r2, r3⟩ := hrv2
    refine ⟨⟨fun x hx => ?_, List.pairwise_append.mpr ⟨hA.2, List.pairwise_singleton _ _, fun x hx s hs => ?_⟩⟩, fun x hx d h1 h2 => ?_, fun j hj2 hji d h1 h2 => ?_, fun _ => ⟨T, L[i], rfl, hi, rfl, rfl, rfl, rfl⟩⟩
    · rcases List.mem_append.mp hx with q | q
      · exact hA.1 x q
      · rw [List.mem_singleton.mp q]; exact hrv
    · rw [List.mem_singleton.mp hs]
      obtain ⟨v0, v1, v2, v3⟩ := hA.1 x hx
      obtain ⟨j, hj2, b1, b2, b3, b4, b5, b6⟩ := hB x hx (wzcm 3 x - 1) (by omega) (by omega)
      have h5 := hp j i hj2 hi b1
      unfold wzlt at h5 ⊢
      omega
    · rcases List.mem_append.mp hx with q | q
      · obtain ⟨j, hj2, b1, b2⟩ := hB x q d h1 h2
        exact ⟨j, hj2, by omega, b2⟩
      · have ex := List.mem_singleton.mp q
        subst ex
        exact ⟨i, hi, by omega, rfl, rfl, rfl, ⟨h1, h2⟩, ⟨fun z => ⟨z, hk⟩, fun z => z.1⟩⟩
    · by_cases c : j = i
      · subst c
        exact ⟨L[j], List.mem_append.mpr (Or.inr (List.mem_singleton.mpr rfl)), rfl, h1, h2⟩
      · obtain ⟨x, hx, b1, b2, b3⟩ := hC j hj2 (by omega) d h1 h2
        exact ⟨x, List.mem_append.mpr (Or.inl hx), b1, b2, b3⟩
theorem wzJi_a {L : List wzR} (hL : wzVs L) (h24 : L.length ≤ 24) : ∀ i, i ≤ L.length → wzJi L (wzjl L i) i
  | 0, _ => ⟨⟨fun r h => (nomatch h), List.Pairwise.nil⟩, fun r h => (nomatch h), fun j hj h => absurd h (Nat.not_lt_zero j), fun h => absurd h (Nat.lt_irrefl 0)⟩
  | i + 1, hi => by
    have ih := wzJi_s hL h24 (by omega) (wzJi_a hL h24 i (by omega))
    by_cases c : wzak L i
    · rw [wzjl_1 c]; exact ih.1 c
    · rw [wzjl_0 c]; exact ih.2 c
theorem wzVs_jl {L : List wzR} (hL : wzVs L) (h24 : L.length ≤ 24) : wzVs (wzjl L L.length) := (wzJi_a hL h24 L.length (Nat.le_refl _)).1
theorem wzak_c {L : List wzR} {f : Nat → Int32} {t : Int} (h : wzRel L f t) (h24 : L.length ≤ 24) {j : Nat} (hj : j < L.length) : wzak L j ↔ (1 ≤ wzcm 2 L[j] ∧ 0 < (f (wzjx t (wzcm 0 L[j]) (wzcm 2 L[j] - 1))).toInt ∧ (wzenc L[j] (wzcm 2 L[j]) - 1) / 2 = ((f (wzjx t (wzcm 0 L[j]) (wzcm 2 L[j] - 1))).toInt - 1) / 2) := by
  have hp := List.pairwise_iff_getElem.mp h.1.2
  have hrv := h.1.1 _ (List.getElem_mem hj)
  have he := wzenc_d hrv (wzcm 2 L[j])
  obtain ⟨r0, r1, r2, r3⟩ := hrv
  constructor
  · intro hk
    obtain ⟨⟨k0, k1, k2⟩, k3, k4⟩ := hk
    rw [wzg_20 (by omega) h24, wzg_20 hj h24] at k1 k2 k3 k4
    have hsv := h.1.1 _ (List.getElem_mem (show j - 1 < L.length by omega))
    have he2 := wzenc_d hsv (wzcm 2 L[j] - 1)
    obtain ⟨s0, s1, s2, s3⟩ := hsv
    have hc := h.2.1 _ (List.getElem_mem (show j - 1 < L.length by omega)) (wzcm 2 L[j] - 1) (by omega) (by omega)
    rw [k1] at hc
    rw [hc]
    refine ⟨by omega, he2.1, by omega⟩
  · rintro ⟨k1, k2, k3⟩
    rcases wzRel_c h (k := wzcm 0 L[j]) (d := wzcm 2 L[j] - 1) r0 (by omega) with ⟨c, -⟩ | ⟨s, hs, c1, c2, c3, c4⟩
    · omega
    · obtain ⟨m, hm, em⟩ := List.mem_iff_getElem.mp hs
      have hsv := h.1.1 s hs
      have he2 := wzenc_d hsv (wzcm 2 L[j] - 1)
      rw [c4] at k3
      have hmj : m < j := by
        rcases Nat.lt_trichotomy m j with q | q | q
        · exact q
        · subst q
          rw [em] at c3 c2
          omega
        · have h5 := hp j m hj hm q
          rw [em] at h5
          unfold wzlt at h5
          omega
      have h6 := hp m j hm hj hmj
      rw [em] at h6
      have hT : wzcm 3 s = wzcm 2 L[j] := by
        unfold wzlt at h6
        omega
      have hm1 : m = j - 1 := by
        rcases Nat.lt_or_ge m (j - 1) with q | q
        · exfalso
          have h7 := hp m (j - 1) hm (by omega) q
          have h8 := hp (j - 1) j (by omega) hj (by omega)
          have h9 := (h.1.1 _ (List.getElem_mem (show j - 1 < L.length by omega))).2.2.1
          rw [em] at h7
          unfold wzlt at h7 h8
          omega
        · omega
      subst hm1
      refine ⟨⟨by omega, ?_, ?_⟩, ?_, ?_⟩
      · rw [wzg_20 hm h24, wzg_20 hj h24, em]; exact c1
      · rw [wzg_20 hm h24, wzg_20 hj h24, em]; exact hT
      · rw [wzg_20 hm h24, wzg_20 hj h24, em]; omega
      · rw [wzg_20 hm h24, wzg_20 hj h24, em]; omega
theorem wzRel_join {L : List wzR} {f g : Nat → Int32} {t : Int} (h : wzRel L f t) (h24 : L.length ≤ 24) (hg : wzFjo f g t) : wzRel (wzjl L L.length) g t := by
  obtain ⟨hA, hB, hC, -⟩ := wzJi_a h.1 h24 L.length (Nat.le_refl _)
  refine ⟨hA, fun x hx d h1 h2 => ?_, fun k d h1 h2 h3 h4 q => ?_⟩
  · obtain ⟨j, hj, -, b2, b3, b4, b5, b6⟩ := hB x hx d h1 h2
    have hrm := List.getElem_mem hj
    have hrv := h.1.1 _ hrm
    have hz := wzak_c h h24 hj
    have hc := h.2.1 _ hrm d b5.1 b5.2
    have he := wzenc_d hrv d
    obtain ⟨r0, r1, r2, r3⟩ := hrv
    have hgd := hg.2 (wzcm 0 L[j]) d r0.1 r0.2 (by omega) (by omega)
    rw [← b2]
    by_cases c : d = wzcm 2 L[j]
    · subst c
      rw [hc] at hgd
      by_cases c2 : wzak L j
      · have h5 := hz.mp c2
        rw [hgd.1 ⟨h5.1, ⟨he.1, he.2.2.2.mpr rfl⟩, h5.2.1, h5.2.2⟩]
        unfold wzenc
        rw [if_neg (fun z => (b6.mp z).2 c2), if_pos rfl, ← b3, ← b4]
        omega
      · rw [hgd.2 (fun z => c2 (hz.mpr ⟨z.1, z.2.2.1, z.2.2.2⟩))]
        unfold wzenc
        rw [if_pos rfl, if_pos (b6.mpr ⟨rfl, c2⟩), b3, b4]
    · rw [hc] at hgd
      rw [hgd.2 (fun z => c (he.2.2.2.mp z.2.1.2))]
      unfold wzenc
      rw [if_neg c, if_neg (fun z => c (b6.mp z).1), b3, b4]
  · have hgd := hg.2 k d h1 h2 h3 h4
    have hf : ¬ (f (wzjx t k d)).toInt = 0 := fun z => by
      rw [hgd.2 (fun z2 => by have := z2.2.1.1; omega)] at q
      exact q z
    obtain ⟨r, hr, q1, q2, q3⟩ := h.2.2 k d h1 h2 h3 h4 hf
    obtain ⟨j, hj, e⟩ := List.mem_iff_getElem.mp hr
    obtain ⟨x, hx, b1, b2, b3⟩ := hC j hj hj d (by rw [e]; exact q2) (by rw [e]; exact q3)
    exact ⟨x, hx, by rw [b1, e]; exact q1, b2, b3⟩
/-! held -/
theorem wzsm_add (u v : Nat → Int) : ∀ m, wzsm (fun e => u e + v e) m = wzsm u m + wzsm v m
  | 0 => rfl
  | m + 1 => by
    show wzsm (fun e => u e + v e) m + (u m + v m) = wzsm u m + u m + (wzsm v m + v m)
    rw [wzsm_add u v m]
    omega
theorem wzsm_0 : ∀ m, wzsm (fun _ => 0) m = 0
  | 0 => rfl
  | m + 1 => by
    show wzsm (fun _ => 0) m + 0 = 0
    rw [wzsm_0 m]
    rfl
theorem wzsm_cong {u v : Nat → Int} : ∀ m, (∀ e, e < m → u e = v e) → wzsm u m = wzsm v m
  | 0, _ => rfl
  | m + 1, h => by
    show wzsm u m + u m = wzsm v m + v m
    rw [wzsm_cong m (fun e he => h e (by omega)), h m (by omega)]
theorem wzov_c (r : wzR) (a : Int) : ∀ m : Nat, wzov r a (a + m) = wzsm (fun e => if wzcm 2 r ≤ a + e ∧ a + e < wzcm 3 r then 1 else 0) m
  | 0 => by
    show wzov r a (a + ((0 : Nat) : Int)) = 0
    unfold wzov
    have h1 := wzmn_b (a + ((0 : Nat) : Int)) (wzcm 3 r)
    have h2 := wzmx_b a (wzcm 2 r)
    have h3 := wzmx_b 0 (wzmn (a + ((0 : Nat) : Int)) (wzcm 3 r) - wzmx a (wzcm 2 r))
    omega
  | m + 1 => by
    show wzov r a (a + ((m + 1 : Nat) : Int)) = wzsm (fun e => if wzcm 2 r ≤ a + e ∧ a + e < wzcm 3 r then 1 else 0) m + (if wzcm 2 r ≤ a + m ∧ a + m < wzcm 3 r then 1 else 0)
    rw [← wzov_c r a m]
    unfold wzov
    have h1 := wzmn_b (a + ((m + 1 : Nat) : Int)) (wzcm 3 r)
    have h2 := wzmx_b a (wzcm 2 r)
    have h3 := wzmx_b 0 (wzmn (a + ((m + 1 : Nat) : Int)) (wzcm 3 r) - wzmx a (wzcm 2 r))
    have h4 := wzmn_b (a + (m : Int)) (wzcm 3 r)
    have h5 := wzmx_b 0 (wzmn (a + (m : Int)) (wzcm 3 r) - wzmx a (wzcm 2 r))
    split <;> omega
theorem wzdw_s (B : List wzR) (k a : Int) (m : Nat) : ∀ n, wzsm (wzdw B k a (a + m)) n = wzsm (fun e => wzsm (wzln B k (a + e)) n) m
  | 0 => (wzsm_0 m).symm
  | n + 1 => by
    show wzsm (wzdw B k a (a + m)) n + wzdw B k a (a + m) n = wzsm (fun e => wzsm (wzln B k (a + e)) n + wzln B k (a + e) n) m
    rw [wzsm_add, wzdw_s B k a m n]
    congr 1
    by_cases c : wzcm 0 (wzg B n) = k
    · rw [wzdw_1 c, wzov_c]
      refine wzsm_cong m (fun e _ => ?_)
      unfold wzln
      by_cases c2 : wzcm 2 (wzg B n) ≤ a + e ∧ a + e < wzcm 3 (wzg B n)
      · rw [if_pos c2, if_pos ⟨c, c2⟩]
      · rw [if_neg c2, if_neg (fun q => c2 q.2)]
    · rw [wzdw_0 c]
      rw [wzsm_cong (v := fun _ => 0) m (fun e _ => wzln_0 (fun q => c q.1)), wzsm_0]
theorem wzsm_u {f : Nat → Int} (h01 : ∀ i, f i = 0 ∨ f i = 1) (hu : ∀ i j, f i = 1 → f j = 1 → i = j) : ∀ n, (wzsm f n = 0 ∧ ∀ i, i < n → f i = 0) ∨ (wzsm f n = 1 ∧ ∃ i, i < n ∧ f i = 1)
  | 0 => Or.inl ⟨rfl, fun i h => absurd h (Nat.not_lt_zero i)⟩
  | n + 1 => by
    have e : wzsm f (n + 1) = wzsm f n + f n := rfl
    rw [e]
    rcases wzsm_u h01 hu n with ⟨h1, h2⟩ | ⟨h1, i, hi, h2⟩
    · rcases h01 n with q | q
      · refine Or.inl ⟨by omega, fun i hi => ?_⟩
        by_cases c : i = n
        · rw [c]; exact q
        · exact h2 i (by omega)
      · exact Or.inr ⟨by omega, n, by omega, q⟩
    · rcases h01 n with q | q
      · exact Or.inr ⟨by omega, i, by omega, h2⟩
      · have := hu i n h2 q
        omega
theorem wzln_u {B : List wzR} (hB : wzVs B) (k d : Int) : (∀ i, wzln B k d i = 0 ∨ wzln B k d i = 1) ∧ ∀ i j, wzln B k d i = 1 → wzln B k d j = 1 → i = j := by
  have h01 : ∀ i, wzln B k d i = 0 ∨ wzln B k d i = 1 := fun i => by
    unfold wzln
    split
    · exact Or.inr rfl
    · exact Or.inl rfl
  have key : ∀ i, wzln B k d i = 1 → ∃ h : i < B.length, i < 24 ∧ wzcm 0 B[i] = k ∧ wzcm 2 B[i] ≤ d ∧ d < wzcm 3 B[i] := fun i hi => by
    unfold wzln at hi
    split at hi
    · rename_i c
      by_cases c2 : i < B.length ∧ i < 24
      · rw [wzg_in c2.1 c2.2] at c
        exact ⟨c2.1, c2.2, c⟩
      · rw [wzg_out (by omega), wzcm_z, wzcm_z, wzcm_z] at c
        omega
    · exact absurd hi (by decide)
  refine ⟨h01, fun i j hi hj => ?_⟩
  obtain ⟨i1, -, i2, i3⟩ := key i hi
  obtain ⟨j1, -, j2, j3⟩ := key j hj
  have hp := List.pairwise_iff_getElem.mp hB.2
  rcases Nat.lt_trichotomy i j with q | q | q
  · have h4 := hp i j i1 j1 q
    unfold wzlt at h4
    omega
  · exact q
  · have h4 := hp j i j1 i1 q
    unfold wzlt at h4
    omega
theorem wzsm_f {u : Nat → Int} (h : ∀ e, 0 ≤ u e ∧ u e ≤ 1) : ∀ m : Nat, wzsm u m ≤ m ∧ (wzsm u m = m ↔ ∀ e, e < m → u e = 1)
  | 0 => ⟨by show (0 : Int) ≤ ((0 : Nat) : Int); decide, fun _ e he => absurd he (Nat.not_lt_zero e), fun _ => rfl⟩
  | m + 1 => by
    obtain ⟨h1, h2⟩ := wzsm_f h m
    have h3 := h m
    have e : wzsm u (m + 1) = wzsm u m + u m := rfl
    rw [e]
    refine ⟨by omega, fun q e he => ?_, fun q => ?_⟩
    · by_cases c : e = m
      · rw [c]; omega
      · exact h2.mp (by omega) e (by omega)
    · have h4 := h2.mpr (fun e he => q e (by omega))
      have h5 := q m (by omega)
      omega
theorem wzhr_d {B : List wzR} (hB : wzVs B) {r : wzR} (hr : wzcm 2 r ≤ wzcm 3 r) : wzhr B r ↔ (wzcm 4 r = 10 ∨ ∀ d, wzcm 2 r ≤ d → d < wzcm 3 r → wzsm (wzln B (wzcm 4 r) d) B.length = 1) := by
  have h1 := wzdw_s B (wzcm 4 r) (wzcm 2 r) (wzcm 3 r - wzcm 2 r).toNat B.length
  rw [show wzcm 2 r + ((wzcm 3 r - wzcm 2 r).toNat : Int) = wzcm 3 r by omega] at h1
  have hb : ∀ e : Nat, 0 ≤ wzsm (wzln B (wzcm 4 r) (wzcm 2 r + e)) B.length ∧ wzsm (wzln B (wzcm 4 r) (wzcm 2 r + e)) B.length ≤ 1 := fun e => by
    have h2 := wzln_u hB (wzcm 4 r) (wzcm 2 r + e)
    rcases wzsm_u h2.1 h2.2 B.length with q | q <;> omega
  have h2 := wzsm_f hb (wzcm 3 r - wzcm 2 r).toNat
  unfold wzhr
  rw [h1]
  constructor
  · rintro (q | q)
    · exact Or.inl q
    · refine Or.inr (fun d h3 h4 => ?_)
      have h5 := h2.2.mp (by omega) (d - wzcm 2 r).toNat (by omega)
      rw [show wzcm 2 r + ((d - wzcm 2 r).toNat : Int) = d by omega] at h5
      exact h5
  · rintro (q | q)
    · exact Or.inl q
    · refine Or.inr ?_
      rw [h2.2.mpr (fun e he => q _ (by omega) (by omega))]
      omega
/-- of the reference: each ref is there at its day -/
def wzFhd (g : Nat → Int32) : Prop := ∀ k d, 0 ≤ k → k ≤ 9 → 0 ≤ d → d ≤ 99 → 0 < (g (wzjx 0 k d)).toInt → ((g (wzjx 0 k d)).toInt - 1) / 2 % 11 = 10 ∨ 0 < (g (wzjx 1 (((g (wzjx 0 k d)).toInt - 1) / 2 % 11) d)).toInt
theorem wzln_r {B : List wzR} {g : Nat → Int32} (hB : wzRel B g 1) (h24 : B.length ≤ 24) {k d : Int} (hk : 0 ≤ k ∧ k ≤ 9) (hd : 0 ≤ d ∧ d ≤ 99) : wzsm (wzln B k d) B.length = 1 ↔ 0 < (g (wzjx 1 k d)).toInt := by
  have h2 := wzln_u hB.1 k d
  rcases wzRel_c hB hk hd with ⟨c, c2⟩ | ⟨s, hs, c1, c2, c3, c4⟩
  · constructor
    · intro q
      rcases wzsm_u h2.1 h2.2 B.length with z | ⟨-, i, hi, z⟩
      · omega
      · unfold wzln at z
        split at z
        · rename_i c3
          rw [wzg_20 hi h24] at c3
          exact absurd c3.2 (c2 _ (List.getElem_mem hi) c3.1)
        · exact absurd z (by decide)
    · intro q
      omega
  · have he := wzenc_d (hB.1.1 s hs) d
    rw [c4]
    refine ⟨fun _ => he.1, fun _ => ?_⟩
    obtain ⟨i, hi, ei⟩ := List.mem_iff_getElem.mp hs
    rcases wzsm_u h2.1 h2.2 B.length with z | z
    · have h3 := z.2 i hi
      rw [wzln_1 (by rw [wzg_20 hi h24, ei]; exact c1) (by rw [wzg_20 hi h24, ei]; exact c2) (by rw [wzg_20 hi h24, ei]; exact c3)] at h3
      exact absurd h3 (by decide)
    · exact z.1
theorem wzhd_r {D : wzP} {g : Nat → Int32} (hA : wzRel D.1 g 0) (hB : wzRel D.2 g 1) (h1 : D.1.length ≤ 24) (h2 : D.2.length ≤ 24) : wzhd D ↔ wzFhd g := by
  constructor
  · intro h k d k1 k2 d1 d2 q
    rcases wzRel_c hA ⟨k1, k2⟩ ⟨d1, d2⟩ with ⟨c, -⟩ | ⟨s, hs, c1, c2, c3, c4⟩
    · omega
    · have hsv := hA.1.1 s hs
      have he := wzenc_d hsv d
      obtain ⟨i, hi, ei⟩ := List.mem_iff_getElem.mp hs
      have h3 := h i hi
      rw [wzg_20 hi h1, ei, wzhr_d hB.1 (by have := hsv.2.2.1; omega)] at h3
      rw [c4, he.2.2.1]
      obtain ⟨v0, v1, v2, v3⟩ := hsv
      rcases h3 with z | z
      · exact Or.inl z
      · by_cases z2 : wzcm 4 s = 10
        · exact Or.inl z2
        · exact Or.inr ((wzln_r hB h2 (by omega) ⟨d1, d2⟩).mp (z d c2 c3))
  · intro h i hi
    have hs := List.getElem_mem hi
    have hsv := hA.1.1 _ hs
    rw [wzg_20 hi h1, wzhr_d hB.1 (by have := hsv.2.2.1; omega)]
    by_cases z2 : wzcm 4 D.1[i] = 10
    · exact Or.inl z2
    · refine Or.inr (fun d d1 d2 => ?_)
      have he := wzenc_d hsv d
      have hc := hA.2.1 _ hs d d1 d2
      obtain ⟨v0, v1, v2, v3⟩ := hsv
      have h3 := h (wzcm 0 D.1[i]) d v0.1 v0.2 (by omega) (by omega) (by rw [hc]; exact he.1)
      rw [hc, he.2.2.1] at h3
      exact (wzln_r hB h2 (by omega) (by omega)).mpr (h3.resolve_left z2)
/-- what follows a cut of table 1: all that refers is covered, by single rows -/
def wzcv (A B : List wzR) (k : Int) : Prop := ∀ i, i < A.length → wzcm 4 (wzg A i) = k → wzcm 2 (wzg A i) < wzcm 3 (wzg A i) ∧ ∀ d : Int, wzcm 2 (wzg A i) ≤ d → d < wzcm 3 (wzg A i) → wzsm (wzln B k d) B.length = 1
theorem wzhd_c {A B : List wzR} {k : Int} (hA : wzVs A) (hB : wzVs B) (h1 : A.length ≤ 24) (hk : k ≤ 9) (h : wzhd (A, B)) : wzcv A B k := by
  intro i hi e
  have h3 := h i hi
  have hs := hA.1 _ (List.getElem_mem hi)
  obtain ⟨v0, v1, v2, v3⟩ := hs
  have h4 : wzhr B (wzg A i) := h3
  rw [wzhr_d hB (by rw [wzg_20 hi h1]; omega)] at h4
  rw [e] at h4
  refine ⟨by rw [wzg_20 hi h1]; omega, h4.resolve_left (by omega)⟩
/-! both -/
def wzRL (P : wzP) (f : Nat → Int32) : Prop := (wzRel P.1 f 0 ∧ wzRel P.2 f 1) ∧ (P.1.length ≤ 20 ∧ P.2.length ≤ 20) ∧ f 2000 = 0
def wzCtk (P D P' : wzP) : Prop := (D.1.length ≤ 20 ∧ D.2.length ≤ 20 → P' = D) ∧ (¬ (D.1.length ≤ 20 ∧ D.2.length ≤ 20) → P' = P)
def wzFtk (f g f' : Nat → Int32) : Prop := (zcn g 0 ≤ 20 ∧ zcn g 1 ≤ 20 → ∀ i, i < 2001 → f' i = g i) ∧ (¬ (zcn g 0 ≤ 20 ∧ zcn g 1 ≤ 20) → ∀ i, i < 2001 → f' i = f i)
theorem wzRel_i {L : List wzR} {f g : Nat → Int32} {t : Int} (ht : 0 ≤ t ∧ t ≤ 1) (h : wzRel L f t) (e : ∀ i, i < 2001 → g i = f i) : wzRel L g t := wzRel_f h (fun k d h1 h2 h3 h4 => by rw [e _ (by unfold wzjx; omega)])
theorem wzRL_i {P : wzP} {f g : Nat → Int32} (h : wzRL P f) (e : ∀ i, i < 2001 → g i = f i) : wzRL P g := ⟨⟨wzRel_i (by omega) h.1.1 e, wzRel_i (by omega) h.1.2 e⟩, h.2.1, by rw [e 2000 (by decide)]; exact h.2.2⟩
theorem wzRL_t {P D P' : wzP} {f g f' : Nat → Int32} (h : wzRL P f) (h1 : wzRel D.1 g 0) (h2 : wzRel D.2 g 1) (h3 : g 2000 = 0) (c : wzCtk P D P') (d : wzFtk f g f') : wzRL P' f' := by
  have e1 : zcn g 0 = D.1.length := wzRel_n (t := 0) h1
  have e2 : zcn g 1 = D.2.length := wzRel_n (t := 1) h2
  unfold wzFtk at d
  rw [e1, e2] at d
  by_cases z : D.1.length ≤ 20 ∧ D.2.length ≤ 20
  · rw [c.1 z]
    exact wzRL_i ⟨⟨h1, h2⟩, z, h3⟩ (d.1 z)
  · rw [c.2 z]
    exact wzRL_i h (d.2 z)
