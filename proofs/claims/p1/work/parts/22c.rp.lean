/-! ===== what acts make of rows, and of days ===== -/
def wzno (L : List wzR) (k a b : Int) : Prop := ∀ i, i < L.length → ¬ wztc (wzg L i) k a b
def wzin9 (L : List wzR) (n : Nat) (x : wzR) (i : Nat) : List wzR := (L.take n ++ [x]) ++ ((L.drop n).take (i - n)).flatMap (fun r => wzpt r 0 100)
theorem wzsm_pre {f : Nat → Int} : ∀ N, (∀ i, i < N → f i = 0 ∨ f i = 1) → (∀ i j, i < j → j < N → f j = 1 → f i = 1) → ∃ m : Nat, m ≤ N ∧ wzsm f N = m ∧ ∀ i, i < N → (f i = 1 ↔ i < m)
  | 0, _, _ => ⟨0, Nat.le_refl 0, rfl, fun i h => absurd h (Nat.not_lt_zero i)⟩
  | N + 1, h1, h2 => by
    obtain ⟨m, hm, e, h3⟩ := wzsm_pre N (fun i hi => h1 i (by omega)) (fun i j a b => h2 i j a (by omega))
    have e2 : wzsm f (N + 1) = wzsm f N + f N := rfl
    rcases h1 N (by omega) with q | q
    · refine ⟨m, by omega, by rw [e2, e, q]; omega, fun i hi => ?_⟩
      by_cases c : i = N
      · subst c
        rw [q]
        omega
      · exact h3 i (by omega)
    · have hmN : m = N := by
        rcases Nat.lt_or_ge m N with c | c
        · have h4 := (h3 m c).mp (h2 m N c (by omega) q)
          omega
        · omega
      refine ⟨N + 1, Nat.le_refl _, by rw [e2, e, q, hmN]; rfl, fun i hi => ⟨fun _ => hi, fun _ => ?_⟩⟩
      by_cases c : i = N
      · rw [c]; exact q
      · exact h2 i N (by omega) (by omega) q
theorem wzg_20 {L : List wzR} {i : Nat} (h : i < L.length) (h2 : L.length ≤ 24) : wzg L i = L[i] := wzg_in h (by omega)
theorem wzno_m {L : List wzR} {k a b : Int} (h2 : L.length ≤ 24) : wzno L k a b ↔ ∀ r ∈ L, ¬ wztc r k a b := by
  constructor
  · intro h r hr
    obtain ⟨i, hi, e⟩ := List.mem_iff_getElem.mp hr
    have h3 := h i hi
    rw [wzg_20 hi h2, e] at h3
    exact h3
  · intro h i hi
    rw [wzg_20 hi h2]
    exact h _ (List.getElem_mem hi)
/-- of the reference: nothing of a period -/
def wzrn (f : Nat → Int32) (t k a b : Int) : Prop := ∀ d, a ≤ d → d < b → ¬ (0 < (f (wzjx t k d)).toInt ∧ (d = a ∨ ((f (wzjx t k d)).toInt - 1) % 2 = 1))
theorem wzno_rn {L : List wzR} {f : Nat → Int32} {t k a b : Int} (h : wzRel L f t) (h2 : L.length ≤ 24) (hk : 0 ≤ k ∧ k ≤ 9) (hp : 0 ≤ a ∧ a < b ∧ b ≤ 100) : wzno L k a b ↔ wzrn f t k a b := by
  rw [wzno_m h2]
  constructor
  · intro h3 d hd1 hd2 q
    rcases wzRel_c h hk (d := d) (by omega) with ⟨c, -⟩ | ⟨r, hr, c1, c2, c3, c4⟩
    · omega
    · have hv := (h.1.1 r hr).2.2.1
      exact h3 r hr ⟨c1, by omega, by omega, by omega, hp.2.1⟩
  · intro h3 r hr q
    obtain ⟨q0, q1, q2, q3, q4⟩ := q
    have hx := wzmx_b a (wzcm 2 r)
    have hv := h.1.1 r hr
    have hc := h.2.1 r hr (wzmx a (wzcm 2 r)) (by omega) (by omega)
    have he := wzenc_d hv (wzmx a (wzcm 2 r))
    rw [q0] at hc
    refine h3 (wzmx a (wzcm 2 r)) (by omega) (by omega) ⟨by rw [hc]; exact he.1, ?_⟩
    rcases hx with c | c
    · exact Or.inr (by rw [hc]; exact he.2.2.2.mpr c.1)
    · exact Or.inl c.1
/-- other cells than those of a key of a table -/
def wzot (f g : Nat → Int32) (t k : Int) : Prop := ∀ i, i < 2001 → (∀ d, 0 ≤ d → d ≤ 99 → i ≠ wzjx t k d) → g i = f i
theorem wzot_o {f g : Nat → Int32} {t k t' k' d : Int} (h : wzot f g t k) (ht : 0 ≤ t ∧ t ≤ 1) (hk : 0 ≤ k ∧ k ≤ 9) (ht' : 0 ≤ t' ∧ t' ≤ 1) (hk' : 0 ≤ k' ∧ k' ≤ 9) (hd : 0 ≤ d ∧ d ≤ 99) (c : ¬ (t' = t ∧ k' = k)) : g (wzjx t' k' d) = f (wzjx t' k' d) := by
  refine h _ ?_ (fun e h1 h2 => ?_)
  · unfold wzjx; omega
  · unfold wzjx; omega
theorem wzRel_o {L : List wzR} {f g : Nat → Int32} {t k t' : Int} (h : wzRel L f t') (hg : wzot f g t k) (ht : 0 ≤ t ∧ t ≤ 1) (hk : 0 ≤ k ∧ k ≤ 9) (ht' : 0 ≤ t' ∧ t' ≤ 1) (c : ¬ t' = t) : wzRel L g t' := wzRel_f h (fun k' d h1 h2 h3 h4 => by rw [wzot_o hg ht hk ht' ⟨h1, h2⟩ ⟨h3, h4⟩ (fun q => c q.1)])
/-! a row comes -/
def wzFad (f g : Nat → Int32) (t k v a b : Int) : Prop := wzot f g t k ∧ ∀ d, 0 ≤ d → d ≤ 99 → (a ≤ d ∧ d < b → (g (wzjx t k d)).toInt = 1 + 2 * (11 * v + 10) + (if d = a then 1 else 0)) ∧ (¬ (a ≤ d ∧ d < b) → g (wzjx t k d) = f (wzjx t k d))
theorem wzfm_w : ∀ {L : List wzR}, (∀ r ∈ L, wzvd r) → L.flatMap (fun r => wzpt r 0 100) = L
  | [], _ => rfl
  | r :: L, h => by
    rw [List.flatMap_cons, wzpt_w (h r (List.mem_cons_self ..)), wzfm_w (fun x hx => h x (List.mem_cons_of_mem r hx))]
    rfl
theorem wzin_e {L : List wzR} {n : Nat} {x : wzR} (h : ∀ r ∈ L, wzvd r) : wzin9 L n x L.length = (L.take n ++ [x]) ++ L.drop n := by
  unfold wzin9
  have e : (L.drop n).take (L.length - n) = L.drop n := List.take_of_length_le (by rw [List.length_drop]; exact Nat.le_refl _)
  rw [e, wzfm_w (fun r hr => h r (List.mem_of_mem_drop hr))]
theorem wznf_w {L : List wzR} {k a : Int} {n : Nat} (hL : wzVs L) (h2 : L.length ≤ 24) (hn : (n : Int) = wzsm (wznf L k a) L.length) (i : Nat) (hi : i < L.length) : (wzcm 0 L[i] < k ∨ (wzcm 0 L[i] = k ∧ wzcm 2 L[i] < a)) ↔ i < n := by
  have hp := List.pairwise_iff_getElem.mp hL.2
  have key : ∀ j (hj : j < L.length), wznf L k a j = 1 ↔ (wzcm 0 L[j] < k ∨ (wzcm 0 L[j] = k ∧ wzcm 2 L[j] < a)) := fun j hj => by
    unfold wznf
    rw [wzg_20 hj h2]
    split
    · rename_i c
      exact ⟨fun _ => c, fun _ => rfl⟩
    · rename_i c
      exact ⟨fun q => absurd q (by decide), fun q => absurd q c⟩
  obtain ⟨m, -, hm, h3⟩ := wzsm_pre (f := wznf L k a) L.length (fun j hj => by unfold wznf; split; exact Or.inr rfl; exact Or.inl rfl) (fun i j hij hj q => by
    have h4 := hp i j (by omega) hj hij
    have hv := (hL.1 _ (List.getElem_mem (show i < L.length by omega))).2.2.1
    have h5 := (key j hj).mp q
    refine (key i (by omega)).mpr ?_
    unfold wzlt at h4
    omega)
  have e : n = m := by omega
  rw [e, ← h3 i hi]
  exact (key i hi).symm
theorem wzRel_add {L : List wzR} {f g : Nat → Int32} {t k v a b : Int} {n : Nat} (h : wzRel L f t) (h2 : L.length ≤ 24) (hx : wzvd (k, v, a, b, 10)) (hno : ∀ r ∈ L, ¬ wztc r k a b) (hn : (n : Int) = wzsm (wznf L k a) L.length) (ht : 0 ≤ t ∧ t ≤ 1) (hg : wzFad f g t k v a b) : wzRel (wzin9 L n (k, v, a, b, 10) L.length) g t := by
  rw [wzin_e h.1.1]
  obtain ⟨x0, x1, x2, x3⟩ := hx
  have x0' : 0 ≤ k ∧ k ≤ 9 := x0
  have x1' : 0 ≤ v ∧ v ≤ 99 := x1
  have x2' : 0 ≤ a ∧ a < b ∧ b ≤ 100 := x2
  have hmem : ∀ r, r ∈ (L.take n ++ [(k, v, a, b, 10)]) ++ L.drop n ↔ r ∈ L ∨ r = (k, v, a, b, 10) := fun r => by
    conv => rhs; rw [← List.take_append_drop n L]
    simp only [List.mem_append, List.mem_singleton]
    constructor
    · rintro ((q | q) | q)
      · exact Or.inl (Or.inl q)
      · exact Or.inr q
      · exact Or.inl (Or.inr q)
    · rintro ((q | q) | q)
      · exact Or.inl (Or.inl q)
      · exact Or.inr q
      · exact Or.inl (Or.inr q)
  have hw := wznf_w h.1 h2 hn
  have hap : ∀ r ∈ L, wzcm 0 r = k → wzcm 3 r ≤ a ∨ b ≤ wzcm 2 r := fun r hr e => by
    have h3 := hno r hr
    have h4 := (h.1.1 r hr).2.2.1
    rcases Int.lt_or_le a (wzcm 3 r) with c | c
    · rcases Int.lt_or_le (wzcm 2 r) b with c2 | c2
      · exact absurd ⟨e, c, c2, by omega, x2'.2.1⟩ h3
      · exact Or.inr c2
    · exact Or.inl c
  have hsp := h.1.2
  rw [← List.take_append_drop n L] at hsp
  obtain ⟨p1, p2, p3⟩ := List.pairwise_append.mp hsp
  have hta : ∀ r ∈ L.take n, wzlt r (k, v, a, b, 10) := fun r hr => by
    obtain ⟨i, hi, e⟩ := List.mem_iff_getElem.mp hr
    rw [List.length_take] at hi
    rw [List.getElem_take] at e
    have h3 := (hw i (by omega)).mpr (by omega)
    rw [e] at h3
    have hrL : r ∈ L := List.mem_of_mem_take hr
    have h4 := (h.1.1 r hrL).2.2.1
    rcases h3 with q | q
    · exact Or.inl q
    · refine Or.inr ⟨q.1, ?_⟩
      show wzcm 3 r ≤ a
      rcases hap r hrL q.1 with c | c
      · exact c
      · omega
  have hdr : ∀ r ∈ L.drop n, wzlt (k, v, a, b, 10) r := fun r hr => by
    obtain ⟨i, hi, e⟩ := List.mem_iff_getElem.mp hr
    rw [List.length_drop] at hi
    rw [List.getElem_drop] at e
    have h3 : ¬ (wzcm 0 (L[n + i]'(by omega)) < k ∨ (wzcm 0 (L[n + i]'(by omega)) = k ∧ wzcm 2 (L[n + i]'(by omega)) < a)) := fun q => absurd ((hw (n + i) (by omega)).mp q) (by omega)
    rw [e] at h3
    have hrL : r ∈ L := List.mem_of_mem_drop hr
    have h4 := (h.1.1 r hrL).2.2.1
    rcases Int.lt_trichotomy (wzcm 0 r) k with q | q | q
    · exact absurd (Or.inl q) h3
    · refine Or.inr ⟨q.symm, ?_⟩
      show b ≤ wzcm 2 r
      rcases hap r hrL q with c | c
      · have h5 : ¬ wzcm 2 r < a := fun z => h3 (Or.inr ⟨q, z⟩)
        omega
      · exact c
    · exact Or.inl q
  refine ⟨⟨fun r hr => ?_, ?_⟩, fun r hr d h3 h4 => ?_, fun k' d h3 h4 h5 h6 q => ?_⟩
  · rcases (hmem r).mp hr with q | q
    · exact h.1.1 r q
    · rw [q]; exact ⟨x0, x1, x2, x3⟩
  · refine List.pairwise_append.mpr ⟨List.pairwise_append.mpr ⟨p1, List.pairwise_singleton _ _, fun r hr s hs => ?_⟩, p2, fun r hr s hs => ?_⟩
    · rw [List.mem_singleton.mp hs]; exact hta r hr
    · rcases List.mem_append.mp hr with q | q
      · exact p3 r q s hs
      · rw [List.mem_singleton.mp q]; exact hdr s hs
  · rcases (hmem r).mp hr with q | q
    · obtain ⟨v0, v1, v2, v3⟩ := h.1.1 r q
      have h7 := h.2.1 r q d h3 h4
      by_cases c : wzcm 0 r = k
      · have h8 := hap r q c
        rw [c] at h7 ⊢
        rw [(hg.2 d (by omega) (by omega)).2 (by omega)]
        exact h7
      · rw [wzot_o hg.1 ht x0' ht v0 (by omega) (fun z => c z.2)]
        exact h7
    · subst q
      have h3' : a ≤ d := h3
      have h4' : d < b := h4
      show (g (wzjx t k d)).toInt = 1 + 2 * (11 * v + 10) + (if d = a then 1 else 0)
      exact (hg.2 d (by omega) (by omega)).1 ⟨h3', h4'⟩
  · by_cases c : k' = k ∧ a ≤ d ∧ d < b
    · exact ⟨_, (hmem _).mpr (Or.inr rfl), c.1.symm, c.2.1, c.2.2⟩
    · have e : g (wzjx t k' d) = f (wzjx t k' d) := by
        by_cases c2 : k' = k
        · rw [c2]
          exact (hg.2 d h5 h6).2 (fun z => c ⟨c2, z⟩)
        · exact wzot_o hg.1 ht x0' ht ⟨h3, h4⟩ ⟨h5, h6⟩ (fun z => c2 z.2)
      rw [e] at q
      obtain ⟨r, hr, q1, q2, q3⟩ := h.2.2 k' d h3 h4 h5 h6 q
      exact ⟨r, (hmem r).mpr (Or.inl hr), q1, q2, q3⟩
/-! a value, or a ref, is another one through a period -/
def wzdc (j : Nat) (x : Int) : Int := if j = 1 then (x - 1) / 2 / 11 else (x - 1) / 2 % 11
def wzdn9 (j : Nat) (x v : Int) : Int := if j = 1 then 11 * v + (x - 1) / 2 % 11 else 11 * ((x - 1) / 2 / 11) + v
def wzFtn (f g : Nat → Int32) (t k : Int) (j : Nat) (v a b : Int) : Prop := wzot f g t k ∧ ∀ d, 0 ≤ d → d ≤ 99 →
  (a ≤ d ∧ d < b ∧ 0 < (f (wzjx t k d)).toInt ∧ ¬ wzdc j (f (wzjx t k d)).toInt = v → (g (wzjx t k d)).toInt = 1 + 2 * wzdn9 j (f (wzjx t k d)).toInt v + (if d = a ∨ ((f (wzjx t k d)).toInt - 1) % 2 = 1 then 1 else 0)) ∧
  (d = b ∧ 0 < (f (wzjx t k b)).toInt ∧ 0 < (f (wzjx t k (b - 1))).toInt ∧ ¬ wzdc j (f (wzjx t k (b - 1))).toInt = v → (g (wzjx t k d)).toInt = 1 + 2 * (((f (wzjx t k b)).toInt - 1) / 2) + 1) ∧
  (¬ (a ≤ d ∧ d < b ∧ 0 < (f (wzjx t k d)).toInt ∧ ¬ wzdc j (f (wzjx t k d)).toInt = v) → ¬ (d = b ∧ 0 < (f (wzjx t k b)).toInt ∧ 0 < (f (wzjx t k (b - 1))).toInt ∧ ¬ wzdc j (f (wzjx t k (b - 1))).toInt = v) → g (wzjx t k d) = f (wzjx t k d))
theorem wzdc_e {j : Nat} {r : wzR} {d : Int} (hj : j = 1 ∨ j = 4) (h : wzvd r) : wzdc j (wzenc r d) = wzcm j r := by
  have he := wzenc_d h d
  unfold wzdc
  rcases hj with q | q
  · rw [if_pos q, q]; exact he.2.1
  · rw [if_neg (by omega), q]; exact he.2.2.1
theorem wzdn_e {j : Nat} {r : wzR} {d v : Int} (hj : j = 1 ∨ j = 4) (h : wzvd r) : wzdn9 j (wzenc r d) v = 11 * wzcm 1 (wzse j r v) + wzcm 4 (wzse j r v) := by
  have he := wzenc_d h d
  obtain ⟨-, -, -, e1, e4⟩ := wzse_x (r := r) (v := v) hj
  unfold wzdn9
  rw [e1, e4]
  rcases hj with q | q
  · rw [if_pos q, if_pos q, if_pos q, he.2.2.1]
  · rw [if_neg (by omega), if_neg (by omega), if_neg (by omega), he.2.1]
theorem wzRel_set {L : List wzR} {f g : Nat → Int32} {t k v a b : Int} {j : Nat} (h : wzRel L f t) (hk : 0 ≤ k ∧ k ≤ 9) (hp : 0 ≤ a ∧ a < b ∧ b ≤ 100) (hv : wzvr j v) (ht : 0 ≤ t ∧ t ≤ 1) (hg : wzFtn f g t k j v a b) : wzRel (L.flatMap (wzfc k a b j v)) g t := by
  have hj := wzvr_j hv
  refine ⟨wzVs_fm (wzfc_v hv) h.1, fun x hx d h1 h2 => ?_, fun k' d h3 h4 h5 h6 q => ?_⟩
  · obtain ⟨r, hr, hx2⟩ := List.mem_flatMap.mp hx
    have hrv := h.1.1 r hr
    obtain ⟨v0, v1, v2, v3⟩ := hrv
    have hcell := h.2.1 r hr
    unfold wzfc at hx2
    split at hx2
    · rename_i c
      obtain ⟨c1, c2, c3⟩ := c
      rcases List.mem_append.mp hx2 with q | q
      · obtain ⟨a0, a1, a2, a3, a4, a5⟩ := wzpt_x q
        have m1 := wzmx_b 0 (wzcm 2 r)
        have m2 := wzmn_b a (wzcm 3 r)
        have h7 := hcell d (by omega) (by omega)
        rw [c1] at h7
        rw [a0, c1, (hg.2 d (by omega) (by omega)).2.2 (by omega) (by omega), h7]
        unfold wzenc
        rw [a1, a4, a2, show wzmx 0 (wzcm 2 r) = wzcm 2 r by omega]
      · rcases List.mem_append.mp q with q | q
        · obtain ⟨y, hy, e⟩ := List.mem_map.mp q
          obtain ⟨a0, a1, a2, a3, a4, a5⟩ := wzpt_x hy
          obtain ⟨e0, e2, e3, e1, e4⟩ := wzse_x (r := y) (v := v) hj
          obtain ⟨-, -, -, e1', e4'⟩ := wzse_x (r := r) (v := v) hj
          rw [← e] at h1 h2 ⊢
          have m1 := wzmx_b a (wzcm 2 r)
          have m2 := wzmn_b b (wzcm 3 r)
          have h7 := hcell d (by omega) (by omega)
          rw [c1] at h7
          have he := wzenc_d ⟨v0, v1, v2, v3⟩ d
          have h8 := (hg.2 d (by omega) (by omega)).1 ⟨by omega, by omega, by rw [h7]; exact he.1, by rw [h7, wzdc_e hj ⟨v0, v1, v2, v3⟩]; exact c3⟩
          rw [e0, a0, c1, h8, h7, wzdn_e hj ⟨v0, v1, v2, v3⟩]
          unfold wzenc
          rw [e1, e4, e1', e4', e2, a1, a4, a2]
          congr 1
          by_cases z : d = wzmx a (wzcm 2 r)
          · rw [if_pos z, if_pos]
            rcases m1 with m | m
            · exact Or.inr (he.2.2.2.mpr (by omega))
            · exact Or.inl (by omega)
          · rw [if_neg z, if_neg]
            rintro (z2 | z2)
            · omega
            · have := he.2.2.2.mp z2
              omega
        · obtain ⟨a0, a1, a2, a3, a4, a5⟩ := wzpt_x q
          have m1 := wzmx_b b (wzcm 2 r)
          have m2 := wzmn_b 100 (wzcm 3 r)
          have h7 := hcell d (by omega) (by omega)
          rw [c1] at h7
          have he := wzenc_d ⟨v0, v1, v2, v3⟩ d
          have he2 := wzenc_d ⟨v0, v1, v2, v3⟩ (b - 1)
          have hb1 := hcell (b - 1) (by omega) (by omega)
          rw [c1] at hb1
          rw [a0, c1]
          by_cases z : d = b
          · subst z
            rw [(hg.2 d (by omega) (by omega)).2.1 ⟨rfl, by rw [h7]; exact he.1, by rw [hb1]; exact he2.1, by rw [hb1, wzdc_e hj ⟨v0, v1, v2, v3⟩]; exact c3⟩, h7]
            have e9 : (wzenc r d - 1) / 2 = 11 * wzcm 1 r + wzcm 4 r := by
              have := he.2.1
              have := he.2.2.1
              omega
            rw [e9]
            unfold wzenc
            rw [a1, a4, if_pos (by omega)]
          · rw [(hg.2 d (by omega) (by omega)).2.2 (by omega) (by omega), h7]
            unfold wzenc
            rw [a1, a4, if_neg (by omega), if_neg (by omega)]
    · rename_i c
      rw [wzpt_w ⟨v0, v1, v2, v3⟩] at hx2
      rw [List.mem_singleton.mp hx2] at h1 h2 ⊢
      have h7 := hcell d h1 h2
      by_cases c1 : wzcm 0 r = k
      · have he := wzenc_d ⟨v0, v1, v2, v3⟩ d
        rw [c1] at h7 ⊢
        by_cases z : a ≤ d ∧ d < b
        · have c3 : wzcm j r = v := Decidable.byContradiction fun q => c ⟨c1, ⟨by omega, by omega, by omega, by omega⟩, q⟩
          rw [(hg.2 d (by omega) (by omega)).2.2 (fun q => q.2.2.2 (by rw [h7, wzdc_e hj ⟨v0, v1, v2, v3⟩]; exact c3)) (by omega)]
          exact h7
        · by_cases z2 : d = b ∧ 0 < (f (wzjx t k b)).toInt ∧ 0 < (f (wzjx t k (b - 1))).toInt ∧ ¬ wzdc j (f (wzjx t k (b - 1))).toInt = v
          · obtain ⟨z3, z4, z5, z6⟩ := z2
            subst z3
            rw [(hg.2 d (by omega) (by omega)).2.1 ⟨rfl, z4, z5, z6⟩, h7]
            by_cases z7 : wzcm 2 r = d
            · have e9 : (wzenc r d - 1) / 2 = 11 * wzcm 1 r + wzcm 4 r := by
                have := he.2.1
                have := he.2.2.1
                omega
              rw [e9]
              unfold wzenc
              rw [if_pos z7.symm]
            · exfalso
              have hb1 := hcell (d - 1) (by omega) (by omega)
              rw [c1] at hb1
              rw [hb1, wzdc_e hj ⟨v0, v1, v2, v3⟩] at z6
              exact c ⟨c1, ⟨by omega, by omega, by omega, by omega⟩, z6⟩
          · rw [(hg.2 d (by omega) (by omega)).2.2 (fun q => z ⟨q.1, q.2.1⟩) z2]
            exact h7
      · rw [wzot_o hg.1 ht hk ht v0 (by omega) (fun z => c1 z.2)]
        exact h7
  · have hf : ¬ (f (wzjx t k' d)).toInt = 0 := by
      by_cases c : k' = k
      · rw [c] at q ⊢
        intro z
        rw [(hg.2 d h5 h6).2.2 (fun z2 => by omega) (fun z2 => by have := z2.1; subst this; omega)] at q
        exact q z
      · rw [wzot_o hg.1 ht hk ht ⟨h3, h4⟩ ⟨h5, h6⟩ (fun z => c z.2)] at q
        exact q
    obtain ⟨r, hr, q1, q2, q3⟩ := h.2.2 k' d h3 h4 h5 h6 hf
    obtain ⟨v0, v1, v2, v3⟩ := h.1.1 r hr
    have key : ∃ x ∈ wzfc k a b j v r, wzcm 0 x = k' ∧ wzcm 2 x ≤ d ∧ d < wzcm 3 x := by
      unfold wzfc
      split
      · rename_i c
        obtain ⟨c1, c2, c3⟩ := c
        rcases Int.lt_or_le d a with z | z
        · have m1 := wzmx_b 0 (wzcm 2 r)
          have m2 := wzmn_b a (wzcm 3 r)
          refine ⟨(wzcm 0 r, wzcm 1 r, wzmx 0 (wzcm 2 r), wzmn a (wzcm 3 r), wzcm 4 r), List.mem_append.mpr (Or.inl ?_), q1, ?_, ?_⟩
          · rw [wzpt_1 (by omega)]; exact List.mem_singleton.mpr rfl
          · show wzmx 0 (wzcm 2 r) ≤ d; omega
          · show d < wzmn a (wzcm 3 r); omega
        · rcases Int.lt_or_le d b with z2 | z2
          · have m1 := wzmx_b a (wzcm 2 r)
            have m2 := wzmn_b b (wzcm 3 r)
            obtain ⟨e0, e2, e3, -, -⟩ := wzse_x (r := (wzcm 0 r, wzcm 1 r, wzmx a (wzcm 2 r), wzmn b (wzcm 3 r), wzcm 4 r)) (v := v) hj
            refine ⟨wzse j (wzcm 0 r, wzcm 1 r, wzmx a (wzcm 2 r), wzmn b (wzcm 3 r), wzcm 4 r) v, List.mem_append.mpr (Or.inr (List.mem_append.mpr (Or.inl ?_))), ?_, ?_, ?_⟩
            · rw [wzpt_1 (by omega)]; exact List.mem_map.mpr ⟨_, List.mem_singleton.mpr rfl, rfl⟩
            · rw [e0]; exact q1
            · rw [e2]; show wzmx a (wzcm 2 r) ≤ d; omega
            · rw [e3]; show d < wzmn b (wzcm 3 r); omega
          · have m1 := wzmx_b b (wzcm 2 r)
            have m2 := wzmn_b 100 (wzcm 3 r)
            refine ⟨(wzcm 0 r, wzcm 1 r, wzmx b (wzcm 2 r), wzmn 100 (wzcm 3 r), wzcm 4 r), List.mem_append.mpr (Or.inr (List.mem_append.mpr (Or.inr ?_))), q1, ?_, ?_⟩
            · rw [wzpt_1 (by omega)]; exact List.mem_singleton.mpr rfl
            · show wzmx b (wzcm 2 r) ≤ d; omega
            · show d < wzmn 100 (wzcm 3 r); omega
      · rw [wzpt_w ⟨v0, v1, v2, v3⟩]
        exact ⟨r, List.mem_singleton.mpr rfl, q1, q2, q3⟩
    obtain ⟨x, hx, y1, y2, y3⟩ := key
    exact ⟨x, List.mem_flatMap.mpr ⟨r, hr, hx⟩, y1, y2, y3⟩
/-! a period taken out -/
def wzFcu (f g : Nat → Int32) (t k a b : Int) : Prop := wzot f g t k ∧ ∀ d, 0 ≤ d → d ≤ 99 → (a ≤ d ∧ d < b → (g (wzjx t k d)).toInt = 0) ∧
  (d = b ∧ 0 < (f (wzjx t k b)).toInt ∧ 0 < (f (wzjx t k (b - 1))).toInt → (g (wzjx t k d)).toInt = 1 + 2 * (((f (wzjx t k b)).toInt - 1) / 2) + 1) ∧
  (¬ (a ≤ d ∧ d < b) → ¬ (d = b ∧ 0 < (f (wzjx t k b)).toInt ∧ 0 < (f (wzjx t k (b - 1))).toInt) → g (wzjx t k d) = f (wzjx t k d))
theorem wzRel_cut {L : List wzR} {f g : Nat → Int32} {t k a b : Int} (h : wzRel L f t) (hk : 0 ≤ k ∧ k ≤ 9) (hp : 0 ≤ a ∧ a < b ∧ b ≤ 100) (ht : 0 ≤ t ∧ t ≤ 1) (hg : wzFcu f g t k a b) : wzRel (L.flatMap (wzfk k a b)) g t := by
  refine ⟨wzVs_fm (wzfk_v (by omega)) h.1, fun x hx d h1 h2 => ?_, fun k' d h3 h4 h5 h6 q => ?_⟩
  · obtain ⟨r, hr, hx2⟩ := List.mem_flatMap.mp hx
    obtain ⟨v0, v1, v2, v3⟩ := h.1.1 r hr
    have hcell := h.2.1 r hr
    unfold wzfk at hx2
    split at hx2
    · rename_i c1
      rcases List.mem_append.mp hx2 with q | q
      · obtain ⟨a0, a1, a2, a3, a4, a5⟩ := wzpt_x q
        have m1 := wzmx_b 0 (wzcm 2 r)
        have m2 := wzmn_b a (wzcm 3 r)
        have h7 := hcell d (by omega) (by omega)
        rw [c1] at h7
        rw [a0, c1, (hg.2 d (by omega) (by omega)).2.2 (by omega) (by omega), h7]
        unfold wzenc
        rw [a1, a4, a2, show wzmx 0 (wzcm 2 r) = wzcm 2 r by omega]
      · obtain ⟨a0, a1, a2, a3, a4, a5⟩ := wzpt_x q
        have m1 := wzmx_b b (wzcm 2 r)
        have m2 := wzmn_b 100 (wzcm 3 r)
        have h7 := hcell d (by omega) (by omega)
        rw [c1] at h7
        have he := wzenc_d ⟨v0, v1, v2, v3⟩ d
        rw [a0, c1]
        by_cases z : d = b ∧ 0 < (f (wzjx t k b)).toInt ∧ 0 < (f (wzjx t k (b - 1))).toInt
        · obtain ⟨z1, z2, z3⟩ := z
          subst z1
          rw [(hg.2 d (by omega) (by omega)).2.1 ⟨rfl, z2, z3⟩, h7]
          have e9 : (wzenc r d - 1) / 2 = 11 * wzcm 1 r + wzcm 4 r := by
            have := he.2.1
            have := he.2.2.1
            omega
          rw [e9]
          unfold wzenc
          rw [a1, a4, if_pos (by omega)]
        · rw [(hg.2 d (by omega) (by omega)).2.2 (by omega) z, h7]
          unfold wzenc
          rw [a1, a4]
          congr 1
          by_cases z2 : d = wzcm 2 r
          · rw [if_pos z2, if_pos (by omega)]
          · rw [if_neg z2, if_neg (fun z3 => by
              have hb1 := hcell (b - 1) (by omega) (by omega)
              rw [c1] at hb1
              have he2 := wzenc_d ⟨v0, v1, v2, v3⟩ (b - 1)
              have z4 : d = b := by omega
              subst z4
              exact z ⟨rfl, by rw [h7]; exact he.1, by rw [hb1]; exact he2.1⟩)]
    · rename_i c1
      rw [wzpt_w ⟨v0, v1, v2, v3⟩] at hx2
      rw [List.mem_singleton.mp hx2] at h1 h2 ⊢
      rw [wzot_o hg.1 ht hk ht v0 (by omega) (fun z => c1 z.2)]
      exact hcell d h1 h2
  · have hf : ¬ (f (wzjx t k' d)).toInt = 0 ∧ ¬ (k' = k ∧ a ≤ d ∧ d < b) := by
      by_cases c : k' = k
      · rw [c] at q ⊢
        have hout : ¬ (a ≤ d ∧ d < b) := fun z => q ((hg.2 d h5 h6).1 z)
        refine ⟨fun z => ?_, fun z => hout z.2⟩
        rw [(hg.2 d h5 h6).2.2 hout (fun z2 => by have := z2.1; subst this; omega)] at q
        exact q z
      · rw [wzot_o hg.1 ht hk ht ⟨h3, h4⟩ ⟨h5, h6⟩ (fun z => c z.2)] at q
        exact ⟨q, fun z => c z.1⟩
    obtain ⟨r, hr, q1, q2, q3⟩ := h.2.2 k' d h3 h4 h5 h6 hf.1
    obtain ⟨v0, v1, v2, v3⟩ := h.1.1 r hr
    have key : ∃ x ∈ wzfk k a b r, wzcm 0 x = k' ∧ wzcm 2 x ≤ d ∧ d < wzcm 3 x := by
      unfold wzfk
      split
      · rename_i c1
        rcases Int.lt_or_le d a with z | z
        · have m1 := wzmx_b 0 (wzcm 2 r)
          have m2 := wzmn_b a (wzcm 3 r)
          refine ⟨(wzcm 0 r, wzcm 1 r, wzmx 0 (wzcm 2 r), wzmn a (wzcm 3 r), wzcm 4 r), List.mem_append.mpr (Or.inl ?_), q1, ?_, ?_⟩
          · rw [wzpt_1 (by omega)]; exact List.mem_singleton.mpr rfl
          · show wzmx 0 (wzcm 2 r) ≤ d; omega
          · show d < wzmn a (wzcm 3 r); omega
        · have z2 : b ≤ d := by
            have := hf.2
            omega
          have m1 := wzmx_b b (wzcm 2 r)
          have m2 := wzmn_b 100 (wzcm 3 r)
          refine ⟨(wzcm 0 r, wzcm 1 r, wzmx b (wzcm 2 r), wzmn 100 (wzcm 3 r), wzcm 4 r), List.mem_append.mpr (Or.inr ?_), q1, ?_, ?_⟩
          · rw [wzpt_1 (by omega)]; exact List.mem_singleton.mpr rfl
          · show wzmx b (wzcm 2 r) ≤ d; omega
          · show d < wzmn 100 (wzcm 3 r); omega
      · rw [wzpt_w ⟨v0, v1, v2, v3⟩]
        exact ⟨r, List.mem_singleton.mpr rfl, q1, q2, q3⟩
    obtain ⟨x, hx, y1, y2, y3⟩ := key
    exact ⟨x, List.mem_flatMap.mpr ⟨r, hr, hx⟩, y1, y2, y3⟩
