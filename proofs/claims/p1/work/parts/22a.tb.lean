/-! ===== the class's tables as lists of rows: key, value, from, to, ref ===== -/
abbrev wzR : Type := Int × Int × Int × Int × Int
abbrev wzz : wzR := (0, 0, 0, 0, 0)
def wzcm (j : Nat) (r : wzR) : Int := match j with
  | 0 => r.1
  | 1 => r.2.1
  | 2 => r.2.2.1
  | 3 => r.2.2.2.1
  | _ => r.2.2.2.2
def wzse (j : Nat) (r : wzR) (v : Int) : wzR := match j with
  | 0 => (v, r.2)
  | 1 => (r.1, v, r.2.2)
  | 2 => (r.1, r.2.1, v, r.2.2.2)
  | 3 => (r.1, r.2.1, r.2.2.1, v, r.2.2.2.2)
  | _ => (r.1, r.2.1, r.2.2.1, r.2.2.2.1, v)
def wzmn (a b : Int) : Int := if b < a then b else a
def wzmx (a b : Int) : Int := if a < b then b else a
def wzov (r : wzR) (a b : Int) : Int := wzmx 0 (wzmn b (wzcm 3 r) - wzmx a (wzcm 2 r))
def wztc (r : wzR) (k a b : Int) : Prop := wzcm 0 r = k ∧ a < wzcm 3 r ∧ wzcm 2 r < b ∧ wzcm 2 r < wzcm 3 r ∧ a < b
def wzpt (r : wzR) (a b : Int) : List wzR := if wzmx a (wzcm 2 r) < wzmn b (wzcm 3 r) then [(wzcm 0 r, wzcm 1 r, wzmx a (wzcm 2 r), wzmn b (wzcm 3 r), wzcm 4 r)] else []
def wzg (L : List wzR) (i : Nat) : wzR := if i < 24 then L.getD i wzz else wzz
def wzOk (L : List wzR) : Prop := ∀ r ∈ L, ∀ j, 0 ≤ wzcm j r ∧ wzcm j r ≤ 100
def wzTb (σ : za_S) (w : Nat) (L : List wzR) : Prop := (σ.1 w 1).toInt = L.length ∧ L.length ≤ 100000 ∧ ∀ i, i < L.length → i < 24 → ∀ j, j < 5 → (σ.1 (w + 1) (5 * i + j)).toInt = wzcm j (wzg L i)
def wzfw (w : Nat) (σ0 σ : za_S) : Prop := (∀ w', w' ≠ w → w' ≠ w + 1 → σ.1 w' = σ0.1 w') ∧ σ.2 = σ0.2
def wzsm (f : Nat → Int) : Nat → Int
  | 0 => 0
  | n + 1 => wzsm f n + f n
def wzal (p : Nat → Prop) (c : Int) (n : Nat) : Prop := c = 0 ↔ ∀ i, i < n → ¬ p i
def wzdw (L : List wzR) (k a b : Int) : Nat → Int := fun i => if wzcm 0 (wzg L i) = k then wzov (wzg L i) a b else 0
def wznf (L : List wzR) (k a : Int) : Nat → Int := fun i => if wzcm 0 (wzg L i) < k ∨ (wzcm 0 (wzg L i) = k ∧ wzcm 2 (wzg L i) < a) then 1 else 0
def wzfo9 (L : List wzR) (i : Nat) : Prop := 0 < i ∧ wzcm 0 (wzg L (i - 1)) = wzcm 0 (wzg L i) ∧ wzcm 3 (wzg L (i - 1)) = wzcm 2 (wzg L i)
def wzak (L : List wzR) (i : Nat) : Prop := wzfo9 L i ∧ wzcm 1 (wzg L (i - 1)) = wzcm 1 (wzg L i) ∧ wzcm 4 (wzg L (i - 1)) = wzcm 4 (wzg L i)
def wzcl (T : List wzR) (j : Nat) (v : Int) : List wzR := T.set (T.length - 1) (wzse j (T.getD (T.length - 1) wzz) v)
def wzhr (B : List wzR) (r : wzR) : Prop := wzcm 4 r = 10 ∨ wzsm (wzdw B (wzcm 4 r) (wzcm 2 r) (wzcm 3 r)) B.length = wzcm 3 r - wzcm 2 r
theorem wzcm_z (j : Nat) : wzcm j wzz = 0 := by
  unfold wzcm
  split <;> rfl
theorem wzg_out {L : List wzR} {i : Nat} (h : L.length ≤ i ∨ 24 ≤ i) : wzg L i = wzz := by
  unfold wzg
  split
  · rename_i h2
    rw [List.getD_eq_getElem?_getD, List.getElem?_eq_none (by omega)]
    rfl
  · rfl
theorem wzg_in {L : List wzR} {i : Nat} (h : i < L.length) (h2 : i < 24) : wzg L i = L[i] := by
  unfold wzg
  rw [if_pos h2, List.getD_eq_getElem?_getD, List.getElem?_eq_getElem h]
  rfl
theorem wzg_ok {L : List wzR} (h : wzOk L) (i j : Nat) : 0 ≤ wzcm j (wzg L i) ∧ wzcm j (wzg L i) ≤ 100 := by
  by_cases c : i < L.length ∧ i < 24
  · rw [wzg_in c.1 c.2]
    exact h _ (List.getElem_mem c.1) j
  · rw [wzg_out (by omega), wzcm_z]
    decide
theorem wz_cellT {i c : Int32} (h1 : 0 ≤ i.toInt) (h2 : i.toInt < 24) (h3 : 0 ≤ c.toInt) (h4 : c.toInt < 5) : (i * 5 + c).toInt = i.toInt * 5 + c.toInt := by
  have h5 : (5 : Int32).toInt = 5 := by decide
  have h6 : (i * 5).toInt = i.toInt * 5 := by rw [z_mul (by rw [h5]; omega) (by rw [h5]; omega), h5]
  rw [z_add (by rw [h6]; omega) (by rw [h6]; omega), h6]
theorem wzcl_0 {σ : za_S} {w j : Nat} {L : List wzR} {i : Int32} (hT : wzTb σ w L) (hi : 0 ≤ i.toInt) (h : (0 ≤ i.toInt ∧ i.toInt < (σ.1 w 1).toInt ∧ i.toInt < 24) → False) : (0 : Int32).toInt = wzcm j (wzg L i.toInt.toNat) := by
  have h1 := hT.1
  have h0 : (0 : Int32).toInt = 0 := by decide
  have h2 : ¬ (i.toInt < (σ.1 w 1).toInt ∧ i.toInt < 24) := fun q => h ⟨hi, q.1, q.2⟩
  rw [wzg_out (by omega), wzcm_z, h0]
theorem wzcl_1 {σ : za_S} {w : Nat} {L : List wzR} {i c : Int32} {C : Nat} (hT : wzTb σ w L) (h : 0 ≤ i.toInt ∧ i.toInt < (σ.1 w 1).toInt ∧ i.toInt < 24) (hc : c.toInt = C) (hC : C < 5) : (σ.1 (w + 1) (i * 5 + c).toNatClampNeg).toInt = wzcm C (wzg L i.toInt.toNat) := by
  have h1 := hT.1
  have e : (i * 5 + c).toNatClampNeg = 5 * i.toInt.toNat + C := by
    show (i * 5 + c).toInt.toNat = _
    rw [wz_cellT h.1 h.2.2 (by omega) (by omega)]
    omega
  rw [e]
  exact hT.2.2 _ (by omega) (by omega) C hC
theorem wz_mnT {x y z : Int32} {a b : Int} (e : z = if y < x then y else x) (hx : x.toInt = a) (hy : y.toInt = b) : z.toInt = wzmn a b := by
  unfold wzmn
  rw [e, ← hx, ← hy]
  by_cases c : y < x
  · rw [if_pos c, if_pos ((z_lt y x).mp c)]
  · rw [if_neg c, if_neg (fun q => c ((z_lt y x).mpr q))]
theorem wz_mxT {x y z : Int32} {a b : Int} (e : z = if x < y then y else x) (hx : x.toInt = a) (hy : y.toInt = b) : z.toInt = wzmx a b := by
  unfold wzmx
  rw [e, ← hx, ← hy]
  by_cases c : x < y
  · rw [if_pos c, if_pos ((z_lt x y).mp c)]
  · rw [if_neg c, if_neg (fun q => c ((z_lt x y).mpr q))]
theorem wzmn_b (a b : Int) : (wzmn a b = a ∧ a ≤ b) ∨ (wzmn a b = b ∧ b < a) := by
  unfold wzmn
  split <;> omega
theorem wzmx_b (a b : Int) : (wzmx a b = b ∧ a < b) ∨ (wzmx a b = a ∧ b ≤ a) := by
  unfold wzmx
  split <;> omega
theorem wzov_pos {r : wzR} {a b : Int} : 0 < wzov r a b ↔ (a < wzcm 3 r ∧ wzcm 2 r < b ∧ wzcm 2 r < wzcm 3 r ∧ a < b) := by
  unfold wzov
  have h1 := wzmn_b b (wzcm 3 r)
  have h2 := wzmx_b a (wzcm 2 r)
  have h3 := wzmx_b 0 (wzmn b (wzcm 3 r) - wzmx a (wzcm 2 r))
  omega
theorem wzov_b {r : wzR} {a b : Int} (h : ∀ j, 0 ≤ wzcm j r ∧ wzcm j r ≤ 100) (hp : (0 ≤ a ∧ a ≤ 100) ∧ 0 ≤ b ∧ b ≤ 100) : 0 ≤ wzov r a b ∧ wzov r a b ≤ 100 := by
  unfold wzov
  have h1 := wzmn_b b (wzcm 3 r)
  have h2 := wzmx_b a (wzcm 2 r)
  have h3 := wzmx_b 0 (wzmn b (wzcm 3 r) - wzmx a (wzcm 2 r))
  have h4 := h 2
  have h5 := h 3
  omega
theorem wzov_T {r : wzR} {fd td a b x y z : Int32} (h : ∀ j, 0 ≤ wzcm j r ∧ wzcm j r ≤ 100) (hp : (0 ≤ fd.toInt ∧ fd.toInt ≤ 100) ∧ 0 ≤ td.toInt ∧ td.toInt ≤ 100) (ha : a.toInt = wzcm 3 r) (hb : b.toInt = wzcm 2 r) (e1 : x = if a < td then a else td) (e2 : y = if fd < b then b else fd) (e3 : z = if 0 < x - y then x - y else 0) : z.toInt = wzov r fd.toInt td.toInt := by
  have h1 := wz_mnT e1 rfl ha
  have h2 := wz_mxT e2 rfl hb
  have h4 := h 2
  have h5 := h 3
  have h6 := wzmn_b td.toInt (wzcm 3 r)
  have h7 := wzmx_b fd.toInt (wzcm 2 r)
  exact wz_mxT e3 rfl (z_subf rfl h1 h2 (by omega) (by omega))
theorem wzal_0 (p : Nat → Prop) : wzal p 0 0 := ⟨fun _ i h => absurd h (Nat.not_lt_zero i), fun _ => rfl⟩
theorem wzal_n {p : Nat → Prop} {c : Int} {n : Nat} (h : wzal p c n) (hp : p n → False) : wzal p c (n + 1) := by
  constructor
  · intro e i hi
    by_cases q : i = n
    · rw [q]; exact hp
    · exact h.mp e i (by omega)
  · exact fun q => h.mpr (fun i hi => q i (by omega))
theorem wzal_y {p : Nat → Prop} {c : Int} {n : Nat} (hp : p n) (hc : 0 < c) : wzal p c (n + 1) := ⟨fun e => by omega, fun q => absurd hp (q n (by omega))⟩
theorem wzal_e {p : Nat → Prop} {c : Int} {n m : Nat} (h : wzal p c n) (e : n = m) : wzal p c m := e ▸ h
theorem wzsm_s {f : Nat → Int} {n : Nat} {y x v : Int} (h : y = wzsm f n) (e : x = y + v) (hv : f n = v) : x = wzsm f (n + 1) := by
  show x = wzsm f n + f n
  rw [e, h, hv]
theorem wzsm_b {f : Nat → Int} {B : Int} (h : ∀ i, 0 ≤ f i ∧ f i ≤ B) : ∀ n : Nat, 0 ≤ wzsm f n ∧ wzsm f n ≤ B * n
  | 0 => by
    show 0 ≤ (0 : Int) ∧ (0 : Int) ≤ B * ((0 : Nat) : Int)
    omega
  | n + 1 => by
    have h1 := wzsm_b h n
    have h2 := h n
    show 0 ≤ wzsm f n + f n ∧ wzsm f n + f n ≤ B * ((n + 1 : Nat) : Int)
    have h3 : B * ((n + 1 : Nat) : Int) = B * (n : Int) + B := by
      rw [show ((n + 1 : Nat) : Int) = (n : Int) + 1 from rfl, Int.mul_add, Int.mul_one]
    omega
theorem wzdw_1 {L : List wzR} {k a b : Int} {n : Nat} (h : wzcm 0 (wzg L n) = k) : wzdw L k a b n = wzov (wzg L n) a b := if_pos h
theorem wzdw_0 {L : List wzR} {k a b : Int} {n : Nat} (h : ¬ wzcm 0 (wzg L n) = k) : wzdw L k a b n = 0 := if_neg h
theorem wznf_1 {L : List wzR} {k a : Int} {n : Nat} (h : wzcm 0 (wzg L n) < k ∨ (wzcm 0 (wzg L n) = k ∧ wzcm 2 (wzg L n) < a)) : wznf L k a n = 1 := if_pos h
theorem wznf_0 {L : List wzR} {k a : Int} {n : Nat} (h : ¬ (wzcm 0 (wzg L n) < k ∨ (wzcm 0 (wzg L n) = k ∧ wzcm 2 (wzg L n) < a))) : wznf L k a n = 0 := if_neg h
theorem wz_pn {i : Int32} (h : 0 < i.toInt) : (i - 1).toInt = i.toInt - 1 ∧ (i - 1).toInt.toNat = i.toInt.toNat - 1 := by
  have hr := z_rng i
  have h1 : (i - 1).toInt = i.toInt - 1 := by rw [z_sub (by rw [z_one]; omega) (by rw [z_one]; omega), z_one]
  exact ⟨h1, by rw [h1]; omega⟩
theorem wzfw_r (w : Nat) (σ : za_S) : wzfw w σ σ := ⟨fun _ _ _ => rfl, rfl⟩
theorem wzfw_t {w : Nat} {a b d : za_S} (h : wzfw w a b) (k : wzfw w b d) : wzfw w a d := ⟨fun w' h1 h2 => (k.1 w' h1 h2).trans (h.1 w' h1 h2), k.2.trans h.2⟩
theorem wzfw_si {w j : Nat} {σ0 σ : za_S} {x : Int32} (h : wzfw w σ0 σ) : wzfw w σ0 (za_si σ w j x) := ⟨fun w' h1 h2 => by rw [(za_si_off w' h1).1]; exact h.1 w' h1 h2, h.2⟩
theorem wzfw_s1 {w j : Nat} {σ0 σ : za_S} {x : Int32} (h : wzfw w σ0 σ) : wzfw w σ0 (za_si σ (w + 1) j x) := ⟨fun w' h1 h2 => by rw [(za_si_off w' h2).1]; exact h.1 w' h1 h2, h.2⟩
theorem wzTb_e {σ σ' : za_S} {w : Nat} {L : List wzR} (h : wzTb σ w L) (h1 : σ'.1 w = σ.1 w) (h2 : σ'.1 (w + 1) = σ.1 (w + 1)) : wzTb σ' w L := by
  unfold wzTb
  rw [h1, h2]
  exact h
def wzap (s w : Nat) : Prop := s ≠ w ∧ s ≠ w + 1 ∧ s + 1 ≠ w
theorem wzTb_w {σ σ' : za_S} {s w : Nat} {L : List wzR} (hd : wzap s w) (h : wzTb σ s L) (k : wzfw w σ σ') : wzTb σ' s L := wzTb_e h (k.1 s hd.1 hd.2.1) (k.1 (s + 1) hd.2.2 (by have h9 := hd.1; omega))
theorem wzTb_nil {σ : za_S} {w : Nat} : wzTb (za_si σ w 1 0) w [] := by
  refine ⟨?_, by decide, fun i h => absurd h (Nat.not_lt_zero i)⟩
  rw [za_si_same]
  decide
theorem wzsi_at (σ : za_S) (w j m : Nat) (x : Int32) : (za_si σ w j x).1 w m = if m = j then x else σ.1 w m := by
  rw [za_si_w]
  rfl
theorem wzap_A {σ τ : za_S} {w : Nat} {T : List wzR} {k v fd td z x : Int32} (hT : wzTb σ w T) (hl : T.length ≤ 90000) (e : x = σ.1 w 1 * 5) (h24 : (σ.1 w 1).toInt < 24) (eτ : τ = za_si (za_si (za_si (za_si (za_si σ (w + 1) (x + 0).toNatClampNeg k) (w + 1) (x + 1).toNatClampNeg v) (w + 1) (x + 2).toNatClampNeg fd) (w + 1) (x + 3).toNatClampNeg td) (w + 1) (x + 4).toNatClampNeg z) :
    wzTb (za_si τ w 1 (τ.1 w 1 + 1)) w (T ++ [(k.toInt, v.toInt, fd.toInt, td.toInt, z.toInt)]) ∧ wzfw w σ (za_si τ w 1 (τ.1 w 1 + 1)) := by
  subst eτ
  have hn := hT.1
  have ex : ∀ (c : Int32) (C : Nat), c.toInt = C → C < 5 → (x + c).toNatClampNeg = 5 * T.length + C := fun c C hc hC => by
    show (x + c).toInt.toNat = _
    rw [e, wz_cellT (by omega) h24 (by omega) (by omega)]
    omega
  rw [ex 0 0 rfl (by decide), ex 1 1 rfl (by decide), ex 2 2 rfl (by decide), ex 3 3 rfl (by decide), ex 4 4 rfl (by decide)]
  have hw : w + 1 ≠ w := by omega
  have hw' : w ≠ w + 1 := by omega
  refine ⟨⟨?_, by rw [List.length_append]; show _ + 1 ≤ 100000; omega, fun i hi h9 j hj => ?_⟩, wzfw_si (wzfw_s1 (wzfw_s1 (wzfw_s1 (wzfw_s1 (wzfw_s1 (wzfw_r w σ))))))⟩
  · rw [za_si_same]
    rw [za_si_ne _ _ (Or.inl hw'), za_si_ne _ _ (Or.inl hw'), za_si_ne _ _ (Or.inl hw'), za_si_ne _ _ (Or.inl hw'), za_si_ne _ _ (Or.inl hw')]
    rw [z_add (by rw [z_one]; omega) (by rw [z_one]; omega), z_one, List.length_append]
    show _ = ((T.length + 1 : Nat) : Int)
    omega
  · rw [za_si_ne _ _ (Or.inl hw), wzsi_at, wzsi_at, wzsi_at, wzsi_at, wzsi_at]
    rw [List.length_append] at hi
    have hi2 : i < T.length + 1 := hi
    by_cases c : i = T.length
    · subst c
      have eg : wzg (T ++ [(k.toInt, v.toInt, fd.toInt, td.toInt, z.toInt)]) T.length = (k.toInt, v.toInt, fd.toInt, td.toInt, z.toInt) := by
        rw [wzg_in (by rw [List.length_append]; exact hi2) h9, List.getElem_append_right (Nat.le_refl _)]
        simp
      rw [eg]
      have hj5 : j = 0 ∨ j = 1 ∨ j = 2 ∨ j = 3 ∨ j = 4 := by omega
      rcases hj5 with q | q | q | q | q <;> subst q
      · rw [if_neg (by omega), if_neg (by omega), if_neg (by omega), if_neg (by omega), if_pos rfl]; rfl
      · rw [if_neg (by omega), if_neg (by omega), if_neg (by omega), if_pos rfl]; rfl
      · rw [if_neg (by omega), if_neg (by omega), if_pos rfl]; rfl
      · rw [if_neg (by omega), if_pos rfl]; rfl
      · rw [if_pos rfl]; rfl
    · rw [if_neg (by omega), if_neg (by omega), if_neg (by omega), if_neg (by omega), if_neg (by omega)]
      have eg : wzg (T ++ [(k.toInt, v.toInt, fd.toInt, td.toInt, z.toInt)]) i = wzg T i := by
        rw [wzg_in (by rw [List.length_append]; omega) h9, wzg_in (by omega) h9, List.getElem_append_left (by omega)]
      rw [eg]
      exact hT.2.2 i (by omega) h9 j hj
theorem wzap_B {σ : za_S} {w : Nat} {T : List wzR} {k v fd td z : Int} (hT : wzTb σ w T) (hl : T.length ≤ 90000) (h24 : 24 ≤ (σ.1 w 1).toInt) : wzTb (za_si σ w 1 (σ.1 w 1 + 1)) w (T ++ [(k, v, fd, td, z)]) ∧ wzfw w σ (za_si σ w 1 (σ.1 w 1 + 1)) := by
  have hn := hT.1
  have hw : w + 1 ≠ w := by omega
  refine ⟨⟨?_, by rw [List.length_append]; show _ + 1 ≤ 100000; omega, fun i hi h9 j hj => ?_⟩, wzfw_si (wzfw_r w σ)⟩
  · rw [za_si_same, z_add (by rw [z_one]; omega) (by rw [z_one]; omega), z_one, List.length_append]
    show _ = ((T.length + 1 : Nat) : Int)
    omega
  · rw [za_si_ne _ _ (Or.inl hw)]
    have eg : wzg (T ++ [(k, v, fd, td, z)]) i = wzg T i := by
      rw [wzg_in (by rw [List.length_append]; omega) h9, wzg_in (by omega) h9, List.getElem_append_left (by omega)]
    rw [eg]
    exact hT.2.2 i (by omega) h9 j hj
theorem wzpt_1 {r : wzR} {a b : Int} (h : wzmx a (wzcm 2 r) < wzmn b (wzcm 3 r)) : wzpt r a b = [(wzcm 0 r, wzcm 1 r, wzmx a (wzcm 2 r), wzmn b (wzcm 3 r), wzcm 4 r)] := if_pos h
theorem wzpt_0 {r : wzR} {a b : Int} (h : ¬ wzmx a (wzcm 2 r) < wzmn b (wzcm 3 r)) : wzpt r a b = [] := if_neg h
theorem wzpt_A {σ σ' : za_S} {w : Nat} {T : List wzR} {r : wzR} {fd td x y a b k v z : Int32} (ha : a.toInt = wzcm 2 r) (hb : b.toInt = wzcm 3 r) (hk : k.toInt = wzcm 0 r) (hv : v.toInt = wzcm 1 r) (hz : z.toInt = wzcm 4 r) (e1 : x = if fd < a then a else fd) (e2 : y = if b < td then b else td) (c : x.toInt < y.toInt) (h : wzTb σ' w (T ++ [(k.toInt, v.toInt, x.toInt, y.toInt, z.toInt)]) ∧ wzfw w σ σ') : wzTb σ' w (T ++ wzpt r fd.toInt td.toInt) ∧ wzfw w σ σ' := by
  have h1 := wz_mxT e1 rfl ha
  have h2 := wz_mnT e2 rfl hb
  rw [h1, h2] at c
  rw [h1, h2, hk, hv, hz] at h
  rw [wzpt_1 c]
  exact h
theorem wzpt_B {σ : za_S} {w : Nat} {T : List wzR} {r : wzR} {fd td x y a b : Int32} (ha : a.toInt = wzcm 2 r) (hb : b.toInt = wzcm 3 r) (e1 : x = if fd < a then a else fd) (e2 : y = if b < td then b else td) (c : y.toInt ≤ x.toInt) (h : wzTb σ w T) : wzTb σ w (T ++ wzpt r fd.toInt td.toInt) ∧ wzfw w σ σ := by
  have h1 := wz_mxT e1 rfl ha
  have h2 := wz_mnT e2 rfl hb
  rw [wzpt_0 (by omega), List.append_nil]
  exact ⟨h, wzfw_r w σ⟩
theorem wzcm_se {j : Nat} (hj : j < 5) (r : wzR) (v : Int) (c : Nat) (hc : c < 5) : wzcm c (wzse j r v) = if c = j then v else wzcm c r := by
  have h1 : j = 0 ∨ j = 1 ∨ j = 2 ∨ j = 3 ∨ j = 4 := by omega
  have h2 : c = 0 ∨ c = 1 ∨ c = 2 ∨ c = 3 ∨ c = 4 := by omega
  rcases h1 with q | q | q | q | q <;> subst q <;> rcases h2 with q | q | q | q | q <;> subst q <;> rfl
theorem wzcl_len (T : List wzR) (j : Nat) (v : Int) : (wzcl T j v).length = T.length := List.length_set
theorem wzpu_A {σ : za_S} {w : Nat} {T : List wzR} {i c v : Int32} (hT : wzTb σ w T) (hi : i.toInt = (T.length : Int) - 1) (h : 0 ≤ i.toInt ∧ i.toInt < (σ.1 w 1).toInt ∧ i.toInt < 24) (hc : 0 ≤ c.toInt ∧ c.toInt ≤ 4) : wzTb (za_si σ (w + 1) (i * 5 + c).toNatClampNeg v) w (wzcl T c.toInt.toNat v.toInt) ∧ wzfw w σ (za_si σ (w + 1) (i * 5 + c).toNatClampNeg v) := by
  have hn := hT.1
  have e : (i * 5 + c).toNatClampNeg = 5 * (T.length - 1) + c.toInt.toNat := by
    show (i * 5 + c).toInt.toNat = _
    rw [wz_cellT h.1 h.2.2 (by omega) (by omega)]
    omega
  rw [e]
  refine ⟨⟨?_, by rw [wzcl_len]; exact hT.2.1, fun i' hi' h9 j hj => ?_⟩, wzfw_s1 (wzfw_r w σ)⟩
  · rw [za_si_ne _ _ (Or.inl (by omega)), wzcl_len]
    exact hn
  · rw [wzcl_len] at hi'
    rw [wzsi_at, wzg_in (by rw [wzcl_len]; exact hi') h9]
    unfold wzcl
    rw [List.getElem_set]
    by_cases q : T.length - 1 = i'
    · rw [if_pos q, wzcm_se (by omega) _ _ _ hj]
      by_cases q2 : j = c.toInt.toNat
      · rw [if_pos (by omega), if_pos q2]
      · rw [if_neg (by omega), if_neg q2]
        have h8 := hT.2.2 i' hi' h9 j hj
        rw [h8]
        unfold wzg
        rw [if_pos h9, q]
    · rw [if_neg q, if_neg (by omega)]
      have h8 := hT.2.2 i' hi' h9 j hj
      rw [wzg_in hi' h9] at h8
      exact h8
theorem wzpu_B {σ : za_S} {w j : Nat} {T : List wzR} {i : Int32} {v : Int} (hT : wzTb σ w T) (hi : i.toInt = (T.length : Int) - 1) (h : (0 ≤ i.toInt ∧ i.toInt < (σ.1 w 1).toInt ∧ i.toInt < 24) → False) : wzTb σ w (wzcl T j v) ∧ wzfw w σ σ := by
  have hn := hT.1
  have h2 : ¬ (0 ≤ i.toInt ∧ i.toInt < 24) := fun q => h ⟨q.1, by omega, q.2⟩
  refine ⟨⟨by rw [wzcl_len]; exact hn, by rw [wzcl_len]; exact hT.2.1, fun i' hi' h9 j' hj' => ?_⟩, wzfw_r w σ⟩
  rw [wzcl_len] at hi'
  have h8 := hT.2.2 i' hi' h9 j' hj'
  rw [h8, wzg_in hi' h9, wzg_in (L := wzcl T j v) (by rw [wzcl_len]; exact hi') h9]
  unfold wzcl
  rw [List.getElem_set, if_neg (by omega)]
/-! filled anew -/
def wzfl (w : Nat) (σ0 σ : za_S) (T : List wzR) : Prop := wzTb σ w T ∧ wzfw w σ0 σ
theorem wzfl_0 {w : Nat} {σ0 σ σ' : za_S} (h : σ = σ0) (e : σ' = za_si σ w 1 0) : wzfl w σ0 σ' [] := by
  rw [e, h]
  exact ⟨wzTb_nil, wzfw_si (wzfw_r w σ0)⟩
theorem wzfl_a {w : Nat} {σ0 σ σ' : za_S} {T T' : List wzR} (hz : wzfl w σ0 σ T) (h : wzTb σ' w T' ∧ wzfw w σ σ') : wzfl w σ0 σ' T' := ⟨h.1, wzfw_t hz.2 h.2⟩
theorem wzfl_s {s w : Nat} {σ0 σ : za_S} {T L : List wzR} (hd : wzap s w) (hS : wzTb σ0 s L) (hz : wzfl w σ0 σ T) : wzTb σ s L := wzTb_w hd hS hz.2
theorem wzfl_c {w : Nat} {σ0 σ : za_S} {T T' : List wzR} (hz : wzfl w σ0 σ T) (e : T = T') : wzfl w σ0 σ T' := e ▸ hz
theorem wztk_s {L : List wzR} {n : Nat} (h : n < L.length) (h2 : L.length ≤ 20) : L.take (n + 1) = L.take n ++ [wzg L n] := by
  rw [wzg_in h (by omega), List.take_succ, List.getElem?_eq_getElem h]
  rfl
theorem wztk_f {L : List wzR} {n : Nat} {f : wzR → List wzR} (h : n < L.length) (h2 : L.length ≤ 20) : (L.take (n + 1)).flatMap f = (L.take n).flatMap f ++ f (wzg L n) := by
  rw [wztk_s h h2, List.flatMap_append]
  simp
def wzfc (k a b : Int) (j : Nat) (v : Int) (r : wzR) : List wzR := if wzcm 0 r = k ∧ (a < wzcm 3 r ∧ wzcm 2 r < b ∧ wzcm 2 r < wzcm 3 r ∧ a < b) ∧ ¬ wzcm j r = v then wzpt r 0 a ++ ((wzpt r a b).map (fun x => wzse j x v) ++ wzpt r b 100) else wzpt r 0 100
def wzfk (k a b : Int) (r : wzR) : List wzR := if wzcm 0 r = k then wzpt r 0 a ++ wzpt r b 100 else wzpt r 0 100
theorem wzcl_one (X : List wzR) (x : wzR) (j : Nat) (v : Int) : wzcl (X ++ [x]) j v = X ++ [wzse j x v] := by
  have h : (X ++ [x]).length - 1 = X.length := by simp
  unfold wzcl
  rw [h, List.set_append_right _ _ (Nat.le_refl _)]
  simp
theorem wzfc_1 {T : List wzR} {k a b : Int} {j : Nat} {v : Int} {r : wzR} (h : wztc r k a b) (h2 : ¬ wzcm j r = v) : wzcl ((T ++ wzpt r 0 a) ++ wzpt r a b) j v ++ wzpt r b 100 = T ++ wzfc k a b j v r := by
  have h1 : wzmx a (wzcm 2 r) < wzmn b (wzcm 3 r) := by
    have q1 := wzmn_b b (wzcm 3 r)
    have q2 := wzmx_b a (wzcm 2 r)
    have q3 := h.2
    omega
  unfold wzfc
  rw [if_pos ⟨h.1, h.2, h2⟩, wzpt_1 h1, wzcl_one]
  simp
theorem wzfc_0 {k a b : Int} {j : Nat} {v : Int} {r : wzR} (h : wztc r k a b → wzcm j r = v) : wzfc k a b j v r = wzpt r 0 100 := if_neg (fun q => q.2.2 (h ⟨q.1, q.2.1⟩))
theorem wzfk_1 {k a b : Int} {r : wzR} (h : wzcm 0 r = k) : wzfk k a b r = wzpt r 0 a ++ wzpt r b 100 := if_pos h
theorem wzfk_0 {k a b : Int} {r : wzR} (h : ¬ wzcm 0 r = k) : wzfk k a b r = wzpt r 0 100 := if_neg h
noncomputable def wzjl (L : List wzR) : Nat → List wzR
  | 0 => []
  | i + 1 => haveI := Classical.propDecidable (wzak L i); if wzak L i then wzcl (wzjl L i) 3 (wzcm 3 (wzg L i)) else wzjl L i ++ wzpt (wzg L i) 0 100
theorem wzjl_1 {L : List wzR} {i : Nat} (h : wzak L i) : wzjl L (i + 1) = wzcl (wzjl L i) 3 (wzcm 3 (wzg L i)) := if_pos h
theorem wzjl_0 {L : List wzR} {i : Nat} (h : ¬ wzak L i) : wzjl L (i + 1) = wzjl L i ++ wzpt (wzg L i) 0 100 := if_neg h
theorem wzpt_len (r : wzR) (a b : Int) : (wzpt r a b).length ≤ 1 := by
  unfold wzpt
  split <;> simp
theorem wzjl_len (L : List wzR) : ∀ i, (wzjl L i).length ≤ i
  | 0 => Nat.le_refl 0
  | i + 1 => by
    have h := wzjl_len L i
    by_cases c : wzak L i
    · rw [wzjl_1 c, wzcl_len]; omega
    · have h2 := wzpt_len (wzg L i) 0 100
      rw [wzjl_0 c, List.length_append]; omega
theorem wzfc_len (k a b : Int) (j : Nat) (v : Int) (r : wzR) : (wzfc k a b j v r).length ≤ 3 := by
  have h1 := wzpt_len r 0 a
  have h2 := wzpt_len r a b
  have h3 := wzpt_len r b 100
  have h4 := wzpt_len r 0 100
  unfold wzfc
  split
  · rw [List.length_append, List.length_append, List.length_map]; omega
  · omega
theorem wzfk_len (k a b : Int) (r : wzR) : (wzfk k a b r).length ≤ 3 := by
  have h1 := wzpt_len r 0 a
  have h3 := wzpt_len r b 100
  have h4 := wzpt_len r 0 100
  unfold wzfk
  split
  · rw [List.length_append]; omega
  · omega
theorem wzfm_len {f : wzR → List wzR} (h : ∀ r, (f r).length ≤ 3) : ∀ L : List wzR, (L.flatMap f).length ≤ 3 * L.length
  | [] => Nat.le_refl 0
  | r :: L => by
    have h1 := wzfm_len h L
    have h2 := h r
    rw [List.flatMap_cons, List.length_append, List.length_cons]
    omega
theorem wzfm_tk {f : wzR → List wzR} (h : ∀ r, (f r).length ≤ 3) {L : List wzR} (hL : L.length ≤ 20) (n : Nat) : ((L.take n).flatMap f).length ≤ 60 := by
  have h1 := wzfm_len h (L.take n)
  have h2 := List.length_take_le n L
  have h3 : (L.take n).length ≤ L.length := by rw [List.length_take]; omega
  omega
theorem wzl_a {X : List wzR} {n : Nat} {r : wzR} {a b : Int} (h : X.length ≤ n) : (X ++ wzpt r a b).length ≤ n + 1 := by
  have h1 := wzpt_len r a b
  rw [List.length_append]
  omega
theorem wzl_c {X : List wzR} {n j : Nat} {v : Int} (h : X.length ≤ n) : (wzcl X j v).length ≤ n := by
  rw [wzcl_len]
  exact h
/-! states -/
def wzSt (σ : za_S) (b : Nat) (P : List wzR × List wzR) : Prop := wzTb σ (b + 1) P.1 ∧ wzTb σ (b + 3) P.2
def wzfs (b : Nat) (σ0 σ : za_S) : Prop := (∀ w, (w < b ∨ b + 4 < w) → σ.1 w = σ0.1 w) ∧ σ.2 = σ0.2
def wzdj (s b : Nat) : Prop := s + 4 < b ∨ b + 4 < s
theorem wzcpT {σ : za_S} {s w : Nat} (hd : wzap s w) : wzfw w σ (za_si (za_sr σ (w + 1) (va_cpy (σ.1 (s + 1)) (σ.1 (w + 1)) 0 0 120)) w 1 ((za_sr σ (w + 1) (va_cpy (σ.1 (s + 1)) (σ.1 (w + 1)) 0 0 120)).1 s 1)) ∧ ∀ L : List wzR, wzTb σ s L → wzTb (za_si (za_sr σ (w + 1) (va_cpy (σ.1 (s + 1)) (σ.1 (w + 1)) 0 0 120)) w 1 ((za_sr σ (w + 1) (va_cpy (σ.1 (s + 1)) (σ.1 (w + 1)) 0 0 120)).1 s 1)) w L := by
  have e1 : (za_sr σ (w + 1) (va_cpy (σ.1 (s + 1)) (σ.1 (w + 1)) 0 0 120)).1 s = σ.1 s := za_sr_ne σ _ hd.2.1
  refine ⟨wzfw_si ⟨fun w' h1 h2 => za_sr_ne σ _ h2, rfl⟩, fun L h => ⟨?_, h.2.1, fun i hi h9 j hj => ?_⟩⟩
  · rw [za_si_same, e1]
    exact h.1
  · rw [za_si_ne _ _ (Or.inl (by omega)), za_sr_w]
    unfold va_cpy
    rw [if_pos (by omega)]
    show (σ.1 (s + 1) (0 + (5 * i + j - 0))).toInt = _
    rw [Nat.zero_add, Nat.sub_zero]
    exact h.2.2 i hi h9 j hj
theorem wzap_p {s b i j : Nat} (hd : wzdj s b) (hi : i = 1 ∨ i = 3) (hj : j = 1 ∨ j = 3) : wzap (s + i) (b + j) := by
  unfold wzdj at hd
  refine ⟨?_, ?_, ?_⟩ <;> omega
theorem wzcpS {s b : Nat} {σ0 σ1 σ2 : za_S} (hd : wzdj s b) (h1 : wzfw (b + 1) σ0 σ1 ∧ ∀ L : List wzR, wzTb σ0 (s + 1) L → wzTb σ1 (b + 1) L) (h2 : wzfw (b + 3) σ1 σ2 ∧ ∀ L : List wzR, wzTb σ1 (s + 3) L → wzTb σ2 (b + 3) L) : wzfs b σ0 (za_si σ2 b 2 (σ2.1 s 2)) ∧ (∀ P, wzSt σ0 s P → wzSt (za_si σ2 b 2 (σ2.1 s 2)) b P) ∧ (za_si σ2 b 2 (σ2.1 s 2)).1 b 2 = σ0.1 s 2 := by
  have hd' : s + 4 < b ∨ b + 4 < s := hd
  have f1 := h1.1
  have f2 := h2.1
  refine ⟨⟨fun w hw => ?_, ?_⟩, fun P hP => ⟨?_, ?_⟩, ?_⟩
  · rw [(za_si_off w (by omega)).1, f2.1 w (by omega) (by omega), f1.1 w (by omega) (by omega)]
  · show σ2.2 = σ0.2
    rw [f2.2, f1.2]
  · refine wzTb_e (wzTb_w (w := b + 3) (s := b + 1) ⟨by omega, by omega, by omega⟩ (h1.2 _ hP.1) f2) ?_ ?_
    · exact (za_si_off _ (by omega)).1
    · exact (za_si_off _ (by omega)).1
  · refine wzTb_e (h2.2 _ (wzTb_w (wzap_p hd (Or.inr rfl) (Or.inl rfl)) hP.2 f1)) ?_ ?_
    · exact (za_si_off _ (by omega)).1
    · exact (za_si_off _ (by omega)).1
  · rw [za_si_same, f2.1 s (by omega) (by omega), f1.1 s (by omega) (by omega)]
theorem wzfs_r (b : Nat) (σ : za_S) : wzfs b σ σ := ⟨fun _ _ => rfl, rfl⟩
theorem wzSt_e {σ σ' : za_S} {b : Nat} {P : List wzR × List wzR} (h : wzSt σ b P) (k : ∀ w, b < w → w ≤ b + 4 → σ'.1 w = σ.1 w) : wzSt σ' b P := ⟨wzTb_e h.1 (k _ (by omega) (by omega)) (k _ (by omega) (by omega)), wzTb_e h.2 (k _ (by omega) (by omega)) (k _ (by omega) (by omega))⟩
def wzsl (P : List wzR × List wzR) (t : Int) : List wzR := if t = 0 then P.1 else P.2
def wzpu (P : List wzR × List wzR) (t : Int) (L : List wzR) : List wzR × List wzR := if t = 0 then (L, P.2) else (P.1, L)
theorem wzt01 {t : Int32} (h : t = 0 ∨ t = 1) : (t.toInt = 0 ∧ t.toInt.toNat = 0) ∨ (t.toInt = 1 ∧ t.toInt.toNat = 1) := by
  rcases h with q | q <;> rw [q] <;> decide
theorem wzSt_t {σ : za_S} {b w : Nat} {P : List wzR × List wzR} {t : Int32} (h : wzSt σ b P) (ht : t = 0 ∨ t = 1) (e : w = b + 1 + 2 * t.toInt.toNat) : wzTb σ w (wzsl P t.toInt) := by
  unfold wzsl
  rcases wzt01 ht with q | q
  · rw [if_pos q.1, e, q.2]; exact h.1
  · rw [if_neg (by omega), e, q.2]; exact h.2
theorem wzSt_p {σ σ' : za_S} {b w : Nat} {P : List wzR × List wzR} {L : List wzR} {t : Int32} (h : wzSt σ b P) (ht : t = 0 ∨ t = 1) (e : w = b + 1 + 2 * t.toInt.toNat) (k : wzTb σ' w L) (f : wzfw w σ σ') : wzSt σ' b (wzpu P t.toInt L) := by
  unfold wzpu
  rcases wzt01 ht with q | q
  · rw [q.2] at e
    subst e
    rw [if_pos q.1]
    exact ⟨k, wzTb_w ⟨by omega, by omega, by omega⟩ h.2 f⟩
  · rw [q.2] at e
    subst e
    rw [if_neg (by omega)]
    exact ⟨wzTb_w ⟨by omega, by omega, by omega⟩ h.1 f, k⟩
theorem wzih_1 {p : Nat → Prop} {n : Nat} (h : ∀ i, i < n → p i) (k : p n) : ¬ (1 : Int32) = 0 ↔ ∀ i, i < n + 1 → p i := by
  refine ⟨fun _ i hi => ?_, fun _ => by decide⟩
  by_cases c : i = n
  · rw [c]; exact k
  · exact h i (by omega)
theorem wzih_2 {p : Nat → Prop} {n : Nat} {y : Int32} (a : ¬ y = 0 ↔ ∀ i, i < n → p i) (c : y = 0) : ¬ (0 : Int32) = 0 ↔ ∀ i, i < n + 1 → p i := ⟨fun h => absurd rfl h, fun h => absurd c (a.mpr (fun i hi => h i (by omega)))⟩
theorem wzih_3 {p : Nat → Prop} {n : Nat} (k : ¬ p n) : ¬ (0 : Int32) = 0 ↔ ∀ i, i < n + 1 → p i := ⟨fun h => absurd rfl h, fun h => absurd (h n (by omega)) k⟩
set_option maxHeartbeats 4000000 in
set_option maxRecDepth 100000 in
theorem zc_X6_has_atx (l : Launch) (E : za_E) (w : Nat) (i : Int32) (σ : za_S)  : zMi l E yX6_has cX6_has 2 (Option.some Jvm.ClassFile.FieldType.boolean) 1 21 [za_O 2 w, za_I i] σ (fun r σ' => ((r = 0 ∨ r = 1) ∧ (¬ r = 0 ↔ 0 ≤ i.toInt ∧ i.toInt < (σ.1 w 1).toInt ∧ i.toInt < 24)) ∧ σ' = σ) := by
  refine zMi_of [(0, za_O 2 w), (1, za_I i)] (by decide) rfl rfl (Nat.le_of_ble_eq_true rfl) ?_
  intro ho p e s m args below meth c G hr
  have h_w : za_kd w = 2 := za_okO (by decide) (List.forall_mem_cons.mp ho).1
  refine zv_iload_n (j := 1) G dX6_has_0 rfl rfl ?_
  refine zv_if_lt (tgt := 22) G dX6_has_1 (by decide) (fun c_1 => ?_) (fun c_1 => ?_)
  · have k_1 := z_clt c_1 (a := i.toInt) (b := 0) rfl rfl
    refine zv_iconst (v := 0) G dX6_has_22 (by decide) ?_
    exact zv_zret G hr dX6_has_23 (by decide) ⟨⟨Or.inl rfl, fun h => absurd rfl h, fun h => False.elim (by omega)⟩, rfl⟩
  · have k_1 := z_cnlt c_1 (a := i.toInt) (b := 0) rfl rfl
    refine zv_iload_n (j := 1) G dX6_has_4 rfl rfl ?_
    refine zv_aload_n (j := 0) G dX6_has_5 rfl rfl ?_
    refine zg_X6_15 G dX6_has_6 ?_
    refine zv_icmp_ge (tgt := 22) G dX6_has_9 (by decide) (fun c_9 => ?_) (fun c_9 => ?_)
    · have k_9 := z_cle c_9 (a := (σ.1 w 1).toInt) (b := i.toInt) rfl rfl
      refine zv_iconst (v := 0) G dX6_has_22 (by decide) ?_
      exact zv_zret G hr dX6_has_23 (by decide) ⟨⟨Or.inl rfl, fun h => absurd rfl h, fun h => False.elim (by omega)⟩, rfl⟩
    · have k_9 := z_cnle c_9 (a := (σ.1 w 1).toInt) (b := i.toInt) rfl rfl
      refine zv_iload_n (j := 1) G dX6_has_12 rfl rfl ?_
      refine zv_bipush (v := 24) G dX6_has_13 (by decide) ?_
      refine zv_icmp_ge (tgt := 22) G dX6_has_15 (by decide) (fun c_15 => ?_) (fun c_15 => ?_)
      · have k_15 := z_cle c_15 (a := 24) (b := i.toInt) rfl rfl
        refine zv_iconst (v := 0) G dX6_has_22 (by decide) ?_
        exact zv_zret G hr dX6_has_23 (by decide) ⟨⟨Or.inl rfl, fun h => absurd rfl h, fun h => False.elim (by omega)⟩, rfl⟩
      · have k_15 := z_cnle c_15 (a := 24) (b := i.toInt) rfl rfl
        refine zv_iconst (v := 1) G dX6_has_18 (by decide) ?_
        refine zv_goto (tgt := 23) G dX6_has_19 (by decide) ?_
        exact zv_zret G hr dX6_has_23 (by decide) ⟨⟨Or.inr rfl, fun _ => by omega, fun _ => by decide⟩, rfl⟩
set_option maxHeartbeats 4000000 in
set_option maxRecDepth 100000 in
theorem zc_X6_cell_at0 (l : Launch) (E : za_E) (w : Nat) (i : Int32) (L : List wzR) (σ : za_S) (hT : wzTb σ w L) (hi : 0 ≤ i.toInt) : zMi l E yX6_cell cX6_cell 3 (Option.some Jvm.ClassFile.FieldType.int) 2 42 [za_O 2 w, za_I i, za_I 0] σ (fun r σ' => (r.toInt = wzcm 0 (wzg L i.toInt.toNat)) ∧ σ' = σ) := by
  refine zMi_of [(0, za_O 2 w), (1, za_I i), (2, za_I 0)] (by decide) rfl rfl (Nat.le_of_ble_eq_true rfl) ?_
  intro ho p e s m args below meth c G hr
  have h_w : za_kd w = 2 := za_okO (by decide) (List.forall_mem_cons.mp ho).1
  refine zv_aload_n (j := 0) G dX6_cell_0 rfl rfl ?_
  refine zv_iload_n (j := 1) G dX6_cell_1 rfl rfl ?_
  refine zv_callVi (as := [za_I i]) G (by decide) rfl rfl (zc_X6_has_atx l E w i σ ) zk_X6_has zm_401 rfl ⟨(Nat.le_of_ble_eq_true rfl), (Nat.le_of_ble_eq_true rfl)⟩ ⟨Nat.zero_le _, Nat.zero_le _⟩ (Nat.le_of_ble_eq_true rfl) dX6_cell_2 (fun r_2 σ h_2 => ?_)
  obtain ⟨h_2, rfl⟩ := h_2
  refine zv_if_eq (tgt := 30) G dX6_cell_5 (by decide) (fun c_5 => ?_) (fun c_5 => ?_)
  · have f_2 := fun q9 => (h_2.2.mpr q9) c_5
    refine zv_iconst (v := 0) G dX6_cell_30 (by decide) ?_
    exact zv_iret G hr dX6_cell_31 ⟨(by first | exact wzcl_1 hT t_2 (C := 0) rfl (by decide) | exact wzcl_0 hT hi f_2), rfl⟩
  · have t_2 := h_2.2.mp c_5
    refine zv_iload_n (j := 2) G dX6_cell_8 rfl rfl ?_
    refine zv_if_lt (tgt := 30) G dX6_cell_9 (by decide) (fun c_9 => ?_) (fun c_9 => ?_)
    · exact absurd c_9 (by decide)
    · have k_9 := z_cnlt c_9 (a := 0) (b := 0) rfl rfl
      refine zv_iload_n (j := 2) G dX6_cell_12 rfl rfl ?_
      refine zv_iconst (v := 5) G dX6_cell_13 (by decide) ?_
      refine zv_icmp_ge (tgt := 30) G dX6_cell_14 (by decide) (fun c_14 => ?_) (fun c_14 => ?_)
      · exact absurd c_14 (by decide)
      · have k_14 := z_cnle c_14 (a := 5) (b := 0) rfl rfl
        refine zv_aload_n (j := 0) G dX6_cell_17 rfl rfl ?_
        refine zg_X6_11 G dX6_cell_18 ?_
        refine zv_iload_n (j := 1) G dX6_cell_21 rfl rfl ?_
        refine zv_iconst (v := 5) G dX6_cell_22 (by decide) ?_
        refine zv_imul G dX6_cell_23 ?_
        refine zv_iload_n (j := 2) G dX6_cell_24 rfl rfl ?_
        refine zv_iadd G dX6_cell_25 ?_
        refine zv_iald G (by decide) rfl (z_cell t_2.1 t_2.2.2 (by decide) (by decide)) dX6_cell_26 ?_
        refine zv_goto (tgt := 31) G dX6_cell_27 (by decide) ?_
        exact zv_iret G hr dX6_cell_31 ⟨(by first | exact wzcl_1 hT t_2 (C := 0) rfl (by decide) | exact wzcl_0 hT hi f_2), rfl⟩
set_option maxHeartbeats 4000000 in
set_option maxRecDepth 100000 in
theorem zc_X6_cell_at1 (l : Launch) (E : za_E) (w : Nat) (i : Int32) (L : List wzR) (σ : za_S) (hT : wzTb σ w L) (hi : 0 ≤ i.toInt) : zMi l E yX6_cell cX6_cell 3 (Option.some Jvm.ClassFile.FieldType.int) 2 42 [za_O 2 w, za_I i, za_I 1] σ (fun r σ' => (r.toInt = wzcm 1 (wzg L i.toInt.toNat)) ∧ σ' = σ) := by
  refine zMi_of [(0, za_O 2 w), (1, za_I i), (2, za_I 1)] (by decide) rfl rfl (Nat.le_of_ble_eq_true rfl) ?_
  intro ho p e s m args below meth c G hr
  have h_w : za_kd w = 2 := za_okO (by decide) (List.forall_mem_cons.mp ho).1
  refine zv_aload_n (j := 0) G dX6_cell_0 rfl rfl ?_
  refine zv_iload_n (j := 1) G dX6_cell_1 rfl rfl ?_
  refine zv_callVi (as := [za_I i]) G (by decide) rfl rfl (zc_X6_has_atx l E w i σ ) zk_X6_has zm_401 rfl ⟨(Nat.le_of_ble_eq_true rfl), (Nat.le_of_ble_eq_true rfl)⟩ ⟨Nat.zero_le _, Nat.zero_le _⟩ (Nat.le_of_ble_eq_true rfl) dX6_cell_2 (fun r_2 σ h_2 => ?_)
  obtain ⟨h_2, rfl⟩ := h_2
  refine zv_if_eq (tgt := 30) G dX6_cell_5 (by decide) (fun c_5 => ?_) (fun c_5 => ?_)
  · have f_2 := fun q9 => (h_2.2.mpr q9) c_5
    refine zv_iconst (v := 0) G dX6_cell_30 (by decide) ?_
    exact zv_iret G hr dX6_cell_31 ⟨(by first | exact wzcl_1 hT t_2 (C := 1) rfl (by decide) | exact wzcl_0 hT hi f_2), rfl⟩
  · have t_2 := h_2.2.mp c_5
    refine zv_iload_n (j := 2) G dX6_cell_8 rfl rfl ?_
    refine zv_if_lt (tgt := 30) G dX6_cell_9 (by decide) (fun c_9 => ?_) (fun c_9 => ?_)
    · exact absurd c_9 (by decide)
    · have k_9 := z_cnlt c_9 (a := 1) (b := 0) rfl rfl
      refine zv_iload_n (j := 2) G dX6_cell_12 rfl rfl ?_
      refine zv_iconst (v := 5) G dX6_cell_13 (by decide) ?_
      refine zv_icmp_ge (tgt := 30) G dX6_cell_14 (by decide) (fun c_14 => ?_) (fun c_14 => ?_)
      · exact absurd c_14 (by decide)
      · have k_14 := z_cnle c_14 (a := 5) (b := 1) rfl rfl
        refine zv_aload_n (j := 0) G dX6_cell_17 rfl rfl ?_
        refine zg_X6_11 G dX6_cell_18 ?_
        refine zv_iload_n (j := 1) G dX6_cell_21 rfl rfl ?_
        refine zv_iconst (v := 5) G dX6_cell_22 (by decide) ?_
        refine zv_imul G dX6_cell_23 ?_
        refine zv_iload_n (j := 2) G dX6_cell_24 rfl rfl ?_
        refine zv_iadd G dX6_cell_25 ?_
        refine zv_iald G (by decide) rfl (z_cell t_2.1 t_2.2.2 (by decide) (by decide)) dX6_cell_26 ?_
        refine zv_goto (tgt := 31) G dX6_cell_27 (by decide) ?_
        exact zv_iret G hr dX6_cell_31 ⟨(by first | exact wzcl_1 hT t_2 (C := 1) rfl (by decide) | exact wzcl_0 hT hi f_2), rfl⟩
set_option maxHeartbeats 4000000 in
set_option maxRecDepth 100000 in
theorem zc_X6_cell_at2 (l : Launch) (E : za_E) (w : Nat) (i : Int32) (L : List wzR) (σ : za_S) (hT : wzTb σ w L) (hi : 0 ≤ i.toInt) : zMi l E yX6_cell cX6_cell 3 (Option.some Jvm.ClassFile.FieldType.int) 2 42 [za_O 2 w, za_I i, za_I 2] σ (fun r σ' => (r.toInt = wzcm 2 (wzg L i.toInt.toNat)) ∧ σ' = σ) := by
  refine zMi_of [(0, za_O 2 w), (1, za_I i), (2, za_I 2)] (by decide) rfl rfl (Nat.le_of_ble_eq_true rfl) ?_
  intro ho p e s m args below meth c G hr
  have h_w : za_kd w = 2 := za_okO (by decide) (List.forall_mem_cons.mp ho).1
  refine zv_aload_n (j := 0) G dX6_cell_0 rfl rfl ?_
  refine zv_iload_n (j := 1) G dX6_cell_1 rfl rfl ?_
  refine zv_callVi (as := [za_I i]) G (by decide) rfl rfl (zc_X6_has_atx l E w i σ ) zk_X6_has zm_401 rfl ⟨(Nat.le_of_ble_eq_true rfl), (Nat.le_of_ble_eq_true rfl)⟩ ⟨Nat.zero_le _, Nat.zero_le _⟩ (Nat.le_of_ble_eq_true rfl) dX6_cell_2 (fun r_2 σ h_2 => ?_)
  obtain ⟨h_2, rfl⟩ := h_2
  refine zv_if_eq (tgt := 30) G dX6_cell_5 (by decide) (fun c_5 => ?_) (fun c_5 => ?_)
  · have f_2 := fun q9 => (h_2.2.mpr q9) c_5
    refine zv_iconst (v := 0) G dX6_cell_30 (by decide) ?_
    exact zv_iret G hr dX6_cell_31 ⟨(by first | exact wzcl_1 hT t_2 (C := 2) rfl (by decide) | exact wzcl_0 hT hi f_2), rfl⟩
  · have t_2 := h_2.2.mp c_5
    refine zv_iload_n (j := 2) G dX6_cell_8 rfl rfl ?_
    refine zv_if_lt (tgt := 30) G dX6_cell_9 (by decide) (fun c_9 => ?_) (fun c_9 => ?_)
    · exact absurd c_9 (by decide)
    · have k_9 := z_cnlt c_9 (a := 2) (b := 0) rfl rfl
      refine zv_iload_n (j := 2) G dX6_cell_12 rfl rfl ?_
      refine zv_iconst (v := 5) G dX6_cell_13 (by decide) ?_
      refine zv_icmp_ge (tgt := 30) G dX6_cell_14 (by decide) (fun c_14 => ?_) (fun c_14 => ?_)
      · exact absurd c_14 (by decide)
      · have k_14 := z_cnle c_14 (a := 5) (b := 2) rfl rfl
        refine zv_aload_n (j := 0) G dX6_cell_17 rfl rfl ?_
        refine zg_X6_11 G dX6_cell_18 ?_
        refine zv_iload_n (j := 1) G dX6_cell_21 rfl rfl ?_
        refine zv_iconst (v := 5) G dX6_cell_22 (by decide) ?_
        refine zv_imul G dX6_cell_23 ?_
        refine zv_iload_n (j := 2) G dX6_cell_24 rfl rfl ?_
        refine zv_iadd G dX6_cell_25 ?_
        refine zv_iald G (by decide) rfl (z_cell t_2.1 t_2.2.2 (by decide) (by decide)) dX6_cell_26 ?_
        refine zv_goto (tgt := 31) G dX6_cell_27 (by decide) ?_
        exact zv_iret G hr dX6_cell_31 ⟨(by first | exact wzcl_1 hT t_2 (C := 2) rfl (by decide) | exact wzcl_0 hT hi f_2), rfl⟩
set_option maxHeartbeats 4000000 in
set_option maxRecDepth 100000 in
theorem zc_X6_cell_at3 (l : Launch) (E : za_E) (w : Nat) (i : Int32) (L : List wzR) (σ : za_S) (hT : wzTb σ w L) (hi : 0 ≤ i.toInt) : zMi l E yX6_cell cX6_cell 3 (Option.some Jvm.ClassFile.FieldType.int) 2 42 [za_O 2 w, za_I i, za_I 3] σ (fun r σ' => (r.toInt = wzcm 3 (wzg L i.toInt.toNat)) ∧ σ' = σ) := by
  refine zMi_of [(0, za_O 2 w), (1, za_I i), (2, za_I 3)] (by decide) rfl rfl (Nat.le_of_ble_eq_true rfl) ?_
  intro ho p e s m args below meth c G hr
  have h_w : za_kd w = 2 := za_okO (by decide) (List.forall_mem_cons.mp ho).1
  refine zv_aload_n (j := 0) G dX6_cell_0 rfl rfl ?_
  refine zv_iload_n (j := 1) G dX6_cell_1 rfl rfl ?_
  refine zv_callVi (as := [za_I i]) G (by decide) rfl rfl (zc_X6_has_atx l E w i σ ) zk_X6_has zm_401 rfl ⟨(Nat.le_of_ble_eq_true rfl), (Nat.le_of_ble_eq_true rfl)⟩ ⟨Nat.zero_le _, Nat.zero_le _⟩ (Nat.le_of_ble_eq_true rfl) dX6_cell_2 (fun r_2 σ h_2 => ?_)
  obtain ⟨h_2, rfl⟩ := h_2
  refine zv_if_eq (tgt := 30) G dX6_cell_5 (by decide) (fun c_5 => ?_) (fun c_5 => ?_)
  · have f_2 := fun q9 => (h_2.2.mpr q9) c_5
    refine zv_iconst (v := 0) G dX6_cell_30 (by decide) ?_
    exact zv_iret G hr dX6_cell_31 ⟨(by first | exact wzcl_1 hT t_2 (C := 3) rfl (by decide) | exact wzcl_0 hT hi f_2), rfl⟩
  · have t_2 := h_2.2.mp c_5
    refine zv_iload_n (j := 2) G dX6_cell_8 rfl rfl ?_
    refine zv_if_lt (tgt := 30) G dX6_cell_9 (by decide) (fun c_9 => ?_) (fun c_9 => ?_)
    · exact absurd c_9 (by decide)
    · have k_9 := z_cnlt c_9 (a := 3) (b := 0) rfl rfl
      refine zv_iload_n (j := 2) G dX6_cell_12 rfl rfl ?_
      refine zv_iconst (v := 5) G dX6_cell_13 (by decide) ?_
      refine zv_icmp_ge (tgt := 30) G dX6_cell_14 (by decide) (fun c_14 => ?_) (fun c_14 => ?_)
      · exact absurd c_14 (by decide)
      · have k_14 := z_cnle c_14 (a := 5) (b := 3) rfl rfl
        refine zv_aload_n (j := 0) G dX6_cell_17 rfl rfl ?_
        refine zg_X6_11 G dX6_cell_18 ?_
        refine zv_iload_n (j := 1) G dX6_cell_21 rfl rfl ?_
        refine zv_iconst (v := 5) G dX6_cell_22 (by decide) ?_
        refine zv_imul G dX6_cell_23 ?_
        refine zv_iload_n (j := 2) G dX6_cell_24 rfl rfl ?_
        refine zv_iadd G dX6_cell_25 ?_
        refine zv_iald G (by decide) rfl (z_cell t_2.1 t_2.2.2 (by decide) (by decide)) dX6_cell_26 ?_
        refine zv_goto (tgt := 31) G dX6_cell_27 (by decide) ?_
        exact zv_iret G hr dX6_cell_31 ⟨(by first | exact wzcl_1 hT t_2 (C := 3) rfl (by decide) | exact wzcl_0 hT hi f_2), rfl⟩
set_option maxHeartbeats 4000000 in
set_option maxRecDepth 100000 in
theorem zc_X6_cell_at4 (l : Launch) (E : za_E) (w : Nat) (i : Int32) (L : List wzR) (σ : za_S) (hT : wzTb σ w L) (hi : 0 ≤ i.toInt) : zMi l E yX6_cell cX6_cell 3 (Option.some Jvm.ClassFile.FieldType.int) 2 42 [za_O 2 w, za_I i, za_I 4] σ (fun r σ' => (r.toInt = wzcm 4 (wzg L i.toInt.toNat)) ∧ σ' = σ) := by
  refine zMi_of [(0, za_O 2 w), (1, za_I i), (2, za_I 4)] (by decide) rfl rfl (Nat.le_of_ble_eq_true rfl) ?_
  intro ho p e s m args below meth c G hr
  have h_w : za_kd w = 2 := za_okO (by decide) (List.forall_mem_cons.mp ho).1
  refine zv_aload_n (j := 0) G dX6_cell_0 rfl rfl ?_
  refine zv_iload_n (j := 1) G dX6_cell_1 rfl rfl ?_
  refine zv_callVi (as := [za_I i]) G (by decide) rfl rfl (zc_X6_has_atx l E w i σ ) zk_X6_has zm_401 rfl ⟨(Nat.le_of_ble_eq_true rfl), (Nat.le_of_ble_eq_true rfl)⟩ ⟨Nat.zero_le _, Nat.zero_le _⟩ (Nat.le_of_ble_eq_true rfl) dX6_cell_2 (fun r_2 σ h_2 => ?_)
  obtain ⟨h_2, rfl⟩ := h_2
  refine zv_if_eq (tgt := 30) G dX6_cell_5 (by decide) (fun c_5 => ?_) (fun c_5 => ?_)
  · have f_2 := fun q9 => (h_2.2.mpr q9) c_5
    refine zv_iconst (v := 0) G dX6_cell_30 (by decide) ?_
    exact zv_iret G hr dX6_cell_31 ⟨(by first | exact wzcl_1 hT t_2 (C := 4) rfl (by decide) | exact wzcl_0 hT hi f_2), rfl⟩
  · have t_2 := h_2.2.mp c_5
    refine zv_iload_n (j := 2) G dX6_cell_8 rfl rfl ?_
    refine zv_if_lt (tgt := 30) G dX6_cell_9 (by decide) (fun c_9 => ?_) (fun c_9 => ?_)
    · exact absurd c_9 (by decide)
    · have k_9 := z_cnlt c_9 (a := 4) (b := 0) rfl rfl
      refine zv_iload_n (j := 2) G dX6_cell_12 rfl rfl ?_
      refine zv_iconst (v := 5) G dX6_cell_13 (by decide) ?_
      refine zv_icmp_ge (tgt := 30) G dX6_cell_14 (by decide) (fun c_14 => ?_) (fun c_14 => ?_)
      · exact absurd c_14 (by decide)
      · have k_14 := z_cnle c_14 (a := 5) (b := 4) rfl rfl
        refine zv_aload_n (j := 0) G dX6_cell_17 rfl rfl ?_
        refine zg_X6_11 G dX6_cell_18 ?_
        refine zv_iload_n (j := 1) G dX6_cell_21 rfl rfl ?_
        refine zv_iconst (v := 5) G dX6_cell_22 (by decide) ?_
        refine zv_imul G dX6_cell_23 ?_
        refine zv_iload_n (j := 2) G dX6_cell_24 rfl rfl ?_
        refine zv_iadd G dX6_cell_25 ?_
        refine zv_iald G (by decide) rfl (z_cell t_2.1 t_2.2.2 (by decide) (by decide)) dX6_cell_26 ?_
        refine zv_goto (tgt := 31) G dX6_cell_27 (by decide) ?_
        exact zv_iret G hr dX6_cell_31 ⟨(by first | exact wzcl_1 hT t_2 (C := 4) rfl (by decide) | exact wzcl_0 hT hi f_2), rfl⟩
set_option maxHeartbeats 4000000 in
set_option maxRecDepth 100000 in
theorem zc_X6_cell_atw (l : Launch) (E : za_E) (w : Nat) (i : Int32) (cj : Int32) (L : List wzR) (σ : za_S) (hT : wzTb σ w L) (hi : 0 ≤ i.toInt) (hw : 0 ≤ cj.toInt ∧ cj.toInt ≤ 4) : zMi l E yX6_cell cX6_cell 3 (Option.some Jvm.ClassFile.FieldType.int) 2 42 [za_O 2 w, za_I i, za_I cj] σ (fun r σ' => (r.toInt = wzcm cj.toInt.toNat (wzg L i.toInt.toNat)) ∧ σ' = σ) := by
  refine zMi_of [(0, za_O 2 w), (1, za_I i), (2, za_I cj)] (by decide) rfl rfl (Nat.le_of_ble_eq_true rfl) ?_
  intro ho p e s m args below meth c G hr
  have h_w : za_kd w = 2 := za_okO (by decide) (List.forall_mem_cons.mp ho).1
  refine zv_aload_n (j := 0) G dX6_cell_0 rfl rfl ?_
  refine zv_iload_n (j := 1) G dX6_cell_1 rfl rfl ?_
  refine zv_callVi (as := [za_I i]) G (by decide) rfl rfl (zc_X6_has_atx l E w i σ ) zk_X6_has zm_401 rfl ⟨(Nat.le_of_ble_eq_true rfl), (Nat.le_of_ble_eq_true rfl)⟩ ⟨Nat.zero_le _, Nat.zero_le _⟩ (Nat.le_of_ble_eq_true rfl) dX6_cell_2 (fun r_2 σ h_2 => ?_)
  obtain ⟨h_2, rfl⟩ := h_2
  refine zv_if_eq (tgt := 30) G dX6_cell_5 (by decide) (fun c_5 => ?_) (fun c_5 => ?_)
  · have f_2 := fun q9 => (h_2.2.mpr q9) c_5
    refine zv_iconst (v := 0) G dX6_cell_30 (by decide) ?_
    exact zv_iret G hr dX6_cell_31 ⟨(by first | exact wzcl_1 hT t_2 (C := cj.toInt.toNat) (by omega) (by omega) | exact wzcl_0 hT hi f_2 | (exfalso; omega)), rfl⟩
  · have t_2 := h_2.2.mp c_5
    refine zv_iload_n (j := 2) G dX6_cell_8 rfl rfl ?_
    refine zv_if_lt (tgt := 30) G dX6_cell_9 (by decide) (fun c_9 => ?_) (fun c_9 => ?_)
    · have k_9 := z_clt c_9 (a := cj.toInt) (b := 0) rfl rfl
      refine zv_iconst (v := 0) G dX6_cell_30 (by decide) ?_
      exact zv_iret G hr dX6_cell_31 ⟨(by first | exact wzcl_1 hT t_2 (C := cj.toInt.toNat) (by omega) (by omega) | exact wzcl_0 hT hi f_2 | (exfalso; omega)), rfl⟩
    · have k_9 := z_cnlt c_9 (a := cj.toInt) (b := 0) rfl rfl
      refine zv_iload_n (j := 2) G dX6_cell_12 rfl rfl ?_
      refine zv_iconst (v := 5) G dX6_cell_13 (by decide) ?_
      refine zv_icmp_ge (tgt := 30) G dX6_cell_14 (by decide) (fun c_14 => ?_) (fun c_14 => ?_)
      · have k_14 := z_cle c_14 (a := 5) (b := cj.toInt) rfl rfl
        refine zv_iconst (v := 0) G dX6_cell_30 (by decide) ?_
        exact zv_iret G hr dX6_cell_31 ⟨(by first | exact wzcl_1 hT t_2 (C := cj.toInt.toNat) (by omega) (by omega) | exact wzcl_0 hT hi f_2 | (exfalso; omega)), rfl⟩
      · have k_14 := z_cnle c_14 (a := 5) (b := cj.toInt) rfl rfl
        refine zv_aload_n (j := 0) G dX6_cell_17 rfl rfl ?_
        refine zg_X6_11 G dX6_cell_18 ?_
        refine zv_iload_n (j := 1) G dX6_cell_21 rfl rfl ?_
        refine zv_iconst (v := 5) G dX6_cell_22 (by decide) ?_
        refine zv_imul G dX6_cell_23 ?_
        refine zv_iload_n (j := 2) G dX6_cell_24 rfl rfl ?_
        refine zv_iadd G dX6_cell_25 ?_
        refine zv_iald G (by decide) rfl (z_cell t_2.1 t_2.2.2 hw.1 (by omega)) dX6_cell_26 ?_
        refine zv_goto (tgt := 31) G dX6_cell_27 (by decide) ?_
        exact zv_iret G hr dX6_cell_31 ⟨(by first | exact wzcl_1 hT t_2 (C := cj.toInt.toNat) (by omega) (by omega) | exact wzcl_0 hT hi f_2 | (exfalso; omega)), rfl⟩
set_option maxHeartbeats 4000000 in
set_option maxRecDepth 100000 in
theorem zc_X6_daysOfRow_atx (l : Launch) (E : za_E) (w : Nat) (i : Int32) (L : List wzR) (σ : za_S) (hT : wzTb σ w L) (hO : wzOk L) (hi : 0 ≤ i.toInt) : zMi l E yX6_daysOfRow cX6_daysOfRow 2 (Option.some Jvm.ClassFile.FieldType.int) 3 64 [za_O 2 w, za_I i] σ (fun r σ' => (r.toInt = wzcm 3 (wzg L i.toInt.toNat) - wzcm 2 (wzg L i.toInt.toNat)) ∧ σ' = σ) := by
  refine zMi_of [(0, za_O 2 w), (1, za_I i)] (by decide) rfl rfl (Nat.le_of_ble_eq_true rfl) ?_
  intro ho p e s m args below meth c G hr
  have h_w : za_kd w = 2 := za_okO (by decide) (List.forall_mem_cons.mp ho).1
  refine zv_aload_n (j := 0) G dX6_daysOfRow_0 rfl rfl ?_
  refine zv_iload_n (j := 1) G dX6_daysOfRow_1 rfl rfl ?_
  refine zv_iconst (v := 3) G dX6_daysOfRow_2 (by decide) ?_
  refine zv_callVi (as := [za_I i, za_I 3]) G (by decide) rfl rfl (zc_X6_cell_at3 l E w i L σ (by first | assumption | decide | omega) (by first | assumption | decide | omega)) zk_X6_cell zm_465 rfl ⟨(Nat.le_of_ble_eq_true rfl), (Nat.le_of_ble_eq_true rfl)⟩ ⟨Nat.zero_le _, Nat.zero_le _⟩ (Nat.le_of_ble_eq_true rfl) dX6_daysOfRow_3 (fun r_3 σ h_3 => ?_)
  obtain ⟨h_3, rfl⟩ := h_3
  refine zv_aload_n (j := 0) G dX6_daysOfRow_6 rfl rfl ?_
  refine zv_iload_n (j := 1) G dX6_daysOfRow_7 rfl rfl ?_
  refine zv_iconst (v := 2) G dX6_daysOfRow_8 (by decide) ?_
  refine zv_callVi (as := [za_I i, za_I 2]) G (by decide) rfl rfl (zc_X6_cell_at2 l E w i L σ (by first | assumption | decide | omega) (by first | assumption | decide | omega)) zk_X6_cell zm_465 rfl ⟨(Nat.le_of_ble_eq_true rfl), (Nat.le_of_ble_eq_true rfl)⟩ ⟨Nat.zero_le _, Nat.zero_le _⟩ (Nat.le_of_ble_eq_true rfl) dX6_daysOfRow_9 (fun r_9 σ h_9 => ?_)
  obtain ⟨h_9, rfl⟩ := h_9
  refine zv_isub G dX6_daysOfRow_12 ?_
  exact zv_iret G hr dX6_daysOfRow_13 ⟨(by have o3 := wzg_ok hO i.toInt.toNat 3; have o2 := wzg_ok hO i.toInt.toNat 2; exact z_subf rfl h_3 h_9 (by omega) (by omega)), rfl⟩
set_option maxHeartbeats 4000000 in
set_option maxRecDepth 100000 in
theorem zc_X6_daysOfRowWithin_atx (l : Launch) (E : za_E) (w : Nat) (i : Int32) (fd : Int32) (td : Int32) (L : List wzR) (σ : za_S) (hT : wzTb σ w L) (hO : wzOk L) (hi : 0 ≤ i.toInt) (hp : (0 ≤ fd.toInt ∧ fd.toInt ≤ 100) ∧ 0 ≤ td.toInt ∧ td.toInt ≤ 100) : zMi l E yX6_daysOfRowWithin cX6_daysOfRowWithin 4 (Option.some Jvm.ClassFile.FieldType.int) 3 64 [za_O 2 w, za_I i, za_I fd, za_I td] σ (fun r σ' => (r.toInt = wzov (wzg L i.toInt.toNat) fd.toInt td.toInt) ∧ σ' = σ) := by
  refine zMi_of [(0, za_O 2 w), (1, za_I i), (2, za_I fd), (3, za_I td)] (by decide) rfl rfl (Nat.le_of_ble_eq_true rfl) ?_
  intro ho p e s m args below meth c G hr
  have h_w : za_kd w = 2 := za_okO (by decide) (List.forall_mem_cons.mp ho).1
  refine zv_iconst (v := 0) G dX6_daysOfRowWithin_0 (by decide) ?_
  refine zv_iload_n (j := 3) G dX6_daysOfRowWithin_1 rfl rfl ?_
  refine zv_aload_n (j := 0) G dX6_daysOfRowWithin_2 rfl rfl ?_
  refine zv_iload_n (j := 1) G dX6_daysOfRowWithin_3 rfl rfl ?_
  refine zv_iconst (v := 3) G dX6_daysOfRowWithin_4 (by decide) ?_
  refine zv_callVi (as := [za_I i, za_I 3]) G (by decide) rfl rfl (zc_X6_cell_at3 l E w i L σ (by first | assumption | decide | omega) (by first | assumption | decide | omega)) zk_X6_cell zm_465 rfl ⟨(Nat.le_of_ble_eq_true rfl), (Nat.le_of_ble_eq_true rfl)⟩ ⟨Nat.zero_le _, Nat.zero_le _⟩ (Nat.le_of_ble_eq_true rfl) dX6_daysOfRowWithin_5 (fun r_5 σ h_5 => ?_)
  obtain ⟨h_5, rfl⟩ := h_5
  refine zv_mmin G zm_473 zm_392 zm_147 zm_393 (Nat.le_of_ble_eq_true rfl) (Nat.le_of_ble_eq_true rfl) (Nat.zero_le _) (Nat.zero_le _) dX6_daysOfRowWithin_8 ?_
  refine zv_top (fun x_8 e_8 => ?_)
  refine zv_iload_n (j := 2) G dX6_daysOfRowWithin_11 rfl rfl ?_
  refine zv_aload_n (j := 0) G dX6_daysOfRowWithin_12 rfl rfl ?_
  refine zv_iload_n (j := 1) G dX6_daysOfRowWithin_13 rfl rfl ?_
  refine zv_iconst (v := 2) G dX6_daysOfRowWithin_14 (by decide) ?_
  refine zv_callVi (as := [za_I i, za_I 2]) G (by decide) rfl rfl (zc_X6_cell_at2 l E w i L σ (by first | assumption | decide | omega) (by first | assumption | decide | omega)) zk_X6_cell zm_465 rfl ⟨(Nat.le_of_ble_eq_true rfl), (Nat.le_of_ble_eq_true rfl)⟩ ⟨Nat.zero_le _, Nat.zero_le _⟩ (Nat.le_of_ble_eq_true rfl) dX6_daysOfRowWithin_15 (fun r_15 σ h_15 => ?_)
  obtain ⟨h_15, rfl⟩ := h_15
  refine zv_mmax G zm_474 zm_395 zm_147 zm_396 (Nat.le_of_ble_eq_true rfl) (Nat.le_of_ble_eq_true rfl) (Nat.zero_le _) (Nat.zero_le _) dX6_daysOfRowWithin_18 ?_
  refine zv_top (fun x_18 e_18 => ?_)
  refine zv_isub G dX6_daysOfRowWithin_21 ?_
  refine zv_mmax G zm_474 zm_395 zm_147 zm_396 (Nat.le_of_ble_eq_true rfl) (Nat.le_of_ble_eq_true rfl) (Nat.zero_le _) (Nat.zero_le _) dX6_daysOfRowWithin_22 ?_
  refine zv_top (fun x_22 e_22 => ?_)
  exact zv_iret G hr dX6_daysOfRowWithin_25 ⟨(wzov_T (wzg_ok hO _) hp h_5 h_15 e_8 e_18 e_22), rfl⟩
set_option maxHeartbeats 4000000 in
set_option maxRecDepth 100000 in
theorem zc_X6_touches_atx (l : Launch) (E : za_E) (w : Nat) (i : Int32) (k : Int32) (fd : Int32) (td : Int32) (L : List wzR) (σ : za_S) (hT : wzTb σ w L) (hO : wzOk L) (hi : 0 ≤ i.toInt) (hp : (0 ≤ fd.toInt ∧ fd.toInt ≤ 100) ∧ 0 ≤ td.toInt ∧ td.toInt ≤ 100) : zMi l E yX6_touches cX6_touches 5 (Option.some Jvm.ClassFile.FieldType.boolean) 4 87 [za_O 2 w, za_I i, za_I k, za_I fd, za_I td] σ (fun r σ' => ((r = 0 ∨ r = 1) ∧ (¬ r = 0 ↔ wztc (wzg L i.toInt.toNat) k.toInt fd.toInt td.toInt)) ∧ σ' = σ) := by
  refine zMi_of [(0, za_O 2 w), (1, za_I i), (2, za_I k), (3, za_I fd), (4, za_I td)] (by decide) rfl rfl (Nat.le_of_ble_eq_true rfl) ?_
  intro ho p e s m args below meth c G hr
  have h_w : za_kd w = 2 := za_okO (by decide) (List.forall_mem_cons.mp ho).1
  refine zv_aload_n (j := 0) G dX6_touches_0 rfl rfl ?_
  refine zv_iload_n (j := 1) G dX6_touches_1 rfl rfl ?_
  refine zv_iconst (v := 0) G dX6_touches_2 (by decide) ?_
  refine zv_callVi (as := [za_I i, za_I 0]) G (by decide) rfl rfl (zc_X6_cell_at0 l E w i L σ (by first | assumption | decide | omega) (by first | assumption | decide | omega)) zk_X6_cell zm_465 rfl ⟨(Nat.le_of_ble_eq_true rfl), (Nat.le_of_ble_eq_true rfl)⟩ ⟨Nat.zero_le _, Nat.zero_le _⟩ (Nat.le_of_ble_eq_true rfl) dX6_touches_3 (fun r_3 σ h_3 => ?_)
  obtain ⟨h_3, rfl⟩ := h_3
  refine zv_iload_n (j := 2) G dX6_touches_6 rfl rfl ?_
  refine zv_icmp_ne (tgt := 25) G dX6_touches_7 (by decide) (fun c_7 => ?_) (fun c_7 => ?_)
  · have k_7 := z_cne c_7 (a := r_3.toInt) (b := k.toInt) rfl rfl
    refine zv_iconst (v := 0) G dX6_touches_25 (by decide) ?_
    exact zv_zret G hr dX6_touches_26 (by decide) ⟨⟨Or.inl rfl, fun h => absurd rfl h, fun h => False.elim (by first | (have h9 := h.1; omega) | (have h9 := wzov_pos.mpr h.2; omega))⟩, rfl⟩
  · have k_7 := z_ceq c_7 (a := r_3.toInt) (b := k.toInt) rfl rfl
    refine zv_aload_n (j := 0) G dX6_touches_10 rfl rfl ?_
    refine zv_iload_n (j := 1) G dX6_touches_11 rfl rfl ?_
    refine zv_iload_n (j := 3) G dX6_touches_12 rfl rfl ?_
    refine zv_iload (j := 4) G dX6_touches_13 rfl ?_
    refine zv_callVi (as := [za_I i, za_I fd, za_I td]) G (by decide) rfl rfl (zc_X6_daysOfRowWithin_atx l E w i fd td L σ (by first | assumption | decide | omega) (by first | assumption | decide | omega) (by first | assumption | decide | omega) (by first | assumption | decide | omega)) zk_X6_daysOfRowWithin zm_469 rfl ⟨(Nat.le_of_ble_eq_true rfl), (Nat.le_of_ble_eq_true rfl)⟩ ⟨Nat.zero_le _, Nat.zero_le _⟩ (Nat.le_of_ble_eq_true rfl) dX6_touches_15 (fun r_15 σ h_15 => ?_)
    obtain ⟨h_15, rfl⟩ := h_15
    refine zv_if_le (tgt := 25) G dX6_touches_18 (by decide) (fun c_18 => ?_) (fun c_18 => ?_)
    · have k_18 := z_cle c_18 (a := r_15.toInt) (b := 0) rfl rfl
      refine zv_iconst (v := 0) G dX6_touches_25 (by decide) ?_
      exact zv_zret G hr dX6_touches_26 (by decide) ⟨⟨Or.inl rfl, fun h => absurd rfl h, fun h => False.elim (by first | (have h9 := h.1; omega) | (have h9 := wzov_pos.mpr h.2; omega))⟩, rfl⟩
    · have k_18 := z_cnle c_18 (a := r_15.toInt) (b := 0) rfl rfl
      refine zv_iconst (v := 1) G dX6_touches_21 (by decide) ?_
      refine zv_goto (tgt := 26) G dX6_touches_22 (by decide) ?_
      exact zv_zret G hr dX6_touches_26 (by decide) ⟨⟨Or.inr rfl, fun _ => ⟨by omega, wzov_pos.mp (by omega)⟩, fun _ => by decide⟩, rfl⟩
set_option maxHeartbeats 4000000 in
set_option maxRecDepth 100000 in
theorem zc_X6_touching_atx (l : Launch) (E : za_E) (w : Nat) (k : Int32) (fd : Int32) (td : Int32) (L : List wzR) (σ : za_S) (hT : wzTb σ w L) (hO : wzOk L) (hp : (0 ≤ fd.toInt ∧ fd.toInt ≤ 100) ∧ 0 ≤ td.toInt ∧ td.toInt ≤ 100) : zMi l E yX6_touching cX6_touching 6 (Option.some Jvm.ClassFile.FieldType.int) 5 111 [za_O 2 w, za_I k, za_I fd, za_I td] σ (fun r σ' => (0 ≤ r.toInt ∧ wzal (fun i => wztc (wzg L i) k.toInt fd.toInt td.toInt) r.toInt L.length) ∧ σ' = σ) := by
  refine zMi_of [(0, za_O 2 w), (1, za_I k), (2, za_I fd), (3, za_I td)] (by decide) rfl rfl (Nat.le_of_ble_eq_true rfl) ?_
  intro ho p e s m args below meth c G hr
  have h_w : za_kd w = 2 := za_okO (by decide) (List.forall_mem_cons.mp ho).1
  have hL9 := hT.1
  have hB9 := hT.2.1
  refine zv_iconst (v := 0) G dX6_touching_0 (by decide) ?_
  refine zv_istore (lv' := [(4, za_I 0), (0, za_O 2 w), (1, za_I k), (2, za_I fd), (3, za_I td)]) G dX6_touching_1 (by decide) rfl ?_
  refine zv_iconst (v := 0) G dX6_touching_3 (by decide) ?_
  have J_6 : ∀ (n : Nat) (y4_6 : Int32) (y5_6 : Int32) (g_6 : 0 ≤ y4_6.toInt ∧ y4_6.toInt ≤ y5_6.toInt ∧ y5_6.toInt ≤ L.length) (a_6 : wzal (fun i => wztc (wzg L i) k.toInt fd.toInt td.toInt) y4_6.toInt y5_6.toInt.toNat) (i5_6 : 0 ≤ y5_6.toInt) (hn_6 : (2147483648 - y5_6.toInt).toNat < n), zV p l e (zRm 5 111) s m args below meth c E (za_A E) 6 0 0 (MQ below (va_Qi (fun r σ' => (0 ≤ r.toInt ∧ wzal (fun i => wztc (wzg L i) k.toInt fd.toInt td.toInt) r.toInt L.length) ∧ σ' = σ) (zB E) (za_A E)) args s 0 0 (za_A E)) 6 [(0, za_O 2 w), (1, za_I k), (2, za_I fd), (3, za_I td), (4, za_I y4_6), (5, za_I y5_6)] [] σ := by
    intro n
    induction n with
    | zero => intro y4_6 y5_6 g_6 a_6 i5_6 hn; exact absurd hn (Nat.not_lt_zero _)
    | succ n ih_6 =>
      intro y4_6 y5_6 g_6 a_6 i5_6 hn_6
      refine zv_iload (j := 5) G dX6_touching_6 rfl ?_
      refine zv_aload_n (j := 0) G dX6_touching_8 rfl rfl ?_
      refine zg_X6_15 G dX6_touching_9 ?_
      refine zv_icmp_ge (tgt := 36) G dX6_touching_12 (by decide) (fun c_12 => ?_) (fun c_12 => ?_)
      · have k_12 := z_cle c_12 (a := (σ.1 w 1).toInt) (b := y5_6.toInt) rfl rfl
        refine zv_iload (j := 4) G dX6_touching_36 rfl ?_
        exact zv_iret G hr dX6_touching_38 ⟨⟨g_6.1, wzal_e a_6 (by omega)⟩, rfl⟩
      · have k_12 := z_cnle c_12 (a := (σ.1 w 1).toInt) (b := y5_6.toInt) rfl rfl
        refine zv_aload_n (j := 0) G dX6_touching_15 rfl rfl ?_
        refine zv_iload (j := 5) G dX6_touching_16 rfl ?_
        refine zv_iload_n (j := 1) G dX6_touching_18 rfl rfl ?_
        refine zv_iload_n (j := 2) G dX6_touching_19 rfl rfl ?_
        refine zv_iload_n (j := 3) G dX6_touching_20 rfl rfl ?_
        refine zv_callVi (as := [za_I y5_6, za_I k, za_I fd, za_I td]) G (by decide) rfl rfl (zc_X6_touches_atx l E w y5_6 k fd td L σ (by first | assumption | decide | omega) (by first | assumption | decide | omega) (by first | assumption | decide | omega) (by first | assumption | decide | omega)) zk_X6_touches zm_461 rfl ⟨(Nat.le_of_ble_eq_true rfl), (Nat.le_of_ble_eq_true rfl)⟩ ⟨Nat.zero_le _, Nat.zero_le _⟩ (Nat.le_of_ble_eq_true rfl) dX6_touching_21 (fun r_21 σ h_21 => ?_)
        obtain ⟨h_21, rfl⟩ := h_21
        refine zv_if_eq (tgt := 30) G dX6_touching_24 (by decide) (fun c_24 => ?_) (fun c_24 => ?_)
        · have f_21 := fun q9 => (h_21.2.mpr q9) c_24
          obtain ⟨x_30, e_30⟩ : ∃ y : Int32, y = y5_6 + 1 := ⟨_, rfl⟩
          refine zv_iinc (j := 5) (v := x_30) (lv' := [(5, za_I x_30), (0, za_O 2 w), (1, za_I k), (2, za_I fd), (3, za_I td), (4, za_I y4_6)]) G dX6_touching_30 rfl (by rw [e_30]; rfl) (by decide) rfl ?_
          first | have q_30 := z_inc9 (by omega) e_30 | skip
          refine zv_goto (tgt := 6) G dX6_touching_33 (by decide) ?_
          refine zv_sub [1, 2, 3, 4, 5, 0] (lv' := [(0, za_O 2 w), (1, za_I k), (2, za_I fd), (3, za_I td), (4, za_I y4_6), (5, za_I x_30)]) rfl ?_
          exact ih_6 y4_6 x_30 (by omega) (by rw [show x_30.toInt.toNat = y5_6.toInt.toNat + 1 by omega]; first | exact wzal_n a_6 f_21 | exact wzal_y t_21 (by omega)) (by have := z_inc c_12 e_30; omega) (z_meas c_12 e_30 hn_6)
        · have t_21 := h_21.2.mp c_24
          obtain ⟨x_27, e_27⟩ : ∃ y : Int32, y = y4_6 + 1 := ⟨_, rfl⟩
          refine zv_iinc (j := 4) (v := x_27) (lv' := [(4, za_I x_27), (0, za_O 2 w), (1, za_I k), (2, za_I fd), (3, za_I td), (5, za_I y5_6)]) G dX6_touching_27 rfl (by rw [e_27]; rfl) (by decide) rfl ?_
          first | have q_27 := z_inc9 (by omega) e_27 | skip
          obtain ⟨x_30, e_30⟩ : ∃ y : Int32, y = y5_6 + 1 := ⟨_, rfl⟩
          refine zv_iinc (j := 5) (v := x_30) (lv' := [(5, za_I x_30), (4, za_I x_27), (0, za_O 2 w), (1, za_I k), (2, za_I fd), (3, za_I td)]) G dX6_touching_30 rfl (by rw [e_30]; rfl) (by decide) rfl ?_
          first | have q_30 := z_inc9 (by omega) e_30 | skip
          refine zv_goto (tgt := 6) G dX6_touching_33 (by decide) ?_
          refine zv_sub [2, 3, 4, 5, 1, 0] (lv' := [(0, za_O 2 w), (1, za_I k), (2, za_I fd), (3, za_I td), (4, za_I x_27), (5, za_I x_30)]) rfl ?_
          exact ih_6 x_27 x_30 (by omega) (by rw [show x_30.toInt.toNat = y5_6.toInt.toNat + 1 by omega]; first | exact wzal_n a_6 f_21 | exact wzal_y t_21 (by omega)) (by have := z_inc c_12 e_30; omega) (z_meas c_12 e_30 hn_6)
  refine zv_istore (lv' := [(5, za_I 0), (4, za_I 0), (0, za_O 2 w), (1, za_I k), (2, za_I fd), (3, za_I td)]) G dX6_touching_4 (by decide) rfl ?_
  refine zv_sub [2, 3, 4, 5, 1, 0] (lv' := [(0, za_O 2 w), (1, za_I k), (2, za_I fd), (3, za_I td), (4, za_I 0), (5, za_I 0)]) rfl ?_
  exact J_6 _ (0 : Int32) (0 : Int32) (by have h0 : (0 : Int32).toInt = 0 := (by decide); omega) (wzal_0 _) (by decide) (Nat.lt_succ_self _)
set_option maxHeartbeats 4000000 in
set_option maxRecDepth 100000 in
theorem zc_X6_daysWithin_atx (l : Launch) (E : za_E) (w : Nat) (k : Int32) (fd : Int32) (td : Int32) (L : List wzR) (σ : za_S) (hT : wzTb σ w L) (hO : wzOk L) (hp : (0 ≤ fd.toInt ∧ fd.toInt ≤ 100) ∧ 0 ≤ td.toInt ∧ td.toInt ≤ 100) : zMi l E yX6_daysWithin cX6_daysWithin 6 (Option.some Jvm.ClassFile.FieldType.int) 4 87 [za_O 2 w, za_I k, za_I fd, za_I td] σ (fun r σ' => (r.toInt = wzsm (wzdw L k.toInt fd.toInt td.toInt) L.length) ∧ σ' = σ) := by
  refine zMi_of [(0, za_O 2 w), (1, za_I k), (2, za_I fd), (3, za_I td)] (by decide) rfl rfl (Nat.le_of_ble_eq_true rfl) ?_
  intro ho p e s m args below meth c G hr
  have h_w : za_kd w = 2 := za_okO (by decide) (List.forall_mem_cons.mp ho).1
  have hL9 := hT.1
  have hB9 := hT.2.1
  refine zv_iconst (v := 0) G dX6_daysWithin_0 (by decide) ?_
  refine zv_istore (lv' := [(4, za_I 0), (0, za_O 2 w), (1, za_I k), (2, za_I fd), (3, za_I td)]) G dX6_daysWithin_1 (by decide) rfl ?_
  refine zv_iconst (v := 0) G dX6_daysWithin_3 (by decide) ?_
  have J_6 : ∀ (n : Nat) (y4_6 : Int32) (y5_6 : Int32) (g_6 : 0 ≤ y4_6.toInt ∧ y4_6.toInt ≤ 100 * y5_6.toInt ∧ y5_6.toInt ≤ L.length) (a_6 : y4_6.toInt = wzsm (wzdw L k.toInt fd.toInt td.toInt) y5_6.toInt.toNat) (i5_6 : 0 ≤ y5_6.toInt) (hn_6 : (2147483648 - y5_6.toInt).toNat < n), zV p l e (zRm 4 87) s m args below meth c E (za_A E) 6 0 0 (MQ below (va_Qi (fun r σ' => (r.toInt = wzsm (wzdw L k.toInt fd.toInt td.toInt) L.length) ∧ σ' = σ) (zB E) (za_A E)) args s 0 0 (za_A E)) 6 [(0, za_O 2 w), (1, za_I k), (2, za_I fd), (3, za_I td), (4, za_I y4_6), (5, za_I y5_6)] [] σ := by
    intro n
    induction n with
    | zero => intro y4_6 y5_6 g_6 a_6 i5_6 hn; exact absurd hn (Nat.not_lt_zero _)
    | succ n ih_6 =>
      intro y4_6 y5_6 g_6 a_6 i5_6 hn_6
      refine zv_iload (j := 5) G dX6_daysWithin_6 rfl ?_
      refine zv_aload_n (j := 0) G dX6_daysWithin_8 rfl rfl ?_
      refine zg_X6_15 G dX6_daysWithin_9 ?_
      refine zv_icmp_ge (tgt := 45) G dX6_daysWithin_12 (by decide) (fun c_12 => ?_) (fun c_12 => ?_)
      · have k_12 := z_cle c_12 (a := (σ.1 w 1).toInt) (b := y5_6.toInt) rfl rfl
        refine zv_iload (j := 4) G dX6_daysWithin_45 rfl ?_
        exact zv_iret G hr dX6_daysWithin_47 ⟨(by rw [a_6]; congr 1; omega), rfl⟩
      · have k_12 := z_cnle c_12 (a := (σ.1 w 1).toInt) (b := y5_6.toInt) rfl rfl
        refine zv_aload_n (j := 0) G dX6_daysWithin_15 rfl rfl ?_
        refine zv_iload (j := 5) G dX6_daysWithin_16 rfl ?_
        refine zv_iconst (v := 0) G dX6_daysWithin_18 (by decide) ?_
        refine zv_callVi (as := [za_I y5_6, za_I 0]) G (by decide) rfl rfl (zc_X6_cell_at0 l E w y5_6 L σ (by first | assumption | decide | omega) (by first | assumption | decide | omega)) zk_X6_cell zm_465 rfl ⟨(Nat.le_of_ble_eq_true rfl), (Nat.le_of_ble_eq_true rfl)⟩ ⟨Nat.zero_le _, Nat.zero_le _⟩ (Nat.le_of_ble_eq_true rfl) dX6_daysWithin_19 (fun r_19 σ h_19 => ?_)
        obtain ⟨h_19, rfl⟩ := h_19
        refine zv_iload_n (j := 1) G dX6_daysWithin_22 rfl rfl ?_
        refine zv_icmp_ne (tgt := 39) G dX6_daysWithin_23 (by decide) (fun c_23 => ?_) (fun c_23 => ?_)
        · have k_23 := z_cne c_23 (a := r_19.toInt) (b := k.toInt) rfl rfl
          obtain ⟨x_39, e_39⟩ : ∃ y : Int32, y = y5_6 + 1 := ⟨_, rfl⟩
          refine zv_iinc (j := 5) (v := x_39) (lv' := [(5, za_I x_39), (0, za_O 2 w), (1, za_I k), (2, za_I fd), (3, za_I td), (4, za_I y4_6)]) G dX6_daysWithin_39 rfl (by rw [e_39]; rfl) (by decide) rfl ?_
          first | have q_39 := z_inc9 (by omega) e_39 | skip
          refine zv_goto (tgt := 6) G dX6_daysWithin_42 (by decide) ?_
          refine zv_sub [1, 2, 3, 4, 5, 0] (lv' := [(0, za_O 2 w), (1, za_I k), (2, za_I fd), (3, za_I td), (4, za_I y4_6), (5, za_I x_39)]) rfl ?_
          exact ih_6 y4_6 x_39 (by omega) (by rw [show x_39.toInt.toNat = y5_6.toInt.toNat + 1 by omega]; first | exact wzsm_s a_6 (v := r_33.toInt) q_37 ((wzdw_1 (by omega)).trans h_33.symm) | exact wzsm_s a_6 (v := 0) (by omega) (wzdw_0 (by omega))) (by have := z_inc c_12 e_39; omega) (z_meas c_12 e_39 hn_6)
        · have k_23 := z_ceq c_23 (a := r_19.toInt) (b := k.toInt) rfl rfl
          refine zv_iload (j := 4) G dX6_daysWithin_26 rfl ?_
          refine zv_aload_n (j := 0) G dX6_daysWithin_28 rfl rfl ?_
          refine zv_iload (j := 5) G dX6_daysWithin_29 rfl ?_
          refine zv_iload_n (j := 2) G dX6_daysWithin_31 rfl rfl ?_
          refine zv_iload_n (j := 3) G dX6_daysWithin_32 rfl rfl ?_
          refine zv_callVi (as := [za_I y5_6, za_I fd, za_I td]) G (by decide) rfl rfl (zc_X6_daysOfRowWithin_atx l E w y5_6 fd td L σ (by first | assumption | decide | omega) (by first | assumption | decide | omega) (by first | assumption | decide | omega) (by first | assumption | decide | omega)) zk_X6_daysOfRowWithin zm_469 rfl ⟨(Nat.le_of_ble_eq_true rfl), (Nat.le_of_ble_eq_true rfl)⟩ ⟨Nat.zero_le _, Nat.zero_le _⟩ (Nat.le_of_ble_eq_true rfl) dX6_daysWithin_33 (fun r_33 σ h_33 => ?_)
          obtain ⟨h_33, rfl⟩ := h_33
          have v_33 := wzov_b (wzg_ok hO y5_6.toInt.toNat) hp
          refine zv_iadd G dX6_daysWithin_36 ?_
          refine zv_top (fun x_37 e_37 => ?_)
          first | have q_37 := z_addf e_37 (a := y4_6.toInt) (b := r_33.toInt) rfl rfl (by omega) (by omega) | skip
          refine zv_istore (lv' := [(4, za_I x_37), (0, za_O 2 w), (1, za_I k), (2, za_I fd), (3, za_I td), (5, za_I y5_6)]) G dX6_daysWithin_37 (by decide) rfl ?_
          obtain ⟨x_39, e_39⟩ : ∃ y : Int32, y = y5_6 + 1 := ⟨_, rfl⟩
          refine zv_iinc (j := 5) (v := x_39) (lv' := [(5, za_I x_39), (4, za_I x_37), (0, za_O 2 w), (1, za_I k), (2, za_I fd), (3, za_I td)]) G dX6_daysWithin_39 rfl (by rw [e_39]; rfl) (by decide) rfl ?_
          first | have q_39 := z_inc9 (by omega) e_39 | skip
          refine zv_goto (tgt := 6) G dX6_daysWithin_42 (by decide) ?_
          refine zv_sub [2, 3, 4, 5, 1, 0] (lv' := [(0, za_O 2 w), (1, za_I k), (2, za_I fd), (3, za_I td), (4, za_I x_37), (5, za_I x_39)]) rfl ?_
          exact ih_6 x_37 x_39 (by omega) (by rw [show x_39.toInt.toNat = y5_6.toInt.toNat + 1 by omega]; first | exact wzsm_s a_6 (v := r_33.toInt) q_37 ((wzdw_1 (by omega)).trans h_33.symm) | exact wzsm_s a_6 (v := 0) (by omega) (wzdw_0 (by omega))) (by have := z_inc c_12 e_39; omega) (z_meas c_12 e_39 hn_6)
  refine zv_istore (lv' := [(5, za_I 0), (4, za_I 0), (0, za_O 2 w), (1, za_I k), (2, za_I fd), (3, za_I td)]) G dX6_daysWithin_4 (by decide) rfl ?_
  refine zv_sub [2, 3, 4, 5, 1, 0] (lv' := [(0, za_O 2 w), (1, za_I k), (2, za_I fd), (3, za_I td), (4, za_I 0), (5, za_I 0)]) rfl ?_
  exact J_6 _ (0 : Int32) (0 : Int32) (by have h0 : (0 : Int32).toInt = 0 := (by decide); omega) rfl (by decide) (Nat.lt_succ_self _)
set_option maxHeartbeats 4000000 in
set_option maxRecDepth 100000 in
theorem zc_X6_numberFor_atx (l : Launch) (E : za_E) (w : Nat) (k : Int32) (fd : Int32) (L : List wzR) (σ : za_S) (hT : wzTb σ w L) : zMi l E yX6_numberFor cX6_numberFor 5 (Option.some Jvm.ClassFile.FieldType.int) 3 64 [za_O 2 w, za_I k, za_I fd] σ (fun r σ' => (r.toInt = wzsm (wznf L k.toInt fd.toInt) L.length ∧ 0 ≤ r.toInt ∧ r.toInt ≤ L.length) ∧ σ' = σ) := by
  refine zMi_of [(0, za_O 2 w), (1, za_I k), (2, za_I fd)] (by decide) rfl rfl (Nat.le_of_ble_eq_true rfl) ?_
  intro ho p e s m args below meth c G hr
  have h_w : za_kd w = 2 := za_okO (by decide) (List.forall_mem_cons.mp ho).1
  have hL9 := hT.1
  have hB9 := hT.2.1
  refine zv_iconst (v := 0) G dX6_numberFor_0 (by decide) ?_
  refine zv_istore_n (lv' := [(3, za_I 0), (0, za_O 2 w), (1, za_I k), (2, za_I fd)]) G dX6_numberFor_1 rfl (by decide) rfl ?_
  refine zv_iconst (v := 0) G dX6_numberFor_2 (by decide) ?_
  have J_5 : ∀ (n : Nat) (y3_5 : Int32) (y4_5 : Int32) (g_5 : 0 ≤ y3_5.toInt ∧ y3_5.toInt ≤ y4_5.toInt ∧ y4_5.toInt ≤ L.length) (a_5 : y3_5.toInt = wzsm (wznf L k.toInt fd.toInt) y4_5.toInt.toNat) (i4_5 : 0 ≤ y4_5.toInt) (hn_5 : (2147483648 - y4_5.toInt).toNat < n), zV p l e (zRm 3 64) s m args below meth c E (za_A E) 5 0 0 (MQ below (va_Qi (fun r σ' => (r.toInt = wzsm (wznf L k.toInt fd.toInt) L.length ∧ 0 ≤ r.toInt ∧ r.toInt ≤ L.length) ∧ σ' = σ) (zB E) (za_A E)) args s 0 0 (za_A E)) 5 [(0, za_O 2 w), (1, za_I k), (2, za_I fd), (3, za_I y3_5), (4, za_I y4_5)] [] σ := by
    intro n
    induction n with
    | zero => intro y3_5 y4_5 g_5 a_5 i4_5 hn; exact absurd hn (Nat.not_lt_zero _)
    | succ n ih_5 =>
      intro y3_5 y4_5 g_5 a_5 i4_5 hn_5
      refine zv_iload (j := 4) G dX6_numberFor_5 rfl ?_
      refine zv_aload_n (j := 0) G dX6_numberFor_7 rfl rfl ?_
      refine zg_X6_15 G dX6_numberFor_8 ?_
      refine zv_icmp_ge (tgt := 56) G dX6_numberFor_11 (by decide) (fun c_11 => ?_) (fun c_11 => ?_)
      · have k_11 := z_cle c_11 (a := (σ.1 w 1).toInt) (b := y4_5.toInt) rfl rfl
        refine zv_iload_n (j := 3) G dX6_numberFor_56 rfl rfl ?_
        exact zv_iret G hr dX6_numberFor_57 ⟨⟨by rw [a_5]; congr 1; omega, by omega, by omega⟩, rfl⟩
      · have k_11 := z_cnle c_11 (a := (σ.1 w 1).toInt) (b := y4_5.toInt) rfl rfl
        refine zv_aload_n (j := 0) G dX6_numberFor_14 rfl rfl ?_
        refine zv_iload (j := 4) G dX6_numberFor_15 rfl ?_
        refine zv_iconst (v := 0) G dX6_numberFor_17 (by decide) ?_
        refine zv_callVi (as := [za_I y4_5, za_I 0]) G (by decide) rfl rfl (zc_X6_cell_at0 l E w y4_5 L σ (by first | assumption | decide | omega) (by first | assumption | decide | omega)) zk_X6_cell zm_465 rfl ⟨(Nat.le_of_ble_eq_true rfl), (Nat.le_of_ble_eq_true rfl)⟩ ⟨Nat.zero_le _, Nat.zero_le _⟩ (Nat.le_of_ble_eq_true rfl) dX6_numberFor_18 (fun r_18 σ h_18 => ?_)
        obtain ⟨h_18, rfl⟩ := h_18
        refine zv_iload_n (j := 1) G dX6_numberFor_21 rfl rfl ?_
        refine zv_icmp_lt (tgt := 47) G dX6_numberFor_22 (by decide) (fun c_22 => ?_) (fun c_22 => ?_)
        · have k_22 := z_clt c_22 (a := r_18.toInt) (b := k.toInt) rfl rfl
          obtain ⟨x_47, e_47⟩ : ∃ y : Int32, y = y3_5 + 1 := ⟨_, rfl⟩
          refine zv_iinc (j := 3) (v := x_47) (lv' := [(3, za_I x_47), (0, za_O 2 w), (1, za_I k), (2, za_I fd), (4, za_I y4_5)]) G dX6_numberFor_47 rfl (by rw [e_47]; rfl) (by decide) rfl ?_
          first | have q_47 := z_inc9 (by omega) e_47 | skip
          obtain ⟨x_50, e_50⟩ : ∃ y : Int32, y = y4_5 + 1 := ⟨_, rfl⟩
          refine zv_iinc (j := 4) (v := x_50) (lv' := [(4, za_I x_50), (3, za_I x_47), (0, za_O 2 w), (1, za_I k), (2, za_I fd)]) G dX6_numberFor_50 rfl (by rw [e_50]; rfl) (by decide) rfl ?_
          first | have q_50 := z_inc9 (by omega) e_50 | skip
          refine zv_goto (tgt := 5) G dX6_numberFor_53 (by decide) ?_
          refine zv_sub [2, 3, 4, 1, 0] (lv' := [(0, za_O 2 w), (1, za_I k), (2, za_I fd), (3, za_I x_47), (4, za_I x_50)]) rfl ?_
          exact ih_5 x_47 x_50 (by omega) (by rw [show x_50.toInt.toNat = y4_5.toInt.toNat + 1 by omega]; first | exact wzsm_s a_5 (v := 1) q_47 (wznf_1 (by omega)) | exact wzsm_s a_5 (v := 0) (by omega) (wznf_0 (by omega))) (by have := z_inc c_11 e_50; omega) (z_meas c_11 e_50 hn_5)
        · have k_22 := z_cnlt c_22 (a := r_18.toInt) (b := k.toInt) rfl rfl
          refine zv_aload_n (j := 0) G dX6_numberFor_25 rfl rfl ?_
          refine zv_iload (j := 4) G dX6_numberFor_26 rfl ?_
          refine zv_iconst (v := 0) G dX6_numberFor_28 (by decide) ?_
          refine zv_callVi (as := [za_I y4_5, za_I 0]) G (by decide) rfl rfl (zc_X6_cell_at0 l E w y4_5 L σ (by first | assumption | decide | omega) (by first | assumption | decide | omega)) zk_X6_cell zm_465 rfl ⟨(Nat.le_of_ble_eq_true rfl), (Nat.le_of_ble_eq_true rfl)⟩ ⟨Nat.zero_le _, Nat.zero_le _⟩ (Nat.le_of_ble_eq_true rfl) dX6_numberFor_29 (fun r_29 σ h_29 => ?_)
          obtain ⟨h_29, rfl⟩ := h_29
          refine zv_iload_n (j := 1) G dX6_numberFor_32 rfl rfl ?_
          refine zv_icmp_ne (tgt := 50) G dX6_numberFor_33 (by decide) (fun c_33 => ?_) (fun c_33 => ?_)
          · have k_33 := z_cne c_33 (a := r_29.toInt) (b := k.toInt) rfl rfl
            obtain ⟨x_50, e_50⟩ : ∃ y : Int32, y = y4_5 + 1 := ⟨_, rfl⟩
            refine zv_iinc (j := 4) (v := x_50) (lv' := [(4, za_I x_50), (0, za_O 2 w), (1, za_I k), (2, za_I fd), (3, za_I y3_5)]) G dX6_numberFor_50 rfl (by rw [e_50]; rfl) (by decide) rfl ?_
            first | have q_50 := z_inc9 (by omega) e_50 | skip
            refine zv_goto (tgt := 5) G dX6_numberFor_53 (by decide) ?_
            refine zv_sub [1, 2, 3, 4, 0] (lv' := [(0, za_O 2 w), (1, za_I k), (2, za_I fd), (3, za_I y3_5), (4, za_I x_50)]) rfl ?_
            exact ih_5 y3_5 x_50 (by omega) (by rw [show x_50.toInt.toNat = y4_5.toInt.toNat + 1 by omega]; first | exact wzsm_s a_5 (v := 1) q_47 (wznf_1 (by omega)) | exact wzsm_s a_5 (v := 0) (by omega) (wznf_0 (by omega))) (by have := z_inc c_11 e_50; omega) (z_meas c_11 e_50 hn_5)
          · have k_33 := z_ceq c_33 (a := r_29.toInt) (b := k.toInt) rfl rfl
            refine zv_aload_n (j := 0) G dX6_numberFor_36 rfl rfl ?_
            refine zv_iload (j := 4) G dX6_numberFor_37 rfl ?_
            refine zv_iconst (v := 2) G dX6_numberFor_39 (by decide) ?_
            refine zv_callVi (as := [za_I y4_5, za_I 2]) G (by decide) rfl rfl (zc_X6_cell_at2 l E w y4_5 L σ (by first | assumption | decide | omega) (by first | assumption | decide | omega)) zk_X6_cell zm_465 rfl ⟨(Nat.le_of_ble_eq_true rfl), (Nat.le_of_ble_eq_true rfl)⟩ ⟨Nat.zero_le _, Nat.zero_le _⟩ (Nat.le_of_ble_eq_true rfl) dX6_numberFor_40 (fun r_40 σ h_40 => ?_)
            obtain ⟨h_40, rfl⟩ := h_40
            refine zv_iload_n (j := 2) G dX6_numberFor_43 rfl rfl ?_
            refine zv_icmp_ge (tgt := 50) G dX6_numberFor_44 (by decide) (fun c_44 => ?_) (fun c_44 => ?_)
            · have k_44 := z_cle c_44 (a := fd.toInt) (b := r_40.toInt) rfl rfl
              obtain ⟨x_50, e_50⟩ : ∃ y : Int32, y = y4_5 + 1 := ⟨_, rfl⟩
              refine zv_iinc (j := 4) (v := x_50) (lv' := [(4, za_I x_50), (0, za_O 2 w), (1, za_I k), (2, za_I fd), (3, za_I y3_5)]) G dX6_numberFor_50 rfl (by rw [e_50]; rfl) (by decide) rfl ?_
              first | have q_50 := z_inc9 (by omega) e_50 | skip
              refine zv_goto (tgt := 5) G dX6_numberFor_53 (by decide) ?_
              refine zv_sub [1, 2, 3, 4, 0] (lv' := [(0, za_O 2 w), (1, za_I k), (2, za_I fd), (3, za_I y3_5), (4, za_I x_50)]) rfl ?_
              exact ih_5 y3_5 x_50 (by omega) (by rw [show x_50.toInt.toNat = y4_5.toInt.toNat + 1 by omega]; first | exact wzsm_s a_5 (v := 1) q_47 (wznf_1 (by omega)) | exact wzsm_s a_5 (v := 0) (by omega) (wznf_0 (by omega))) (by have := z_inc c_11 e_50; omega) (z_meas c_11 e_50 hn_5)
            · have k_44 := z_cnle c_44 (a := fd.toInt) (b := r_40.toInt) rfl rfl
              obtain ⟨x_47, e_47⟩ : ∃ y : Int32, y = y3_5 + 1 := ⟨_, rfl⟩
              refine zv_iinc (j := 3) (v := x_47) (lv' := [(3, za_I x_47), (0, za_O 2 w), (1, za_I k), (2, za_I fd), (4, za_I y4_5)]) G dX6_numberFor_47 rfl (by rw [e_47]; rfl) (by decide) rfl ?_
              first | have q_47 := z_inc9 (by omega) e_47 | skip
              obtain ⟨x_50, e_50⟩ : ∃ y : Int32, y = y4_5 + 1 := ⟨_, rfl⟩
              refine zv_iinc (j := 4) (v := x_50) (lv' := [(4, za_I x_50), (3, za_I x_47), (0, za_O 2 w), (1, za_I k), (2, za_I fd)]) G dX6_numberFor_50 rfl (by rw [e_50]; rfl) (by decide) rfl ?_
              first | have q_50 := z_inc9 (by omega) e_50 | skip
              refine zv_goto (tgt := 5) G dX6_numberFor_53 (by decide) ?_
              refine zv_sub [2, 3, 4, 1, 0] (lv' := [(0, za_O 2 w), (1, za_I k), (2, za_I fd), (3, za_I x_47), (4, za_I x_50)]) rfl ?_
              exact ih_5 x_47 x_50 (by omega) (by rw [show x_50.toInt.toNat = y4_5.toInt.toNat + 1 by omega]; first | exact wzsm_s a_5 (v := 1) q_47 (wznf_1 (by omega)) | exact wzsm_s a_5 (v := 0) (by omega) (wznf_0 (by omega))) (by have := z_inc c_11 e_50; omega) (z_meas c_11 e_50 hn_5)
  refine zv_istore (lv' := [(4, za_I 0), (3, za_I 0), (0, za_O 2 w), (1, za_I k), (2, za_I fd)]) G dX6_numberFor_3 (by decide) rfl ?_
  refine zv_sub [2, 3, 4, 1, 0] (lv' := [(0, za_O 2 w), (1, za_I k), (2, za_I fd), (3, za_I 0), (4, za_I 0)]) rfl ?_
  exact J_5 _ (0 : Int32) (0 : Int32) (by have h0 : (0 : Int32).toInt = 0 := (by decide); omega) rfl (by decide) (Nat.lt_succ_self _)
set_option maxHeartbeats 4000000 in
set_option maxRecDepth 100000 in
theorem zc_X6_followsOn_atx (l : Launch) (E : za_E) (w : Nat) (i : Int32) (L : List wzR) (σ : za_S) (hT : wzTb σ w L) (hi : 0 ≤ i.toInt) : zMi l E yX6_followsOn cX6_followsOn 2 (Option.some Jvm.ClassFile.FieldType.boolean) 3 64 [za_O 2 w, za_I i] σ (fun r σ' => ((r = 0 ∨ r = 1) ∧ (¬ r = 0 ↔ wzfo9 L i.toInt.toNat)) ∧ σ' = σ) := by
  refine zMi_of [(0, za_O 2 w), (1, za_I i)] (by decide) rfl rfl (Nat.le_of_ble_eq_true rfl) ?_
  intro ho p e s m args below meth c G hr
  have h_w : za_kd w = 2 := za_okO (by decide) (List.forall_mem_cons.mp ho).1
  refine zv_iload_n (j := 1) G dX6_followsOn_0 rfl rfl ?_
  refine zv_if_le (tgt := 42) G dX6_followsOn_1 (by decide) (fun c_1 => ?_) (fun c_1 => ?_)
  · have k_1 := z_cle c_1 (a := i.toInt) (b := 0) rfl rfl
    refine zv_iconst (v := 0) G dX6_followsOn_42 (by decide) ?_
    exact zv_zret G hr dX6_followsOn_43 (by decide) ⟨⟨Or.inl rfl, fun h => absurd rfl h, fun h => False.elim (by have h9 := h.1; have h8 := h.2; omega)⟩, rfl⟩
  · have k_1 := z_cnle c_1 (a := i.toInt) (b := 0) rfl rfl
    have v_1 : 0 < i.toInt := by omega
    refine zv_aload_n (j := 0) G dX6_followsOn_4 rfl rfl ?_
    refine zv_iload_n (j := 1) G dX6_followsOn_5 rfl rfl ?_
    refine zv_iconst (v := 1) G dX6_followsOn_6 (by decide) ?_
    refine zv_isub G dX6_followsOn_7 ?_
    refine zv_iconst (v := 0) G dX6_followsOn_8 (by decide) ?_
    refine zv_callVi (as := [za_I (i - 1), za_I 0]) G (by decide) rfl rfl (zc_X6_cell_at0 l E w (i - 1) L σ hT (by rw [(wz_pn v_1).1]; omega)) zk_X6_cell zm_465 rfl ⟨(Nat.le_of_ble_eq_true rfl), (Nat.le_of_ble_eq_true rfl)⟩ ⟨Nat.zero_le _, Nat.zero_le _⟩ (Nat.le_of_ble_eq_true rfl) dX6_followsOn_9 (fun r_9 σ h_9 => ?_)
    obtain ⟨h_9, rfl⟩ := h_9
    rw [(wz_pn v_1).2] at h_9
    refine zv_aload_n (j := 0) G dX6_followsOn_12 rfl rfl ?_
    refine zv_iload_n (j := 1) G dX6_followsOn_13 rfl rfl ?_
    refine zv_iconst (v := 0) G dX6_followsOn_14 (by decide) ?_
    refine zv_callVi (as := [za_I i, za_I 0]) G (by decide) rfl rfl (zc_X6_cell_at0 l E w i L σ (by first | assumption | decide | omega) (by first | assumption | decide | omega)) zk_X6_cell zm_465 rfl ⟨(Nat.le_of_ble_eq_true rfl), (Nat.le_of_ble_eq_true rfl)⟩ ⟨Nat.zero_le _, Nat.zero_le _⟩ (Nat.le_of_ble_eq_true rfl) dX6_followsOn_15 (fun r_15 σ h_15 => ?_)
    obtain ⟨h_15, rfl⟩ := h_15
    refine zv_icmp_ne (tgt := 42) G dX6_followsOn_18 (by decide) (fun c_18 => ?_) (fun c_18 => ?_)
    · have k_18 := z_cne c_18 (a := r_9.toInt) (b := r_15.toInt) rfl rfl
      refine zv_iconst (v := 0) G dX6_followsOn_42 (by decide) ?_
      exact zv_zret G hr dX6_followsOn_43 (by decide) ⟨⟨Or.inl rfl, fun h => absurd rfl h, fun h => False.elim (by have h9 := h.1; have h8 := h.2; omega)⟩, rfl⟩
    · have k_18 := z_ceq c_18 (a := r_9.toInt) (b := r_15.toInt) rfl rfl
      refine zv_aload_n (j := 0) G dX6_followsOn_21 rfl rfl ?_
      refine zv_iload_n (j := 1) G dX6_followsOn_22 rfl rfl ?_
      refine zv_iconst (v := 1) G dX6_followsOn_23 (by decide) ?_
      refine zv_isub G dX6_followsOn_24 ?_
      refine zv_iconst (v := 3) G dX6_followsOn_25 (by decide) ?_
      refine zv_callVi (as := [za_I (i - 1), za_I 3]) G (by decide) rfl rfl (zc_X6_cell_at3 l E w (i - 1) L σ hT (by rw [(wz_pn v_1).1]; omega)) zk_X6_cell zm_465 rfl ⟨(Nat.le_of_ble_eq_true rfl), (Nat.le_of_ble_eq_true rfl)⟩ ⟨Nat.zero_le _, Nat.zero_le _⟩ (Nat.le_of_ble_eq_true rfl) dX6_followsOn_26 (fun r_26 σ h_26 => ?_)
      obtain ⟨h_26, rfl⟩ := h_26
      rw [(wz_pn v_1).2] at h_26
      refine zv_aload_n (j := 0) G dX6_followsOn_29 rfl rfl ?_
      refine zv_iload_n (j := 1) G dX6_followsOn_30 rfl rfl ?_
      refine zv_iconst (v := 2) G dX6_followsOn_31 (by decide) ?_
      refine zv_callVi (as := [za_I i, za_I 2]) G (by decide) rfl rfl (zc_X6_cell_at2 l E w i L σ (by first | assumption | decide | omega) (by first | assumption | decide | omega)) zk_X6_cell zm_465 rfl ⟨(Nat.le_of_ble_eq_true rfl), (Nat.le_of_ble_eq_true rfl)⟩ ⟨Nat.zero_le _, Nat.zero_le _⟩ (Nat.le_of_ble_eq_true rfl) dX6_followsOn_32 (fun r_32 σ h_32 => ?_)
      obtain ⟨h_32, rfl⟩ := h_32
      refine zv_icmp_ne (tgt := 42) G dX6_followsOn_35 (by decide) (fun c_35 => ?_) (fun c_35 => ?_)
      · have k_35 := z_cne c_35 (a := r_26.toInt) (b := r_32.toInt) rfl rfl
        refine zv_iconst (v := 0) G dX6_followsOn_42 (by decide) ?_
        exact zv_zret G hr dX6_followsOn_43 (by decide) ⟨⟨Or.inl rfl, fun h => absurd rfl h, fun h => False.elim (by have h9 := h.1; have h8 := h.2; omega)⟩, rfl⟩
      · have k_35 := z_ceq c_35 (a := r_26.toInt) (b := r_32.toInt) rfl rfl
        refine zv_iconst (v := 1) G dX6_followsOn_38 (by decide) ?_
        refine zv_goto (tgt := 43) G dX6_followsOn_39 (by decide) ?_
        exact zv_zret G hr dX6_followsOn_43 (by decide) ⟨⟨Or.inr rfl, fun _ => ⟨by omega, by omega, by omega⟩, fun _ => by decide⟩, rfl⟩
set_option maxHeartbeats 4000000 in
set_option maxRecDepth 100000 in
theorem zc_X6_isAlikeBefore_atx (l : Launch) (E : za_E) (w : Nat) (i : Int32) (L : List wzR) (σ : za_S) (hT : wzTb σ w L) (hi : 0 ≤ i.toInt) : zMi l E yX6_isAlikeBefore cX6_isAlikeBefore 2 (Option.some Jvm.ClassFile.FieldType.boolean) 4 85 [za_O 2 w, za_I i] σ (fun r σ' => ((r = 0 ∨ r = 1) ∧ (¬ r = 0 ↔ wzak L i.toInt.toNat)) ∧ σ' = σ) := by
  refine zMi_of [(0, za_O 2 w), (1, za_I i)] (by decide) rfl rfl (Nat.le_of_ble_eq_true rfl) ?_
  intro ho p e s m args below meth c G hr
  have h_w : za_kd w = 2 := za_okO (by decide) (List.forall_mem_cons.mp ho).1
  refine zv_aload_n (j := 0) G dX6_isAlikeBefore_0 rfl rfl ?_
  refine zv_iload_n (j := 1) G dX6_isAlikeBefore_1 rfl rfl ?_
  refine zv_callVi (as := [za_I i]) G (by decide) rfl rfl (zc_X6_followsOn_atx l E w i L σ (by first | assumption | decide | omega) (by first | assumption | decide | omega)) zk_X6_followsOn zm_642 rfl ⟨(Nat.le_of_ble_eq_true rfl), (Nat.le_of_ble_eq_true rfl)⟩ ⟨Nat.zero_le _, Nat.zero_le _⟩ (Nat.le_of_ble_eq_true rfl) dX6_isAlikeBefore_2 (fun r_2 σ h_2 => ?_)
  obtain ⟨h_2, rfl⟩ := h_2
  refine zv_if_eq (tgt := 46) G dX6_isAlikeBefore_5 (by decide) (fun c_5 => ?_) (fun c_5 => ?_)
  · have f_2 := fun q9 => (h_2.2.mpr q9) c_5
    refine zv_iconst (v := 0) G dX6_isAlikeBefore_46 (by decide) ?_
    exact zv_zret G hr dX6_isAlikeBefore_47 (by decide) ⟨⟨Or.inl rfl, fun h => absurd rfl h, fun h => False.elim (by first | exact f_2 h.1 | (have h9 := h.2; omega))⟩, rfl⟩
  · have t_2 := h_2.2.mp c_5
    have v_1 : 0 < i.toInt := by have h9 := (h_2.2.mp c_5).1; omega
    refine zv_aload_n (j := 0) G dX6_isAlikeBefore_8 rfl rfl ?_
    refine zv_iload_n (j := 1) G dX6_isAlikeBefore_9 rfl rfl ?_
    refine zv_iconst (v := 1) G dX6_isAlikeBefore_10 (by decide) ?_
    refine zv_isub G dX6_isAlikeBefore_11 ?_
    refine zv_iconst (v := 1) G dX6_isAlikeBefore_12 (by decide) ?_
    refine zv_callVi (as := [za_I (i - 1), za_I 1]) G (by decide) rfl rfl (zc_X6_cell_at1 l E w (i - 1) L σ hT (by rw [(wz_pn v_1).1]; omega)) zk_X6_cell zm_465 rfl ⟨(Nat.le_of_ble_eq_true rfl), (Nat.le_of_ble_eq_true rfl)⟩ ⟨Nat.zero_le _, Nat.zero_le _⟩ (Nat.le_of_ble_eq_true rfl) dX6_isAlikeBefore_13 (fun r_13 σ h_13 => ?_)
    obtain ⟨h_13, rfl⟩ := h_13
    rw [(wz_pn v_1).2] at h_13
    refine zv_aload_n (j := 0) G dX6_isAlikeBefore_16 rfl rfl ?_
    refine zv_iload_n (j := 1) G dX6_isAlikeBefore_17 rfl rfl ?_
    refine zv_iconst (v := 1) G dX6_isAlikeBefore_18 (by decide) ?_
    refine zv_callVi (as := [za_I i, za_I 1]) G (by decide) rfl rfl (zc_X6_cell_at1 l E w i L σ (by first | assumption | decide | omega) (by first | assumption | decide | omega)) zk_X6_cell zm_465 rfl ⟨(Nat.le_of_ble_eq_true rfl), (Nat.le_of_ble_eq_true rfl)⟩ ⟨Nat.zero_le _, Nat.zero_le _⟩ (Nat.le_of_ble_eq_true rfl) dX6_isAlikeBefore_19 (fun r_19 σ h_19 => ?_)
    obtain ⟨h_19, rfl⟩ := h_19
    refine zv_icmp_ne (tgt := 46) G dX6_isAlikeBefore_22 (by decide) (fun c_22 => ?_) (fun c_22 => ?_)
    · have k_22 := z_cne c_22 (a := r_13.toInt) (b := r_19.toInt) rfl rfl
      refine zv_iconst (v := 0) G dX6_isAlikeBefore_46 (by decide) ?_
      exact zv_zret G hr dX6_isAlikeBefore_47 (by decide) ⟨⟨Or.inl rfl, fun h => absurd rfl h, fun h => False.elim (by first | exact f_2 h.1 | (have h9 := h.2; omega))⟩, rfl⟩
    · have k_22 := z_ceq c_22 (a := r_13.toInt) (b := r_19.toInt) rfl rfl
      refine zv_aload_n (j := 0) G dX6_isAlikeBefore_25 rfl rfl ?_
      refine zv_iload_n (j := 1) G dX6_isAlikeBefore_26 rfl rfl ?_
      refine zv_iconst (v := 1) G dX6_isAlikeBefore_27 (by decide) ?_
      refine zv_isub G dX6_isAlikeBefore_28 ?_
      refine zv_iconst (v := 4) G dX6_isAlikeBefore_29 (by decide) ?_
      refine zv_callVi (as := [za_I (i - 1), za_I 4]) G (by decide) rfl rfl (zc_X6_cell_at4 l E w (i - 1) L σ hT (by rw [(wz_pn v_1).1]; omega)) zk_X6_cell zm_465 rfl ⟨(Nat.le_of_ble_eq_true rfl), (Nat.le_of_ble_eq_true rfl)⟩ ⟨Nat.zero_le _, Nat.zero_le _⟩ (Nat.le_of_ble_eq_true rfl) dX6_isAlikeBefore_30 (fun r_30 σ h_30 => ?_)
      obtain ⟨h_30, rfl⟩ := h_30
      rw [(wz_pn v_1).2] at h_30
      refine zv_aload_n (j := 0) G dX6_isAlikeBefore_33 rfl rfl ?_
      refine zv_iload_n (j := 1) G dX6_isAlikeBefore_34 rfl rfl ?_
      refine zv_iconst (v := 4) G dX6_isAlikeBefore_35 (by decide) ?_
      refine zv_callVi (as := [za_I i, za_I 4]) G (by decide) rfl rfl (zc_X6_cell_at4 l E w i L σ (by first | assumption | decide | omega) (by first | assumption | decide | omega)) zk_X6_cell zm_465 rfl ⟨(Nat.le_of_ble_eq_true rfl), (Nat.le_of_ble_eq_true rfl)⟩ ⟨Nat.zero_le _, Nat.zero_le _⟩ (Nat.le_of_ble_eq_true rfl) dX6_isAlikeBefore_36 (fun r_36 σ h_36 => ?_)
      obtain ⟨h_36, rfl⟩ := h_36
      refine zv_icmp_ne (tgt := 46) G dX6_isAlikeBefore_39 (by decide) (fun c_39 => ?_) (fun c_39 => ?_)
      · have k_39 := z_cne c_39 (a := r_30.toInt) (b := r_36.toInt) rfl rfl
        refine zv_iconst (v := 0) G dX6_isAlikeBefore_46 (by decide) ?_
        exact zv_zret G hr dX6_isAlikeBefore_47 (by decide) ⟨⟨Or.inl rfl, fun h => absurd rfl h, fun h => False.elim (by first | exact f_2 h.1 | (have h9 := h.2; omega))⟩, rfl⟩
      · have k_39 := z_ceq c_39 (a := r_30.toInt) (b := r_36.toInt) rfl rfl
        refine zv_iconst (v := 1) G dX6_isAlikeBefore_42 (by decide) ?_
        refine zv_goto (tgt := 47) G dX6_isAlikeBefore_43 (by decide) ?_
        exact zv_zret G hr dX6_isAlikeBefore_47 (by decide) ⟨⟨Or.inr rfl, fun _ => ⟨t_2, by omega, by omega⟩, fun _ => by decide⟩, rfl⟩
set_option maxHeartbeats 4000000 in
set_option maxRecDepth 100000 in
theorem zc_X6_clear_atx (l : Launch) (E : za_E) (w : Nat) (σ0 : za_S)  : zMv l E yX6_clear cX6_clear 1 (Option.none : Option Jvm.ClassFile.FieldType) 1 21 [za_O 2 w] σ0 (fun σ' => σ' = za_si σ0 w 1 0) := by
  refine zMv_of [(0, za_O 2 w)] (by decide) rfl rfl (Nat.le_of_ble_eq_true rfl) ?_
  intro ho p e s m args below meth c G hr
  have h_w : za_kd w = 2 := za_okO (by decide) (List.forall_mem_cons.mp ho).1
  refine zv_aload_n (j := 0) G dX6_clear_0 rfl rfl ?_
  refine zv_iconst (v := 0) G dX6_clear_1 (by decide) ?_
  refine zp_X6_15 G dX6_clear_2 ?_
  exact zv_vret G hr dX6_clear_5 rfl
set_option maxHeartbeats 4000000 in
set_option maxRecDepth 100000 in
theorem zc_X6_append_atx (l : Launch) (E : za_E) (w : Nat) (k : Int32) (v : Int32) (fd : Int32) (td : Int32) (z : Int32) (T : List wzR) (σ0 : za_S) (hT : wzTb σ0 w T) (hl : T.length ≤ 90000) : zMv l E yX6_append cX6_append 7 (Option.none : Option Jvm.ClassFile.FieldType) 1 21 [za_O 2 w, za_I k, za_I v, za_I fd, za_I td, za_I z] σ0 (fun σ' => wzTb σ' w (T ++ [(k.toInt, v.toInt, fd.toInt, td.toInt, z.toInt)]) ∧ wzfw w σ0 σ') := by
  refine zMv_of [(0, za_O 2 w), (1, za_I k), (2, za_I v), (3, za_I fd), (4, za_I td), (5, za_I z)] (by decide) rfl rfl (Nat.le_of_ble_eq_true rfl) ?_
  intro ho p e s m args below meth c G hr
  have h_w : za_kd w = 2 := za_okO (by decide) (List.forall_mem_cons.mp ho).1
  refine zv_aload_n (j := 0) G dX6_append_0 rfl rfl ?_
  refine zg_X6_15 G dX6_append_1 ?_
  refine zv_iconst (v := 5) G dX6_append_4 (by decide) ?_
  refine zv_imul G dX6_append_5 ?_
  refine zv_top (fun x_6 e_6 => ?_)
  refine zv_istore (lv' := [(6, za_I x_6), (0, za_O 2 w), (1, za_I k), (2, za_I v), (3, za_I fd), (4, za_I td), (5, za_I z)]) G dX6_append_6 (by decide) rfl ?_
  refine zv_aload_n (j := 1) G dX6_append_8 rfl rfl ?_
  refine zg_X6_15 G dX6_append_9 ?_
  refine zv_if_lt (tgt := 76) G dX6_append_12 (by decide) (fun c_12 => ?_) (fun c_12 => ?_)
  · have k_12 := z_clt c_12 (a := (σ0.1 w 1).toInt) (b := 0) rfl rfl
    refine zv_aload_n (j := 1) G dX6_append_76 rfl rfl ?_
    refine zv_dupO G dX6_append_77 ?_
    refine zg_X6_15 G dX6_append_78 ?_
    refine zv_iconst (v := 1) G dX6_append_81 (by decide) ?_
    refine zv_iadd G dX6_append_82 ?_
    refine zp_X6_15 G dX6_append_83 ?_
    exact zv_vret G hr dX6_append_86 (by have hn9 := hT.1; first | exact wzap_A (x := x_6) hT hl e_6 q_2 rfl | exact wzap_B hT hl (by omega))
  · have k_12 := z_cnlt c_12 (a := (σ0.1 w 1).toInt) (b := 0) rfl rfl
    refine zv_aload_n (j := 1) G dX6_append_15 rfl rfl ?_
    refine zg_X6_15 G dX6_append_16 ?_
    refine zv_bipush (v := 24) G dX6_append_19 (by decide) ?_
    refine zv_icmp_ge (tgt := 76) G dX6_append_21 (by decide) (fun c_21 => ?_) (fun c_21 => ?_)
    · have k_21 := z_cle c_21 (a := 24) (b := (σ0.1 w 1).toInt) rfl rfl
      refine zv_aload_n (j := 1) G dX6_append_76 rfl rfl ?_
      refine zv_dupO G dX6_append_77 ?_
      refine zg_X6_15 G dX6_append_78 ?_
      refine zv_iconst (v := 1) G dX6_append_81 (by decide) ?_
      refine zv_iadd G dX6_append_82 ?_
      refine zp_X6_15 G dX6_append_83 ?_
      exact zv_vret G hr dX6_append_86 (by have hn9 := hT.1; first | exact wzap_A (x := x_6) hT hl e_6 q_2 rfl | exact wzap_B hT hl (by omega))
    · have k_21 := z_cnle c_21 (a := 24) (b := (σ0.1 w 1).toInt) rfl rfl
      have q_1 := z_ge0 c_12
      have q_2 := z_ltk c_21 (n := 24) rfl
      refine zv_aload_n (j := 1) G dX6_append_24 rfl rfl ?_
      refine zg_X6_11 G dX6_append_25 ?_
      refine zv_iload (j := 0) G dX6_append_28 rfl ?_
      refine zv_iconst (v := 0) G dX6_append_30 (by decide) ?_
      refine zv_iadd G dX6_append_31 ?_
      refine zv_iload_n (j := 2) G dX6_append_32 rfl rfl ?_
      refine zv_iast G (by decide) rfl (fun _ => rfl) (z_app (z_ge0 c_12) (z_ltk c_21 (n := 24) rfl) e_6 (d := 0) rfl (by decide)) dX6_append_33 ?_
      refine zv_aload_n (j := 1) G dX6_append_34 rfl rfl ?_
      refine zg_X6_11 G dX6_append_35 ?_
      refine zv_iload (j := 0) G dX6_append_38 rfl ?_
      refine zv_iconst (v := 1) G dX6_append_40 (by decide) ?_
      refine zv_iadd G dX6_append_41 ?_
      refine zv_iload_n (j := 3) G dX6_append_42 rfl rfl ?_
      refine zv_iast G (by decide) rfl (fun _ => rfl) (z_app q_1 q_2 e_6 (d := 1) rfl (by decide)) dX6_append_43 ?_
      refine zv_aload_n (j := 1) G dX6_append_44 rfl rfl ?_
      refine zg_X6_11 G dX6_append_45 ?_
      refine zv_iload (j := 0) G dX6_append_48 rfl ?_
      refine zv_iconst (v := 2) G dX6_append_50 (by decide) ?_
      refine zv_iadd G dX6_append_51 ?_
      refine zv_iload_n (j := 4) G dX6_append_52 rfl rfl ?_
      refine zv_iast G (by decide) rfl (fun _ => rfl) (z_app q_1 q_2 e_6 (d := 2) rfl (by decide)) dX6_append_53 ?_
      refine zv_aload_n (j := 1) G dX6_append_54 rfl rfl ?_
      refine zg_X6_11 G dX6_append_55 ?_
      refine zv_iload (j := 0) G dX6_append_58 rfl ?_
      refine zv_iconst (v := 3) G dX6_append_60 (by decide) ?_
      refine zv_iadd G dX6_append_61 ?_
      refine zv_iload (j := 5) G dX6_append_62 rfl ?_
      refine zv_iast G (by decide) rfl (fun _ => rfl) (z_app q_1 q_2 e_6 (d := 3) rfl (by decide)) dX6_append_64 ?_
      refine zv_aload_n (j := 1) G dX6_append_65 rfl rfl ?_
      refine zg_X6_11 G dX6_append_66 ?_
      refine zv_iload (j := 0) G dX6_append_69 rfl ?_
      refine zv_iconst (v := 4) G dX6_append_71 (by decide) ?_
      refine zv_iadd G dX6_append_72 ?_
      refine zv_iload (j := 6) G dX6_append_73 rfl ?_
      refine zv_iast G (by decide) rfl (fun _ => rfl) (z_app q_1 q_2 e_6 (d := 4) rfl (by decide)) dX6_append_75 ?_
      refine zv_aload_n (j := 1) G dX6_append_76 rfl rfl ?_
      refine zv_dupO G dX6_append_77 ?_
      refine zg_X6_15 G dX6_append_78 ?_
      refine zv_iconst (v := 1) G dX6_append_81 (by decide) ?_
      refine zv_iadd G dX6_append_82 ?_
      refine zp_X6_15 G dX6_append_83 ?_
      exact zv_vret G hr dX6_append_86 (by have hn9 := hT.1; first | exact wzap_A (x := x_6) hT hl e_6 q_2 rfl | exact wzap_B hT hl (by omega))
set_option maxHeartbeats 4000000 in
set_option maxRecDepth 100000 in
theorem zc_X6_appendPart_atx (l : Launch) (E : za_E) (w : Nat) (sw : Nat) (i : Int32) (fd : Int32) (td : Int32) (L : List wzR) (T : List wzR) (σ0 : za_S) (hS : wzTb σ0 sw L) (hi : 0 ≤ i.toInt) (hT : wzTb σ0 w T) (hl : T.length ≤ 90000) : zMv l E yX6_appendPart cX6_appendPart 7 (Option.none : Option Jvm.ClassFile.FieldType) 3 64 [za_O 2 w, za_O 2 sw, za_I i, za_I fd, za_I td] σ0 (fun σ' => wzTb σ' w (T ++ wzpt (wzg L i.toInt.toNat) fd.toInt td.toInt) ∧ wzfw w σ0 σ') := by
  refine zMv_of [(0, za_O 2 w), (1, za_O 2 sw), (2, za_I i), (3, za_I fd), (4, za_I td)] (by decide) rfl rfl (Nat.le_of_ble_eq_true rfl) ?_
  intro ho p e s m args below meth c G hr
  have h_w : za_kd w = 2 := za_okO (by decide) (List.forall_mem_cons.mp ho).1
  have h_sw : za_kd sw = 2 := za_okO (by decide) (List.forall_mem_cons.mp (List.forall_mem_cons.mp ho).2).1
  refine zv_iload_n (j := 3) G dX6_appendPart_0 rfl rfl ?_
  refine zv_aload_n (j := 1) G dX6_appendPart_1 rfl rfl ?_
  refine zv_iload_n (j := 2) G dX6_appendPart_2 rfl rfl ?_
  refine zv_iconst (v := 2) G dX6_appendPart_3 (by decide) ?_
  refine zv_callVi (as := [za_I i, za_I 2]) G (by decide) rfl rfl (zc_X6_cell_at2 l E sw i L σ0 (by first | assumption | decide | omega) (by first | assumption | decide | omega)) zk_X6_cell zm_465 rfl ⟨(Nat.le_of_ble_eq_true rfl), (Nat.le_of_ble_eq_true rfl)⟩ ⟨Nat.zero_le _, Nat.zero_le _⟩ (Nat.le_of_ble_eq_true rfl) dX6_appendPart_4 (fun r_4 σ h_4 => ?_)
  obtain ⟨h_4, e9⟩ := h_4
  rw [e9]
  clear e9 σ
  refine zv_mmax G zm_474 zm_395 zm_147 zm_396 (Nat.le_of_ble_eq_true rfl) (Nat.le_of_ble_eq_true rfl) (Nat.zero_le _) (Nat.zero_le _) dX6_appendPart_7 ?_
  refine zv_top (fun x_7 e_7 => ?_)
  refine zv_istore (lv' := [(5, za_I x_7), (0, za_O 2 w), (1, za_O 2 sw), (2, za_I i), (3, za_I fd), (4, za_I td)]) G dX6_appendPart_10 (by decide) rfl ?_
  refine zv_iload (j := 5) G dX6_appendPart_12 rfl ?_
  refine zv_aload_n (j := 2) G dX6_appendPart_14 rfl rfl ?_
  refine zv_iload_n (j := 3) G dX6_appendPart_15 rfl rfl ?_
  refine zv_iconst (v := 3) G dX6_appendPart_16 (by decide) ?_
  refine zv_callVi (as := [za_I i, za_I 3]) G (by decide) rfl rfl (zc_X6_cell_at3 l E sw i L σ0 (by first | assumption | decide | omega) (by first | assumption | decide | omega)) zk_X6_cell zm_465 rfl ⟨(Nat.le_of_ble_eq_true rfl), (Nat.le_of_ble_eq_true rfl)⟩ ⟨Nat.zero_le _, Nat.zero_le _⟩ (Nat.le_of_ble_eq_true rfl) dX6_appendPart_17 (fun r_17 σ h_17 => ?_)
  obtain ⟨h_17, e9⟩ := h_17
  rw [e9]
  clear e9 σ
  refine zv_mmin G zm_473 zm_392 zm_147 zm_393 (Nat.le_of_ble_eq_true rfl) (Nat.le_of_ble_eq_true rfl) (Nat.zero_le _) (Nat.zero_le _) dX6_appendPart_20 ?_
  refine zv_top (fun x_20 e_20 => ?_)
  refine zv_istore (lv' := [(6, za_I x_20), (5, za_I x_7), (0, za_O 2 w), (1, za_O 2 sw), (2, za_I i), (3, za_I fd), (4, za_I td)]) G dX6_appendPart_23 (by decide) rfl ?_
  refine zv_iload (j := 1) G dX6_appendPart_25 rfl ?_
  refine zv_iload (j := 0) G dX6_appendPart_27 rfl ?_
  refine zv_icmp_ge (tgt := 58) G dX6_appendPart_29 (by decide) (fun c_29 => ?_) (fun c_29 => ?_)
  · have k_29 := z_cle c_29 (a := x_20.toInt) (b := x_7.toInt) rfl rfl
    exact zv_vret G hr dX6_appendPart_58 (by first | exact wzpt_A h_4 h_17 h_36 h_42 h_52 e_7 e_20 k_29 h_55 | exact wzpt_B h_4 h_17 e_7 e_20 k_29 hT)
  · have k_29 := z_cnle c_29 (a := x_20.toInt) (b := x_7.toInt) rfl rfl
    refine zv_aload_n (j := 2) G dX6_appendPart_32 rfl rfl ?_
    refine zv_aload_n (j := 3) G dX6_appendPart_33 rfl rfl ?_
    refine zv_iload_n (j := 4) G dX6_appendPart_34 rfl rfl ?_
    refine zv_iconst (v := 0) G dX6_appendPart_35 (by decide) ?_
    refine zv_callVi (as := [za_I i, za_I 0]) G (by decide) rfl rfl (zc_X6_cell_at0 l E sw i L σ0 (by first | assumption | decide | omega) (by first | assumption | decide | omega)) zk_X6_cell zm_465 rfl ⟨(Nat.le_of_ble_eq_true rfl), (Nat.le_of_ble_eq_true rfl)⟩ ⟨Nat.zero_le _, Nat.zero_le _⟩ (Nat.le_of_ble_eq_true rfl) dX6_appendPart_36 (fun r_36 σ h_36 => ?_)
    obtain ⟨h_36, e9⟩ := h_36
    rw [e9]
    clear e9 σ
    refine zv_aload_n (j := 3) G dX6_appendPart_39 rfl rfl ?_
    refine zv_iload_n (j := 4) G dX6_appendPart_40 rfl rfl ?_
    refine zv_iconst (v := 1) G dX6_appendPart_41 (by decide) ?_
    refine zv_callVi (as := [za_I i, za_I 1]) G (by decide) rfl rfl (zc_X6_cell_at1 l E sw i L σ0 (by first | assumption | decide | omega) (by first | assumption | decide | omega)) zk_X6_cell zm_465 rfl ⟨(Nat.le_of_ble_eq_true rfl), (Nat.le_of_ble_eq_true rfl)⟩ ⟨Nat.zero_le _, Nat.zero_le _⟩ (Nat.le_of_ble_eq_true rfl) dX6_appendPart_42 (fun r_42 σ h_42 => ?_)
    obtain ⟨h_42, e9⟩ := h_42
    rw [e9]
    clear e9 σ
    refine zv_iload (j := 1) G dX6_appendPart_45 rfl ?_
    refine zv_iload (j := 0) G dX6_appendPart_47 rfl ?_
    refine zv_aload_n (j := 3) G dX6_appendPart_49 rfl rfl ?_
    refine zv_iload_n (j := 4) G dX6_appendPart_50 rfl rfl ?_
    refine zv_iconst (v := 4) G dX6_appendPart_51 (by decide) ?_
    refine zv_callVi (as := [za_I i, za_I 4]) G (by decide) rfl rfl (zc_X6_cell_at4 l E sw i L σ0 (by first | assumption | decide | omega) (by first | assumption | decide | omega)) zk_X6_cell zm_465 rfl ⟨(Nat.le_of_ble_eq_true rfl), (Nat.le_of_ble_eq_true rfl)⟩ ⟨Nat.zero_le _, Nat.zero_le _⟩ (Nat.le_of_ble_eq_true rfl) dX6_appendPart_52 (fun r_52 σ h_52 => ?_)
    obtain ⟨h_52, e9⟩ := h_52
    rw [e9]
    clear e9 σ
    refine zv_callVv (as := [za_I r_36, za_I r_42, za_I x_7, za_I x_20, za_I r_52]) G (by decide) rfl rfl (zc_X6_append_atx l E w r_36 r_42 x_7 x_20 r_52 T σ0 (by first | assumption | decide | omega) (by first | assumption | decide | omega)) zk_X6_append zm_488 rfl ⟨(Nat.le_of_ble_eq_true rfl), (Nat.le_of_ble_eq_true rfl)⟩ ⟨Nat.zero_le _, Nat.zero_le _⟩ (Nat.le_of_ble_eq_true rfl) dX6_appendPart_55 (fun σ h_55 => ?_)
    exact zv_vret G hr dX6_appendPart_58 (by first | exact wzpt_A h_4 h_17 h_36 h_42 h_52 e_7 e_20 k_29 h_55 | exact wzpt_B h_4 h_17 e_7 e_20 k_29 hT)
set_option maxHeartbeats 4000000 in
set_option maxRecDepth 100000 in
theorem zc_X6_put_atx (l : Launch) (E : za_E) (w : Nat) (i : Int32) (cj : Int32) (v : Int32) (T : List wzR) (σ0 : za_S) (hT : wzTb σ0 w T) (hi : i.toInt = (T.length : Int) - 1) (hc : 0 ≤ cj.toInt ∧ cj.toInt ≤ 4) : zMv l E yX6_put cX6_put 4 (Option.none : Option Jvm.ClassFile.FieldType) 2 42 [za_O 2 w, za_I i, za_I cj, za_I v] σ0 (fun σ' => wzTb σ' w (wzcl T cj.toInt.toNat v.toInt) ∧ wzfw w σ0 σ') := by
  refine zMv_of [(0, za_O 2 w), (1, za_I i), (2, za_I cj), (3, za_I v)] (by decide) rfl rfl (Nat.le_of_ble_eq_true rfl) ?_
  intro ho p e s m args below meth c G hr
  have h_w : za_kd w = 2 := za_okO (by decide) (List.forall_mem_cons.mp ho).1
  refine zv_aload_n (j := 0) G dX6_put_0 rfl rfl ?_
  refine zv_iload_n (j := 1) G dX6_put_1 rfl rfl ?_
  refine zv_callVi (as := [za_I i]) G (by decide) rfl rfl (zc_X6_has_atx l E w i σ0 ) zk_X6_has zm_401 rfl ⟨(Nat.le_of_ble_eq_true rfl), (Nat.le_of_ble_eq_true rfl)⟩ ⟨Nat.zero_le _, Nat.zero_le _⟩ (Nat.le_of_ble_eq_true rfl) dX6_put_2 (fun r_2 σ h_2 => ?_)
  obtain ⟨h_2, e9⟩ := h_2
  rw [e9]
  clear e9 σ
  refine zv_if_eq (tgt := 28) G dX6_put_5 (by decide) (fun c_5 => ?_) (fun c_5 => ?_)
  · have f_2 := fun q9 => (h_2.2.mpr q9) c_5
    exact zv_vret G hr dX6_put_28 (by first | exact wzpu_A hT hi t_2 hc | exact wzpu_B hT hi f_2 | (exfalso; omega))
  · have t_2 := h_2.2.mp c_5
    refine zv_iload_n (j := 2) G dX6_put_8 rfl rfl ?_
    refine zv_if_lt (tgt := 28) G dX6_put_9 (by decide) (fun c_9 => ?_) (fun c_9 => ?_)
    · have k_9 := z_clt c_9 (a := cj.toInt) (b := 0) rfl rfl
      exact zv_vret G hr dX6_put_28 (by first | exact wzpu_A hT hi t_2 hc | exact wzpu_B hT hi f_2 | (exfalso; omega))
    · have k_9 := z_cnlt c_9 (a := cj.toInt) (b := 0) rfl rfl
      refine zv_iload_n (j := 2) G dX6_put_12 rfl rfl ?_
      refine zv_iconst (v := 5) G dX6_put_13 (by decide) ?_
      refine zv_icmp_ge (tgt := 28) G dX6_put_14 (by decide) (fun c_14 => ?_) (fun c_14 => ?_)
      · have k_14 := z_cle c_14 (a := 5) (b := cj.toInt) rfl rfl
        exact zv_vret G hr dX6_put_28 (by first | exact wzpu_A hT hi t_2 hc | exact wzpu_B hT hi f_2 | (exfalso; omega))
      · have k_14 := z_cnle c_14 (a := 5) (b := cj.toInt) rfl rfl
        refine zv_aload_n (j := 0) G dX6_put_17 rfl rfl ?_
        refine zg_X6_11 G dX6_put_18 ?_
        refine zv_iload_n (j := 1) G dX6_put_21 rfl rfl ?_
        refine zv_iconst (v := 5) G dX6_put_22 (by decide) ?_
        refine zv_imul G dX6_put_23 ?_
        refine zv_iload_n (j := 2) G dX6_put_24 rfl rfl ?_
        refine zv_iadd G dX6_put_25 ?_
        refine zv_iload_n (j := 3) G dX6_put_26 rfl rfl ?_
        refine zv_iast G (by decide) rfl (fun _ => rfl) (z_cell t_2.1 t_2.2.2 hc.1 (by omega)) dX6_put_27 ?_
        exact zv_vret G hr dX6_put_28 (by first | exact wzpu_A hT hi t_2 hc | exact wzpu_B hT hi f_2 | (exfalso; omega))
set_option maxHeartbeats 4000000 in
set_option maxRecDepth 100000 in
theorem zc_X6_changeLast_atx (l : Launch) (E : za_E) (w : Nat) (cj : Int32) (v : Int32) (T : List wzR) (σ0 : za_S) (hT : wzTb σ0 w T) (hc : 0 ≤ cj.toInt ∧ cj.toInt ≤ 4) : zMv l E yX6_changeLast cX6_changeLast 3 (Option.none : Option Jvm.ClassFile.FieldType) 3 65 [za_O 2 w, za_I cj, za_I v] σ0 (fun σ' => wzTb σ' w (wzcl T cj.toInt.toNat v.toInt) ∧ wzfw w σ0 σ') := by
  refine zMv_of [(0, za_O 2 w), (1, za_I cj), (2, za_I v)] (by decide) rfl rfl (Nat.le_of_ble_eq_true rfl) ?_
  intro ho p e s m args below meth c G hr
  have h_w : za_kd w = 2 := za_okO (by decide) (List.forall_mem_cons.mp ho).1
  refine zv_aload_n (j := 0) G dX6_changeLast_0 rfl rfl ?_
  refine zv_aload_n (j := 0) G dX6_changeLast_1 rfl rfl ?_
  refine zg_X6_15 G dX6_changeLast_2 ?_
  refine zv_iconst (v := 1) G dX6_changeLast_5 (by decide) ?_
  refine zv_isub G dX6_changeLast_6 ?_
  refine zv_iload_n (j := 1) G dX6_changeLast_7 rfl rfl ?_
  refine zv_iload_n (j := 2) G dX6_changeLast_8 rfl rfl ?_
  refine zv_callVv (as := [za_I ((σ0.1 w 1) - 1), za_I cj, za_I v]) G (by decide) rfl rfl (zc_X6_put_atx l E w ((σ0.1 w 1) - 1) cj v T σ0 hT (by have hn9 := hT.1; have hb9 := hT.2.1; exact z_subf rfl hn9 rfl (by omega) (by omega)) hc) zk_X6_put zm_522 rfl ⟨(Nat.le_of_ble_eq_true rfl), (Nat.le_of_ble_eq_true rfl)⟩ ⟨Nat.zero_le _, Nat.zero_le _⟩ (Nat.le_of_ble_eq_true rfl) dX6_changeLast_9 (fun σ h_9 => ?_)
  exact zv_vret G hr dX6_changeLast_12 h_9
set_option maxHeartbeats 4000000 in
set_option maxRecDepth 100000 in
theorem zc_X6_fillChanged_atx (l : Launch) (E : za_E) (w : Nat) (sw : Nat) (k : Int32) (fd : Int32) (td : Int32) (cj : Int32) (v : Int32) (L : List wzR) (σ0 : za_S) (hS : wzTb σ0 sw L) (hO : wzOk L) (h20 : L.length ≤ 20) (hd : wzap sw w) (hp : (0 ≤ fd.toInt ∧ fd.toInt ≤ 100) ∧ 0 ≤ td.toInt ∧ td.toInt ≤ 100) (hc : 0 ≤ cj.toInt ∧ cj.toInt ≤ 4) : zMv l E yX6_fillChanged cX6_fillChanged 8 (Option.none : Option Jvm.ClassFile.FieldType) 5 111 [za_O 2 w, za_O 2 sw, za_I k, za_I fd, za_I td, za_I cj, za_I v] σ0 (fun σ' => wzfl w σ0 σ' (L.flatMap (wzfc k.toInt fd.toInt td.toInt cj.toInt.toNat v.toInt))) := by
  refine zMv_of [(0, za_O 2 w), (1, za_O 2 sw), (2, za_I k), (3, za_I fd), (4, za_I td), (5, za_I cj), (6, za_I v)] (by decide) rfl rfl (Nat.le_of_ble_eq_true rfl) ?_
  intro ho p e s m args below meth c G hr
  have h_w : za_kd w = 2 := za_okO (by decide) (List.forall_mem_cons.mp ho).1
  have h_sw : za_kd sw = 2 := za_okO (by decide) (List.forall_mem_cons.mp (List.forall_mem_cons.mp ho).2).1
  have hn9 := hS.1
  refine zv_gen (R9 := (fun σ => σ = σ0)) rfl (fun σ hz => ?_)
  refine zv_aload_n (j := 0) G dX6_fillChanged_0 rfl rfl ?_
  refine zv_callVv (as := []) G (by decide) rfl rfl (zc_X6_clear_atx l E w σ ) zk_X6_clear zm_513 rfl ⟨(Nat.le_of_ble_eq_true rfl), (Nat.le_of_ble_eq_true rfl)⟩ ⟨Nat.zero_le _, Nat.zero_le _⟩ (Nat.le_of_ble_eq_true rfl) dX6_fillChanged_1 (fun σ h_1 => ?_)
  have hz := wzfl_0 hz h_1
  refine zv_iconst (v := 0) G dX6_fillChanged_4 (by decide) ?_
  have J_7 : ∀ (n : Nat) (y7_7 : Int32) (σ : za_S) (hz : wzfl w σ0 σ ((L.take y7_7.toInt.toNat).flatMap (wzfc k.toInt fd.toInt td.toInt cj.toInt.toNat v.toInt))) (g_7 : y7_7.toInt ≤ L.length) (i7_7 : 0 ≤ y7_7.toInt) (hn_7 : (2147483648 - y7_7.toInt).toNat < n), zV p l e (zRm 5 111) s m args below meth c E (za_A E) 8 0 0 (MQ below (va_Qv (fun σ' => wzfl w σ0 σ' (L.flatMap (wzfc k.toInt fd.toInt td.toInt cj.toInt.toNat v.toInt))) (zB E) (za_A E)) args s 0 0 (za_A E)) 7 [(0, za_O 2 w), (1, za_O 2 sw), (2, za_I k), (3, za_I fd), (4, za_I td), (5, za_I cj), (6, za_I v), (7, za_I y7_7)] [] σ := by
    intro n
    induction n with
    | zero => intro y7_7 σ hz g_7 i7_7 hn; exact absurd hn (Nat.not_lt_zero _)
    | succ n ih_7 =>
      intro y7_7 σ hz g_7 i7_7 hn_7
      have hn8 : (σ.1 sw 1).toInt = L.length := (wzfl_s hd hS hz).1
      refine zv_iload (j := 7) G dX6_fillChanged_7 rfl ?_
      refine zv_aload_n (j := 1) G dX6_fillChanged_9 rfl rfl ?_
      refine zg_X6_15 G dX6_fillChanged_10 ?_
      refine zv_icmp_ge (tgt := 99) G dX6_fillChanged_13 (by decide) (fun c_13 => ?_) (fun c_13 => ?_)
      · have k_13 := z_cle c_13 (a := (σ.1 sw 1).toInt) (b := y7_7.toInt) rfl rfl
        exact zv_vret G hr dX6_fillChanged_99 (by rw [List.take_of_length_le (by omega)] at hz; exact hz)
      · have k_13 := z_cnle c_13 (a := (σ.1 sw 1).toInt) (b := y7_7.toInt) rfl rfl
        refine zv_aload_n (j := 1) G dX6_fillChanged_16 rfl rfl ?_
        refine zv_iload (j := 7) G dX6_fillChanged_17 rfl ?_
        refine zv_iload_n (j := 2) G dX6_fillChanged_19 rfl rfl ?_
        refine zv_iload_n (j := 3) G dX6_fillChanged_20 rfl rfl ?_
        refine zv_iload (j := 4) G dX6_fillChanged_21 rfl ?_
        refine zv_callVi (as := [za_I y7_7, za_I k, za_I fd, za_I td]) G (by decide) rfl rfl (zc_X6_touches_atx l E sw y7_7 k fd td L σ (wzfl_s hd hS hz) hO (by omega) hp) zk_X6_touches zm_461 rfl ⟨(Nat.le_of_ble_eq_true rfl), (Nat.le_of_ble_eq_true rfl)⟩ ⟨Nat.zero_le _, Nat.zero_le _⟩ (Nat.le_of_ble_eq_true rfl) dX6_fillChanged_23 (fun r_23 σ h_23 => ?_)
        obtain ⟨h_23, rfl⟩ := h_23
        refine zv_if_eq (tgt := 83) G dX6_fillChanged_26 (by decide) (fun c_26 => ?_) (fun c_26 => ?_)
        · have f_23 := fun q9 => (h_23.2.mpr q9) c_26
          refine zv_aload_n (j := 0) G dX6_fillChanged_83 rfl rfl ?_
          refine zv_aload_n (j := 1) G dX6_fillChanged_84 rfl rfl ?_
          refine zv_iload (j := 7) G dX6_fillChanged_85 rfl ?_
          refine zv_iconst (v := 0) G dX6_fillChanged_87 (by decide) ?_
          refine zv_bipush (v := 100) G dX6_fillChanged_88 (by decide) ?_
          refine zv_callVv (as := [za_O 2 sw, za_I y7_7, za_I 0, za_I 100]) G (by decide) rfl rfl (zc_X6_appendPart_atx l E w sw y7_7 (0 : Int32) (100 : Int32) L _ σ (wzfl_s hd hS hz) (by omega) hz.1 (Nat.le_trans (wzfm_tk (f := wzfc k.toInt fd.toInt td.toInt cj.toInt.toNat v.toInt) (wzfc_len _ _ _ _ _) h20 y7_7.toInt.toNat) (by decide))) zk_X6_appendPart zm_517 rfl ⟨(Nat.le_of_ble_eq_true rfl), (Nat.le_of_ble_eq_true rfl)⟩ ⟨Nat.zero_le _, Nat.zero_le _⟩ (Nat.le_of_ble_eq_true rfl) dX6_fillChanged_90 (fun σ h_90 => ?_)
          have hz := wzfl_a hz h_90
          have hz : wzfl w σ0 σ ((L.take y7_7.toInt.toNat).flatMap (wzfc k.toInt fd.toInt td.toInt cj.toInt.toNat v.toInt) ++ wzfc k.toInt fd.toInt td.toInt cj.toInt.toNat v.toInt (wzg L y7_7.toInt.toNat)) := wzfl_c hz (congrArg (fun q => (L.take y7_7.toInt.toNat).flatMap (wzfc k.toInt fd.toInt td.toInt cj.toInt.toNat v.toInt) ++ q) (wzfc_0 (r := wzg L y7_7.toInt.toNat) (by first | exact fun q => (f_23 q).elim | exact fun _ => (by rw [← h_34]; omega))).symm)
          obtain ⟨x_93, e_93⟩ : ∃ y : Int32, y = y7_7 + 1 := ⟨_, rfl⟩
          refine zv_iinc (j := 7) (v := x_93) (lv' := [(7, za_I x_93), (0, za_O 2 w), (1, za_O 2 sw), (2, za_I k), (3, za_I fd), (4, za_I td), (5, za_I cj), (6, za_I v)]) G dX6_fillChanged_93 rfl (by rw [e_93]; rfl) (by decide) rfl ?_
          first | have q_93 := z_inc9 (by omega) e_93 | skip
          refine zv_goto (tgt := 7) G dX6_fillChanged_96 (by decide) ?_
          refine zv_sub [1, 2, 3, 4, 5, 6, 7, 0] (lv' := [(0, za_O 2 w), (1, za_O 2 sw), (2, za_I k), (3, za_I fd), (4, za_I td), (5, za_I cj), (6, za_I v), (7, za_I x_93)]) rfl ?_
          exact ih_7 x_93 σ (by rw [show x_93.toInt.toNat = y7_7.toInt.toNat + 1 by omega, wztk_f (by omega) h20]; exact hz) (by omega) (by have := z_inc c_13 e_93; omega) (z_meas c_13 e_93 hn_7)
        · have t_23 := h_23.2.mp c_26
          refine zv_aload_n (j := 1) G dX6_fillChanged_29 rfl rfl ?_
          refine zv_iload (j := 7) G dX6_fillChanged_30 rfl ?_
          refine zv_iload (j := 5) G dX6_fillChanged_32 rfl ?_
          refine zv_callVi (as := [za_I y7_7, za_I cj]) G (by decide) rfl rfl (zc_X6_cell_atw l E sw y7_7 cj L σ (wzfl_s hd hS hz) (by omega) hc) zk_X6_cell zm_465 rfl ⟨(Nat.le_of_ble_eq_true rfl), (Nat.le_of_ble_eq_true rfl)⟩ ⟨Nat.zero_le _, Nat.zero_le _⟩ (Nat.le_of_ble_eq_true rfl) dX6_fillChanged_34 (fun r_34 σ h_34 => ?_)
          obtain ⟨h_34, rfl⟩ := h_34
          refine zv_iload (j := 6) G dX6_fillChanged_37 rfl ?_
          refine zv_icmp_eq (tgt := 83) G dX6_fillChanged_39 (by decide) (fun c_39 => ?_) (fun c_39 => ?_)
          · have k_39 := z_ceq c_39 (a := r_34.toInt) (b := v.toInt) rfl rfl
            refine zv_aload_n (j := 0) G dX6_fillChanged_83 rfl rfl ?_
            refine zv_aload_n (j := 1) G dX6_fillChanged_84 rfl rfl ?_
            refine zv_iload (j := 7) G dX6_fillChanged_85 rfl ?_
            refine zv_iconst (v := 0) G dX6_fillChanged_87 (by decide) ?_
            refine zv_bipush (v := 100) G dX6_fillChanged_88 (by decide) ?_
            refine zv_callVv (as := [za_O 2 sw, za_I y7_7, za_I 0, za_I 100]) G (by decide) rfl rfl (zc_X6_appendPart_atx l E w sw y7_7 (0 : Int32) (100 : Int32) L _ σ (wzfl_s hd hS hz) (by omega) hz.1 (Nat.le_trans (wzfm_tk (f := wzfc k.toInt fd.toInt td.toInt cj.toInt.toNat v.toInt) (wzfc_len _ _ _ _ _) h20 y7_7.toInt.toNat) (by decide))) zk_X6_appendPart zm_517 rfl ⟨(Nat.le_of_ble_eq_true rfl), (Nat.le_of_ble_eq_true rfl)⟩ ⟨Nat.zero_le _, Nat.zero_le _⟩ (Nat.le_of_ble_eq_true rfl) dX6_fillChanged_90 (fun σ h_90 => ?_)
            have hz := wzfl_a hz h_90
            have hz : wzfl w σ0 σ ((L.take y7_7.toInt.toNat).flatMap (wzfc k.toInt fd.toInt td.toInt cj.toInt.toNat v.toInt) ++ wzfc k.toInt fd.toInt td.toInt cj.toInt.toNat v.toInt (wzg L y7_7.toInt.toNat)) := wzfl_c hz (congrArg (fun q => (L.take y7_7.toInt.toNat).flatMap (wzfc k.toInt fd.toInt td.toInt cj.toInt.toNat v.toInt) ++ q) (wzfc_0 (r := wzg L y7_7.toInt.toNat) (by first | exact fun q => (f_23 q).elim | exact fun _ => (by rw [← h_34]; omega))).symm)
            obtain ⟨x_93, e_93⟩ : ∃ y : Int32, y = y7_7 + 1 := ⟨_, rfl⟩
            refine zv_iinc (j := 7) (v := x_93) (lv' := [(7, za_I x_93), (0, za_O 2 w), (1, za_O 2 sw), (2, za_I k), (3, za_I fd), (4, za_I td), (5, za_I cj), (6, za_I v)]) G dX6_fillChanged_93 rfl (by rw [e_93]; rfl) (by decide) rfl ?_
            first | have q_93 := z_inc9 (by omega) e_93 | skip
            refine zv_goto (tgt := 7) G dX6_fillChanged_96 (by decide) ?_
            refine zv_sub [1, 2, 3, 4, 5, 6, 7, 0] (lv' := [(0, za_O 2 w), (1, za_O 2 sw), (2, za_I k), (3, za_I fd), (4, za_I td), (5, za_I cj), (6, za_I v), (7, za_I x_93)]) rfl ?_
            exact ih_7 x_93 σ (by rw [show x_93.toInt.toNat = y7_7.toInt.toNat + 1 by omega, wztk_f (by omega) h20]; exact hz) (by omega) (by have := z_inc c_13 e_93; omega) (z_meas c_13 e_93 hn_7)
          · have k_39 := z_cne c_39 (a := r_34.toInt) (b := v.toInt) rfl rfl
            refine zv_aload_n (j := 0) G dX6_fillChanged_42 rfl rfl ?_
            refine zv_aload_n (j := 1) G dX6_fillChanged_43 rfl rfl ?_
            refine zv_iload (j := 7) G dX6_fillChanged_44 rfl ?_
            refine zv_iconst (v := 0) G dX6_fillChanged_46 (by decide) ?_
            refine zv_iload_n (j := 3) G dX6_fillChanged_47 rfl rfl ?_
            refine zv_callVv (as := [za_O 2 sw, za_I y7_7, za_I 0, za_I fd]) G (by decide) rfl rfl (zc_X6_appendPart_atx l E w sw y7_7 (0 : Int32) fd L _ σ (wzfl_s hd hS hz) (by omega) hz.1 (Nat.le_trans (wzfm_tk (f := wzfc k.toInt fd.toInt td.toInt cj.toInt.toNat v.toInt) (wzfc_len _ _ _ _ _) h20 y7_7.toInt.toNat) (by decide))) zk_X6_appendPart zm_517 rfl ⟨(Nat.le_of_ble_eq_true rfl), (Nat.le_of_ble_eq_true rfl)⟩ ⟨Nat.zero_le _, Nat.zero_le _⟩ (Nat.le_of_ble_eq_true rfl) dX6_fillChanged_48 (fun σ h_48 => ?_)
            have hz := wzfl_a hz h_48
            refine zv_aload_n (j := 0) G dX6_fillChanged_51 rfl rfl ?_
            refine zv_aload_n (j := 1) G dX6_fillChanged_52 rfl rfl ?_
            refine zv_iload (j := 7) G dX6_fillChanged_53 rfl ?_
            refine zv_iload_n (j := 3) G dX6_fillChanged_55 rfl rfl ?_
            refine zv_iload (j := 4) G dX6_fillChanged_56 rfl ?_
            refine zv_callVv (as := [za_O 2 sw, za_I y7_7, za_I fd, za_I td]) G (by decide) rfl rfl (zc_X6_appendPart_atx l E w sw y7_7 fd td L _ σ (wzfl_s hd hS hz) (by omega) hz.1 (Nat.le_trans (wzl_a (wzfm_tk (f := wzfc k.toInt fd.toInt td.toInt cj.toInt.toNat v.toInt) (wzfc_len _ _ _ _ _) h20 y7_7.toInt.toNat)) (by decide))) zk_X6_appendPart zm_517 rfl ⟨(Nat.le_of_ble_eq_true rfl), (Nat.le_of_ble_eq_true rfl)⟩ ⟨Nat.zero_le _, Nat.zero_le _⟩ (Nat.le_of_ble_eq_true rfl) dX6_fillChanged_58 (fun σ h_58 => ?_)
            have hz := wzfl_a hz h_58
            refine zv_aload_n (j := 0) G dX6_fillChanged_61 rfl rfl ?_
            refine zv_iload (j := 5) G dX6_fillChanged_62 rfl ?_
            refine zv_iload (j := 6) G dX6_fillChanged_64 rfl ?_
            refine zv_callVv (as := [za_I cj, za_I v]) G (by decide) rfl rfl (zc_X6_changeLast_atx l E w cj v _ σ hz.1 hc) zk_X6_changeLast zm_518 rfl ⟨(Nat.le_of_ble_eq_true rfl), (Nat.le_of_ble_eq_true rfl)⟩ ⟨Nat.zero_le _, Nat.zero_le _⟩ (Nat.le_of_ble_eq_true rfl) dX6_fillChanged_66 (fun σ h_66 => ?_)
            have hz := wzfl_a hz h_66
            refine zv_aload_n (j := 0) G dX6_fillChanged_69 rfl rfl ?_
            refine zv_aload_n (j := 1) G dX6_fillChanged_70 rfl rfl ?_
            refine zv_iload (j := 7) G dX6_fillChanged_71 rfl ?_
            refine zv_iload (j := 4) G dX6_fillChanged_73 rfl ?_
            refine zv_bipush (v := 100) G dX6_fillChanged_75 (by decide) ?_
            refine zv_callVv (as := [za_O 2 sw, za_I y7_7, za_I td, za_I 100]) G (by decide) rfl rfl (zc_X6_appendPart_atx l E w sw y7_7 td (100 : Int32) L _ σ (wzfl_s hd hS hz) (by omega) hz.1 (Nat.le_trans (wzl_c (wzl_a (wzl_a (wzfm_tk (f := wzfc k.toInt fd.toInt td.toInt cj.toInt.toNat v.toInt) (wzfc_len _ _ _ _ _) h20 y7_7.toInt.toNat)))) (by decide))) zk_X6_appendPart zm_517 rfl ⟨(Nat.le_of_ble_eq_true rfl), (Nat.le_of_ble_eq_true rfl)⟩ ⟨Nat.zero_le _, Nat.zero_le _⟩ (Nat.le_of_ble_eq_true rfl) dX6_fillChanged_77 (fun σ h_77 => ?_)
            have hz := wzfl_a hz h_77
            have hz : wzfl w σ0 σ ((L.take y7_7.toInt.toNat).flatMap (wzfc k.toInt fd.toInt td.toInt cj.toInt.toNat v.toInt) ++ wzfc k.toInt fd.toInt td.toInt cj.toInt.toNat v.toInt (wzg L y7_7.toInt.toNat)) := wzfl_c hz (wzfc_1 t_23 (by rw [← h_34]; omega))
            refine zv_goto (tgt := 93) G dX6_fillChanged_80 (by decide) ?_
            obtain ⟨x_93, e_93⟩ : ∃ y : Int32, y = y7_7 + 1 := ⟨_, rfl⟩
            refine zv_iinc (j := 7) (v := x_93) (lv' := [(7, za_I x_93), (0, za_O 2 w), (1, za_O 2 sw), (2, za_I k), (3, za_I fd), (4, za_I td), (5, za_I cj), (6, za_I v)]) G dX6_fillChanged_93 rfl (by rw [e_93]; rfl) (by decide) rfl ?_
            first | have q_93 := z_inc9 (by omega) e_93 | skip
            refine zv_goto (tgt := 7) G dX6_fillChanged_96 (by decide) ?_
            refine zv_sub [1, 2, 3, 4, 5, 6, 7, 0] (lv' := [(0, za_O 2 w), (1, za_O 2 sw), (2, za_I k), (3, za_I fd), (4, za_I td), (5, za_I cj), (6, za_I v), (7, za_I x_93)]) rfl ?_
            exact ih_7 x_93 σ (by rw [show x_93.toInt.toNat = y7_7.toInt.toNat + 1 by omega, wztk_f (by omega) h20]; exact hz) (by omega) (by have := z_inc c_13 e_93; omega) (z_meas c_13 e_93 hn_7)
  refine zv_istore (lv' := [(7, za_I 0), (0, za_O 2 w), (1, za_O 2 sw), (2, za_I k), (3, za_I fd), (4, za_I td), (5, za_I cj), (6, za_I v)]) G dX6_fillChanged_5 (by decide) rfl ?_
  refine zv_sub [1, 2, 3, 4, 5, 6, 7, 0] (lv' := [(0, za_O 2 w), (1, za_O 2 sw), (2, za_I k), (3, za_I fd), (4, za_I td), (5, za_I cj), (6, za_I v), (7, za_I 0)]) rfl ?_
  exact J_7 _ (0 : Int32) σ hz (by have h0 : (0 : Int32).toInt = 0 := (by decide); omega) (by decide) (Nat.lt_succ_self _)
set_option maxHeartbeats 4000000 in
set_option maxRecDepth 100000 in
theorem zc_X6_fillCut_atx (l : Launch) (E : za_E) (w : Nat) (sw : Nat) (k : Int32) (fd : Int32) (td : Int32) (L : List wzR) (σ0 : za_S) (hS : wzTb σ0 sw L) (hO : wzOk L) (h20 : L.length ≤ 20) (hd : wzap sw w) : zMv l E yX6_fillCut cX6_fillCut 6 (Option.none : Option Jvm.ClassFile.FieldType) 4 90 [za_O 2 w, za_O 2 sw, za_I k, za_I fd, za_I td] σ0 (fun σ' => wzfl w σ0 σ' (L.flatMap (wzfk k.toInt fd.toInt td.toInt))) := by
  refine zMv_of [(0, za_O 2 w), (1, za_O 2 sw), (2, za_I k), (3, za_I fd), (4, za_I td)] (by decide) rfl rfl (Nat.le_of_ble_eq_true rfl) ?_
  intro ho p e s m args below meth c G hr
  have h_w : za_kd w = 2 := za_okO (by decide) (List.forall_mem_cons.mp ho).1
  have h_sw : za_kd sw = 2 := za_okO (by decide) (List.forall_mem_cons.mp (List.forall_mem_cons.mp ho).2).1
  have hn9 := hS.1
  refine zv_gen (R9 := (fun σ => σ = σ0)) rfl (fun σ hz => ?_)
  refine zv_aload_n (j := 0) G dX6_fillCut_0 rfl rfl ?_
  refine zv_callVv (as := []) G (by decide) rfl rfl (zc_X6_clear_atx l E w σ ) zk_X6_clear zm_513 rfl ⟨(Nat.le_of_ble_eq_true rfl), (Nat.le_of_ble_eq_true rfl)⟩ ⟨Nat.zero_le _, Nat.zero_le _⟩ (Nat.le_of_ble_eq_true rfl) dX6_fillCut_1 (fun σ h_1 => ?_)
  have hz := wzfl_0 hz h_1
  refine zv_iconst (v := 0) G dX6_fillCut_4 (by decide) ?_
  have J_7 : ∀ (n : Nat) (y5_7 : Int32) (σ : za_S) (hz : wzfl w σ0 σ ((L.take y5_7.toInt.toNat).flatMap (wzfk k.toInt fd.toInt td.toInt))) (g_7 : y5_7.toInt ≤ L.length) (i5_7 : 0 ≤ y5_7.toInt) (hn_7 : (2147483648 - y5_7.toInt).toNat < n), zV p l e (zRm 4 90) s m args below meth c E (za_A E) 6 0 0 (MQ below (va_Qv (fun σ' => wzfl w σ0 σ' (L.flatMap (wzfk k.toInt fd.toInt td.toInt))) (zB E) (za_A E)) args s 0 0 (za_A E)) 7 [(0, za_O 2 w), (1, za_O 2 sw), (2, za_I k), (3, za_I fd), (4, za_I td), (5, za_I y5_7)] [] σ := by
    intro n
    induction n with
    | zero => intro y5_7 σ hz g_7 i5_7 hn; exact absurd hn (Nat.not_lt_zero _)
    | succ n ih_7 =>
      intro y5_7 σ hz g_7 i5_7 hn_7
      have hn8 : (σ.1 sw 1).toInt = L.length := (wzfl_s hd hS hz).1
      refine zv_iload (j := 5) G dX6_fillCut_7 rfl ?_
      refine zv_aload_n (j := 1) G dX6_fillCut_9 rfl rfl ?_
      refine zg_X6_15 G dX6_fillCut_10 ?_
      refine zv_icmp_ge (tgt := 66) G dX6_fillCut_13 (by decide) (fun c_13 => ?_) (fun c_13 => ?_)
      · have k_13 := z_cle c_13 (a := (σ.1 sw 1).toInt) (b := y5_7.toInt) rfl rfl
        exact zv_vret G hr dX6_fillCut_66 (by rw [List.take_of_length_le (by omega)] at hz; exact hz)
      · have k_13 := z_cnle c_13 (a := (σ.1 sw 1).toInt) (b := y5_7.toInt) rfl rfl
        refine zv_aload_n (j := 1) G dX6_fillCut_16 rfl rfl ?_
        refine zv_iload (j := 5) G dX6_fillCut_17 rfl ?_
        refine zv_iconst (v := 0) G dX6_fillCut_19 (by decide) ?_
        refine zv_callVi (as := [za_I y5_7, za_I 0]) G (by decide) rfl rfl (zc_X6_cell_at0 l E sw y5_7 L σ (wzfl_s hd hS hz) (by omega)) zk_X6_cell zm_465 rfl ⟨(Nat.le_of_ble_eq_true rfl), (Nat.le_of_ble_eq_true rfl)⟩ ⟨Nat.zero_le _, Nat.zero_le _⟩ (Nat.le_of_ble_eq_true rfl) dX6_fillCut_20 (fun r_20 σ h_20 => ?_)
        obtain ⟨h_20, rfl⟩ := h_20
        refine zv_iload_n (j := 2) G dX6_fillCut_23 rfl rfl ?_
        refine zv_icmp_ne (tgt := 50) G dX6_fillCut_24 (by decide) (fun c_24 => ?_) (fun c_24 => ?_)
        · have k_24 := z_cne c_24 (a := r_20.toInt) (b := k.toInt) rfl rfl
          refine zv_aload_n (j := 0) G dX6_fillCut_50 rfl rfl ?_
          refine zv_aload_n (j := 1) G dX6_fillCut_51 rfl rfl ?_
          refine zv_iload (j := 5) G dX6_fillCut_52 rfl ?_
          refine zv_iconst (v := 0) G dX6_fillCut_54 (by decide) ?_
          refine zv_bipush (v := 100) G dX6_fillCut_55 (by decide) ?_
          refine zv_callVv (as := [za_O 2 sw, za_I y5_7, za_I 0, za_I 100]) G (by decide) rfl rfl (zc_X6_appendPart_atx l E w sw y5_7 (0 : Int32) (100 : Int32) L _ σ (wzfl_s hd hS hz) (by omega) hz.1 (Nat.le_trans (wzfm_tk (f := wzfk k.toInt fd.toInt td.toInt) (wzfk_len _ _ _) h20 y5_7.toInt.toNat) (by decide))) zk_X6_appendPart zm_517 rfl ⟨(Nat.le_of_ble_eq_true rfl), (Nat.le_of_ble_eq_true rfl)⟩ ⟨Nat.zero_le _, Nat.zero_le _⟩ (Nat.le_of_ble_eq_true rfl) dX6_fillCut_57 (fun σ h_57 => ?_)
          have hz := wzfl_a hz h_57
          have hz : wzfl w σ0 σ ((L.take y5_7.toInt.toNat).flatMap (wzfk k.toInt fd.toInt td.toInt) ++ wzfk k.toInt fd.toInt td.toInt (wzg L y5_7.toInt.toNat)) := wzfl_c hz (congrArg (fun q => (L.take y5_7.toInt.toNat).flatMap (wzfk k.toInt fd.toInt td.toInt) ++ q) (wzfk_0 (r := wzg L y5_7.toInt.toNat) (by omega)).symm)
          obtain ⟨x_60, e_60⟩ : ∃ y : Int32, y = y5_7 + 1 := ⟨_, rfl⟩
          refine zv_iinc (j := 5) (v := x_60) (lv' := [(5, za_I x_60), (0, za_O 2 w), (1, za_O 2 sw), (2, za_I k), (3, za_I fd), (4, za_I td)]) G dX6_fillCut_60 rfl (by rw [e_60]; rfl) (by decide) rfl ?_
          first | have q_60 := z_inc9 (by omega) e_60 | skip
          refine zv_goto (tgt := 7) G dX6_fillCut_63 (by decide) ?_
          refine zv_sub [1, 2, 3, 4, 5, 0] (lv' := [(0, za_O 2 w), (1, za_O 2 sw), (2, za_I k), (3, za_I fd), (4, za_I td), (5, za_I x_60)]) rfl ?_
          exact ih_7 x_60 σ (by rw [show x_60.toInt.toNat = y5_7.toInt.toNat + 1 by omega, wztk_f (by omega) h20]; exact hz) (by omega) (by have := z_inc c_13 e_60; omega) (z_meas c_13 e_60 hn_7)
        · have k_24 := z_ceq c_24 (a := r_20.toInt) (b := k.toInt) rfl rfl
          refine zv_aload_n (j := 0) G dX6_fillCut_27 rfl rfl ?_
          refine zv_aload_n (j := 1) G dX6_fillCut_28 rfl rfl ?_
          refine zv_iload (j := 5) G dX6_fillCut_29 rfl ?_
          refine zv_iconst (v := 0) G dX6_fillCut_31 (by decide) ?_
          refine zv_iload_n (j := 3) G dX6_fillCut_32 rfl rfl ?_
          refine zv_callVv (as := [za_O 2 sw, za_I y5_7, za_I 0, za_I fd]) G (by decide) rfl rfl (zc_X6_appendPart_atx l E w sw y5_7 (0 : Int32) fd L _ σ (wzfl_s hd hS hz) (by omega) hz.1 (Nat.le_trans (wzfm_tk (f := wzfk k.toInt fd.toInt td.toInt) (wzfk_len _ _ _) h20 y5_7.toInt.toNat) (by decide))) zk_X6_appendPart zm_517 rfl ⟨(Nat.le_of_ble_eq_true rfl), (Nat.le_of_ble_eq_true rfl)⟩ ⟨Nat.zero_le _, Nat.zero_le _⟩ (Nat.le_of_ble_eq_true rfl) dX6_fillCut_33 (fun σ h_33 => ?_)
          have hz := wzfl_a hz h_33
          refine zv_aload_n (j := 0) G dX6_fillCut_36 rfl rfl ?_
          refine zv_aload_n (j := 1) G dX6_fillCut_37 rfl rfl ?_
          refine zv_iload (j := 5) G dX6_fillCut_38 rfl ?_
          refine zv_iload (j := 4) G dX6_fillCut_40 rfl ?_
          refine zv_bipush (v := 100) G dX6_fillCut_42 (by decide) ?_
          refine zv_callVv (as := [za_O 2 sw, za_I y5_7, za_I td, za_I 100]) G (by decide) rfl rfl (zc_X6_appendPart_atx l E w sw y5_7 td (100 : Int32) L _ σ (wzfl_s hd hS hz) (by omega) hz.1 (Nat.le_trans (wzl_a (wzfm_tk (f := wzfk k.toInt fd.toInt td.toInt) (wzfk_len _ _ _) h20 y5_7.toInt.toNat)) (by decide))) zk_X6_appendPart zm_517 rfl ⟨(Nat.le_of_ble_eq_true rfl), (Nat.le_of_ble_eq_true rfl)⟩ ⟨Nat.zero_le _, Nat.zero_le _⟩ (Nat.le_of_ble_eq_true rfl) dX6_fillCut_44 (fun σ h_44 => ?_)
          have hz := wzfl_a hz h_44
          have hz : wzfl w σ0 σ ((L.take y5_7.toInt.toNat).flatMap (wzfk k.toInt fd.toInt td.toInt) ++ wzfk k.toInt fd.toInt td.toInt (wzg L y5_7.toInt.toNat)) := wzfl_c hz ((List.append_assoc _ _ _).trans (congrArg (fun q => (L.take y5_7.toInt.toNat).flatMap (wzfk k.toInt fd.toInt td.toInt) ++ q) (wzfk_1 (r := wzg L y5_7.toInt.toNat) (by omega)).symm))
          refine zv_goto (tgt := 60) G dX6_fillCut_47 (by decide) ?_
          obtain ⟨x_60, e_60⟩ : ∃ y : Int32, y = y5_7 + 1 := ⟨_, rfl⟩
          refine zv_iinc (j := 5) (v := x_60) (lv' := [(5, za_I x_60), (0, za_O 2 w), (1, za_O 2 sw), (2, za_I k), (3, za_I fd), (4, za_I td)]) G dX6_fillCut_60 rfl (by rw [e_60]; rfl) (by decide) rfl ?_
          first | have q_60 := z_inc9 (by omega) e_60 | skip
          refine zv_goto (tgt := 7) G dX6_fillCut_63 (by decide) ?_
          refine zv_sub [1, 2, 3, 4, 5, 0] (lv' := [(0, za_O 2 w), (1, za_O 2 sw), (2, za_I k), (3, za_I fd), (4, za_I td), (5, za_I x_60)]) rfl ?_
          exact ih_7 x_60 σ (by rw [show x_60.toInt.toNat = y5_7.toInt.toNat + 1 by omega, wztk_f (by omega) h20]; exact hz) (by omega) (by have := z_inc c_13 e_60; omega) (z_meas c_13 e_60 hn_7)
  refine zv_istore (lv' := [(5, za_I 0), (0, za_O 2 w), (1, za_O 2 sw), (2, za_I k), (3, za_I fd), (4, za_I td)]) G dX6_fillCut_5 (by decide) rfl ?_
  refine zv_sub [1, 2, 3, 4, 5, 0] (lv' := [(0, za_O 2 w), (1, za_O 2 sw), (2, za_I k), (3, za_I fd), (4, za_I td), (5, za_I 0)]) rfl ?_
  exact J_7 _ (0 : Int32) σ hz (by have h0 : (0 : Int32).toInt = 0 := (by decide); omega) (by decide) (Nat.lt_succ_self _)
set_option maxHeartbeats 4000000 in
set_option maxRecDepth 100000 in
theorem zc_X6_fillJoined_atx (l : Launch) (E : za_E) (w : Nat) (sw : Nat) (L : List wzR) (σ0 : za_S) (hS : wzTb σ0 sw L) (hO : wzOk L) (h20 : L.length ≤ 20) (hd : wzap sw w) : zMv l E yX6_fillJoined cX6_fillJoined 3 (Option.none : Option Jvm.ClassFile.FieldType) 5 106 [za_O 2 w, za_O 2 sw] σ0 (fun σ' => wzfl w σ0 σ' (wzjl L L.length)) := by
  refine zMv_of [(0, za_O 2 w), (1, za_O 2 sw)] (by decide) rfl rfl (Nat.le_of_ble_eq_true rfl) ?_
  intro ho p e s m args below meth c G hr
  have h_w : za_kd w = 2 := za_okO (by decide) (List.forall_mem_cons.mp ho).1
  have h_sw : za_kd sw = 2 := za_okO (by decide) (List.forall_mem_cons.mp (List.forall_mem_cons.mp ho).2).1
  have hn9 := hS.1
  refine zv_gen (R9 := (fun σ => σ = σ0)) rfl (fun σ hz => ?_)
  refine zv_aload_n (j := 0) G dX6_fillJoined_0 rfl rfl ?_
  refine zv_callVv (as := []) G (by decide) rfl rfl (zc_X6_clear_atx l E w σ ) zk_X6_clear zm_513 rfl ⟨(Nat.le_of_ble_eq_true rfl), (Nat.le_of_ble_eq_true rfl)⟩ ⟨Nat.zero_le _, Nat.zero_le _⟩ (Nat.le_of_ble_eq_true rfl) dX6_fillJoined_1 (fun σ h_1 => ?_)
  have hz := wzfl_0 hz h_1
  refine zv_iconst (v := 0) G dX6_fillJoined_4 (by decide) ?_
  have J_6 : ∀ (n : Nat) (y2_6 : Int32) (σ : za_S) (hz : wzfl w σ0 σ (wzjl L y2_6.toInt.toNat)) (g_6 : y2_6.toInt ≤ L.length) (i2_6 : 0 ≤ y2_6.toInt) (hn_6 : (2147483648 - y2_6.toInt).toNat < n), zV p l e (zRm 5 106) s m args below meth c E (za_A E) 3 0 0 (MQ below (va_Qv (fun σ' => wzfl w σ0 σ' (wzjl L L.length)) (zB E) (za_A E)) args s 0 0 (za_A E)) 6 [(0, za_O 2 w), (1, za_O 2 sw), (2, za_I y2_6)] [] σ := by
    intro n
    induction n with
    | zero => intro y2_6 σ hz g_6 i2_6 hn; exact absurd hn (Nat.not_lt_zero _)
    | succ n ih_6 =>
      intro y2_6 σ hz g_6 i2_6 hn_6
      have hn8 : (σ.1 sw 1).toInt = L.length := (wzfl_s hd hS hz).1
      refine zv_iload_n (j := 2) G dX6_fillJoined_6 rfl rfl ?_
      refine zv_aload_n (j := 1) G dX6_fillJoined_7 rfl rfl ?_
      refine zg_X6_15 G dX6_fillJoined_8 ?_
      refine zv_icmp_ge (tgt := 51) G dX6_fillJoined_11 (by decide) (fun c_11 => ?_) (fun c_11 => ?_)
      · have k_11 := z_cle c_11 (a := (σ.1 sw 1).toInt) (b := y2_6.toInt) rfl rfl
        exact zv_vret G hr dX6_fillJoined_51 (wzfl_c hz (congrArg (wzjl L) (by omega)))
      · have k_11 := z_cnle c_11 (a := (σ.1 sw 1).toInt) (b := y2_6.toInt) rfl rfl
        refine zv_aload_n (j := 1) G dX6_fillJoined_14 rfl rfl ?_
        refine zv_iload_n (j := 2) G dX6_fillJoined_15 rfl rfl ?_
        refine zv_callVi (as := [za_I y2_6]) G (by decide) rfl rfl (zc_X6_isAlikeBefore_atx l E sw y2_6 L σ (wzfl_s hd hS hz) (by omega)) zk_X6_isAlikeBefore zm_638 rfl ⟨(Nat.le_of_ble_eq_true rfl), (Nat.le_of_ble_eq_true rfl)⟩ ⟨Nat.zero_le _, Nat.zero_le _⟩ (Nat.le_of_ble_eq_true rfl) dX6_fillJoined_16 (fun r_16 σ h_16 => ?_)
        obtain ⟨h_16, rfl⟩ := h_16
        refine zv_if_eq (tgt := 36) G dX6_fillJoined_19 (by decide) (fun c_19 => ?_) (fun c_19 => ?_)
        · have f_16 := fun q9 => (h_16.2.mpr q9) c_19
          refine zv_aload_n (j := 0) G dX6_fillJoined_36 rfl rfl ?_
          refine zv_aload_n (j := 1) G dX6_fillJoined_37 rfl rfl ?_
          refine zv_iload_n (j := 2) G dX6_fillJoined_38 rfl rfl ?_
          refine zv_iconst (v := 0) G dX6_fillJoined_39 (by decide) ?_
          refine zv_bipush (v := 100) G dX6_fillJoined_40 (by decide) ?_
          refine zv_callVv (as := [za_O 2 sw, za_I y2_6, za_I 0, za_I 100]) G (by decide) rfl rfl (zc_X6_appendPart_atx l E w sw y2_6 (0 : Int32) (100 : Int32) L _ σ (wzfl_s hd hS hz) (by omega) hz.1 (by have h9 := wzjl_len L y2_6.toInt.toNat; omega)) zk_X6_appendPart zm_517 rfl ⟨(Nat.le_of_ble_eq_true rfl), (Nat.le_of_ble_eq_true rfl)⟩ ⟨Nat.zero_le _, Nat.zero_le _⟩ (Nat.le_of_ble_eq_true rfl) dX6_fillJoined_42 (fun σ h_42 => ?_)
          have hz := wzfl_a hz h_42
          have hz : wzfl w σ0 σ (wzjl L (y2_6.toInt.toNat + 1)) := wzfl_c hz (wzjl_0 f_16).symm
          obtain ⟨x_45, e_45⟩ : ∃ y : Int32, y = y2_6 + 1 := ⟨_, rfl⟩
          refine zv_iinc (j := 2) (v := x_45) (lv' := [(2, za_I x_45), (0, za_O 2 w), (1, za_O 2 sw)]) G dX6_fillJoined_45 rfl (by rw [e_45]; rfl) (by decide) rfl ?_
          first | have q_45 := z_inc9 (by omega) e_45 | skip
          refine zv_goto (tgt := 6) G dX6_fillJoined_48 (by decide) ?_
          refine zv_sub [1, 2, 0] (lv' := [(0, za_O 2 w), (1, za_O 2 sw), (2, za_I x_45)]) rfl ?_
          exact ih_6 x_45 σ (by rw [show x_45.toInt.toNat = y2_6.toInt.toNat + 1 by omega]; exact hz) (by omega) (by have := z_inc c_11 e_45; omega) (z_meas c_11 e_45 hn_6)
        · have t_16 := h_16.2.mp c_19
          refine zv_aload_n (j := 0) G dX6_fillJoined_22 rfl rfl ?_
          refine zv_iconst (v := 3) G dX6_fillJoined_23 (by decide) ?_
          refine zv_aload_n (j := 1) G dX6_fillJoined_24 rfl rfl ?_
          refine zv_iload_n (j := 2) G dX6_fillJoined_25 rfl rfl ?_
          refine zv_iconst (v := 3) G dX6_fillJoined_26 (by decide) ?_
          refine zv_callVi (as := [za_I y2_6, za_I 3]) G (by decide) rfl rfl (zc_X6_cell_at3 l E sw y2_6 L σ (wzfl_s hd hS hz) (by omega)) zk_X6_cell zm_465 rfl ⟨(Nat.le_of_ble_eq_true rfl), (Nat.le_of_ble_eq_true rfl)⟩ ⟨Nat.zero_le _, Nat.zero_le _⟩ (Nat.le_of_ble_eq_true rfl) dX6_fillJoined_27 (fun r_27 σ h_27 => ?_)
          obtain ⟨h_27, rfl⟩ := h_27
          refine zv_callVv (as := [za_I 3, za_I r_27]) G (by decide) rfl rfl (zc_X6_changeLast_atx l E w (3 : Int32) r_27 _ σ hz.1 (by decide)) zk_X6_changeLast zm_518 rfl ⟨(Nat.le_of_ble_eq_true rfl), (Nat.le_of_ble_eq_true rfl)⟩ ⟨Nat.zero_le _, Nat.zero_le _⟩ (Nat.le_of_ble_eq_true rfl) dX6_fillJoined_30 (fun σ h_30 => ?_)
          have hz := wzfl_a hz h_30
          have hz : wzfl w σ0 σ (wzjl L (y2_6.toInt.toNat + 1)) := wzfl_c hz (by rw [h_27]; exact (wzjl_1 t_16).symm)
          refine zv_goto (tgt := 45) G dX6_fillJoined_33 (by decide) ?_
          obtain ⟨x_45, e_45⟩ : ∃ y : Int32, y = y2_6 + 1 := ⟨_, rfl⟩
          refine zv_iinc (j := 2) (v := x_45) (lv' := [(2, za_I x_45), (0, za_O 2 w), (1, za_O 2 sw)]) G dX6_fillJoined_45 rfl (by rw [e_45]; rfl) (by decide) rfl ?_
          first | have q_45 := z_inc9 (by omega) e_45 | skip
          refine zv_goto (tgt := 6) G dX6_fillJoined_48 (by decide) ?_
          refine zv_sub [1, 2, 0] (lv' := [(0, za_O 2 w), (1, za_O 2 sw), (2, za_I x_45)]) rfl ?_
          exact ih_6 x_45 σ (by rw [show x_45.toInt.toNat = y2_6.toInt.toNat + 1 by omega]; exact hz) (by omega) (by have := z_inc c_11 e_45; omega) (z_meas c_11 e_45 hn_6)
  refine zv_istore_n (lv' := [(2, za_I 0), (0, za_O 2 w), (1, za_O 2 sw)]) G dX6_fillJoined_5 rfl (by decide) rfl ?_
  refine zv_sub [1, 2, 0] (lv' := [(0, za_O 2 w), (1, za_O 2 sw), (2, za_I 0)]) rfl ?_
  exact J_6 _ (0 : Int32) σ hz (by have h0 : (0 : Int32).toInt = 0 := (by decide); omega) (by decide) (Nat.lt_succ_self _)
set_option maxHeartbeats 4000000 in
set_option maxRecDepth 100000 in
theorem zc_X6_copyOf_atx (l : Launch) (E : za_E) (w : Nat) (sw : Nat) (σ0 : za_S) (hd : wzap sw w) : zMv l E yX6_copyOf cX6_copyOf 2 (Option.none : Option Jvm.ClassFile.FieldType) 1 60 [za_O 2 w, za_O 2 sw] σ0 (fun σ' => wzfw w σ0 σ' ∧ ∀ L : List wzR, wzTb σ0 sw L → wzTb σ' w L) := by
  refine zMv_of [(0, za_O 2 w), (1, za_O 2 sw)] (by decide) rfl rfl (Nat.le_of_ble_eq_true rfl) ?_
  intro ho p e s m args below meth c G hr
  have h_w : za_kd w = 2 := za_okO (by decide) (List.forall_mem_cons.mp ho).1
  have h_sw : za_kd sw = 2 := za_okO (by decide) (List.forall_mem_cons.mp (List.forall_mem_cons.mp ho).2).1
  refine zv_aload_n (j := 1) G dX6_copyOf_0 rfl rfl ?_
  refine zg_X6_11 G dX6_copyOf_1 ?_
  refine zv_iconst (v := 0) G dX6_copyOf_4 (by decide) ?_
  refine zv_aload_n (j := 0) G dX6_copyOf_5 rfl rfl ?_
  refine zg_X6_11 G dX6_copyOf_6 ?_
  refine zv_iconst (v := 0) G dX6_copyOf_9 (by decide) ?_
  refine zv_aload_n (j := 0) G dX6_copyOf_10 rfl rfl ?_
  refine zg_X6_11 G dX6_copyOf_11 ?_
  refine zv_alen (t0 := 0) (v := 120) G (by decide) rfl rfl rfl dX6_copyOf_14 ?_
  refine zv_copy (n := 120) G zm_428 zm_430 zm_429 zm_148 (by decide) rfl rfl (fun _ => rfl) (Nat.le_of_ble_eq_true rfl) (Nat.le_of_ble_eq_true rfl) (by decide) (by decide) dX6_copyOf_15 ?_
  refine zv_aload_n (j := 0) G dX6_copyOf_18 rfl rfl ?_
  refine zv_aload_n (j := 1) G dX6_copyOf_19 rfl rfl ?_
  refine zg_X6_15 G dX6_copyOf_20 ?_
  refine zp_X6_15 G dX6_copyOf_23 ?_
  exact zv_vret G hr dX6_copyOf_26 (wzcpT hd)
set_option maxHeartbeats 4000000 in
set_option maxRecDepth 100000 in
theorem zc_X4_copyOf_atx (l : Launch) (E : za_E) (w : Nat) (sw : Nat) (σ0 : za_S) (hd : wzdj sw w) : zMv l E yX4_copyOf cX4_copyOf 2 (Option.none : Option Jvm.ClassFile.FieldType) 2 81 [za_O 1 w, za_O 1 sw] σ0 (fun σ' => wzfs w σ0 σ' ∧ (∀ P, wzSt σ0 sw P → wzSt σ' w P) ∧ σ'.1 w 2 = σ0.1 sw 2) := by
  refine zMv_of [(0, za_O 1 w), (1, za_O 1 sw)] (by decide) rfl rfl (Nat.le_of_ble_eq_true rfl) ?_
  intro ho p e s m args below meth c G hr
  have h_w : za_kd w = 1 := za_okO (by decide) (List.forall_mem_cons.mp ho).1
  have h_sw : za_kd sw = 1 := za_okO (by decide) (List.forall_mem_cons.mp (List.forall_mem_cons.mp ho).2).1
  refine zv_aload_n (j := 0) G dX4_copyOf_0 rfl rfl ?_
  refine zg_X4_12 G dX4_copyOf_1 ?_
  refine zv_aload_n (j := 1) G dX4_copyOf_4 rfl rfl ?_
  refine zg_X4_12 G dX4_copyOf_5 ?_
  refine zv_callVNv (as := [za_O 2 (sw + 1)]) G (by decide) rfl rfl (zc_X6_copyOf_atx l E (w + 1) (sw + 1) σ0 (wzap_p hd (Or.inl rfl) (Or.inl rfl))) zk_X6_copyOf zm_424 rfl ⟨(Nat.le_of_ble_eq_true rfl), (Nat.le_of_ble_eq_true rfl)⟩ ⟨Nat.zero_le _, Nat.zero_le _⟩ (Nat.le_of_ble_eq_true rfl) dX4_copyOf_8 (fun σ h_8 => ?_)
  refine zv_aload_n (j := 0) G dX4_copyOf_11 rfl rfl ?_
  refine zg_X4_18 G dX4_copyOf_12 ?_
  refine zv_aload_n (j := 1) G dX4_copyOf_15 rfl rfl ?_
  refine zg_X4_18 G dX4_copyOf_16 ?_
  refine zv_callVNv (as := [za_O 2 (sw + 3)]) G (by decide) rfl rfl (zc_X6_copyOf_atx l E (w + 3) (sw + 3) σ (wzap_p hd (Or.inr rfl) (Or.inr rfl))) zk_X6_copyOf zm_424 rfl ⟨(Nat.le_of_ble_eq_true rfl), (Nat.le_of_ble_eq_true rfl)⟩ ⟨Nat.zero_le _, Nat.zero_le _⟩ (Nat.le_of_ble_eq_true rfl) dX4_copyOf_19 (fun σ h_19 => ?_)
  refine zv_aload_n (j := 0) G dX4_copyOf_22 rfl rfl ?_
  refine zv_aload_n (j := 1) G dX4_copyOf_23 rfl rfl ?_
  refine zg_X4_25 G dX4_copyOf_24 ?_
  refine zp_X4_25 G dX4_copyOf_27 ?_
  exact zv_vret G hr dX4_copyOf_30 (wzcpS hd h_8 h_19)
set_option maxHeartbeats 4000000 in
set_option maxRecDepth 100000 in
theorem zc_X4_table_atx (l : Launch) (E : za_E) (w : Nat) (t : Int32) (σ : za_S) (ht : t = 0 ∨ t = 1) : zMr l E yX4_table cX4_table 2 (Option.some (Jvm.ClassFile.FieldType.object "PeriodTables$Table")) 1 21 [za_O 1 w, za_I t] σ (fun r σ' => ∃ w', r = za_O 2 w' ∧ za_kd w' = 2 ∧ w' = w + 1 + 2 * t.toInt.toNat ∧ σ' = σ) := by
  refine zMr_of [(0, za_O 1 w), (1, za_I t)] (by decide) rfl rfl (Nat.le_of_ble_eq_true rfl) ?_
  intro ho p e s m args below meth c G hr
  have h_w : za_kd w = 1 := za_okO (by decide) (List.forall_mem_cons.mp ho).1
  refine zv_iload_n (j := 1) G dX4_table_0 rfl rfl ?_
  refine zv_if_ne (tgt := 11) G dX4_table_1 (by decide) (fun c_1 => ?_) (fun c_1 => ?_)
  · have k_1 := z_cne c_1 (a := t.toInt) (b := 0) rfl rfl
    refine zv_aload_n (j := 0) G dX4_table_11 rfl rfl ?_
    refine zg_X4_18 G dX4_table_12 ?_
    exact zv_aret G hr dX4_table_15 (Or.inl ⟨_, rfl⟩) ⟨_, rfl, zr_1_3 h_w, (by rw [ht.resolve_left c_1]; rfl), rfl⟩
  · have k_1 := z_ceq c_1 (a := t.toInt) (b := 0) rfl rfl
    refine zv_aload_n (j := 0) G dX4_table_4 rfl rfl ?_
    refine zg_X4_12 G dX4_table_5 ?_
    refine zv_goto (tgt := 15) G dX4_table_8 (by decide) ?_
    exact zv_aret G hr dX4_table_15 (Or.inl ⟨_, rfl⟩) ⟨_, rfl, zr_1_1 h_w, (by rw [c_1]; rfl), rfl⟩
set_option maxHeartbeats 4000000 in
set_option maxRecDepth 100000 in
theorem zc_X4_isHeld_atx (l : Launch) (E : za_E) (w : Nat) (A : List wzR) (B : List wzR) (σ : za_S) (hA : wzTb σ (w + 1) A) (hB : wzTb σ (w + 3) B) (hOA : wzOk A) (hOB : wzOk B) : zMi l E yX4_isHeld cX4_isHeld 5 (Option.some Jvm.ClassFile.FieldType.boolean) 5 112 [za_O 1 w] σ (fun r σ' => ((r = 0 ∨ r = 1) ∧ (¬ r = 0 ↔ ∀ i, i < A.length → wzhr B (wzg A i))) ∧ σ' = σ) := by
  refine zMi_of [(0, za_O 1 w)] (by decide) rfl rfl (Nat.le_of_ble_eq_true rfl) ?_
  intro ho p e s m args below meth c G hr
  have h_w : za_kd w = 1 := za_okO (by decide) (List.forall_mem_cons.mp ho).1
  have hn9 := hA.1
  have hb9 := hA.2.1
  refine zv_iconst (v := 1) G dX4_isHeld_0 (by decide) ?_
  refine zv_istore_n (lv' := [(1, za_I 1), (0, za_O 1 w)]) G dX4_isHeld_1 rfl (by decide) rfl ?_
  refine zv_iconst (v := 0) G dX4_isHeld_2 (by decide) ?_
  have J_4 : ∀ (n : Nat) (y1_4 : Int32) (y2_4 : Int32) (g_4 : y2_4.toInt ≤ A.length) (a_4 : ¬ y1_4 = 0 ↔ ∀ i, i < y2_4.toInt.toNat → wzhr B (wzg A i)) (b1_4 : y1_4 = 0 ∨ y1_4 = 1) (i2_4 : 0 ≤ y2_4.toInt) (hn_4 : (2147483648 - y2_4.toInt).toNat < n), zV p l e (zRm 5 112) s m args below meth c E (za_A E) 5 0 0 (MQ below (va_Qi (fun r σ' => ((r = 0 ∨ r = 1) ∧ (¬ r = 0 ↔ ∀ i, i < A.length → wzhr B (wzg A i))) ∧ σ' = σ) (zB E) (za_A E)) args s 0 0 (za_A E)) 4 [(0, za_O 1 w), (1, za_I y1_4), (2, za_I y2_4)] [] σ := by
    intro n
    induction n with
    | zero => intro y1_4 y2_4 g_4 a_4 b1_4 i2_4 hn; exact absurd hn (Nat.not_lt_zero _)
    | succ n ih_4 =>
      intro y1_4 y2_4 g_4 a_4 b1_4 i2_4 hn_4
      refine zv_iload_n (j := 2) G dX4_isHeld_4 rfl rfl ?_
      refine zv_aload_n (j := 0) G dX4_isHeld_5 rfl rfl ?_
      refine zg_X4_12 G dX4_isHeld_6 ?_
      refine zg_X4_29 G dX4_isHeld_9 ?_
      refine zv_icmp_ge (tgt := 88) G dX4_isHeld_12 (by decide) (fun c_12 => ?_) (fun c_12 => ?_)
      · have k_12 := z_cle c_12 (a := (σ.1 (w + 1) 1).toInt) (b := y2_4.toInt) rfl rfl
        refine zv_iload_n (j := 1) G dX4_isHeld_88 rfl rfl ?_
        exact zv_zret G hr dX4_isHeld_89 (z_nar b1_4) ⟨⟨b1_4, by rw [a_4, show A.length = y2_4.toInt.toNat by omega]⟩, rfl⟩
      · have k_12 := z_cnle c_12 (a := (σ.1 (w + 1) 1).toInt) (b := y2_4.toInt) rfl rfl
        refine zv_aload_n (j := 0) G dX4_isHeld_15 rfl rfl ?_
        refine zg_X4_12 G dX4_isHeld_16 ?_
        refine zv_iload_n (j := 2) G dX4_isHeld_19 rfl rfl ?_
        refine zv_iconst (v := 4) G dX4_isHeld_20 (by decide) ?_
        refine zv_callVNi (as := [za_I y2_4, za_I 4]) G (by decide) rfl rfl (zc_X6_cell_at4 l E (w + 1) y2_4 A σ (by first | assumption | decide | omega) (by first | assumption | decide | omega)) zk_X6_cell zm_551 rfl ⟨(Nat.le_of_ble_eq_true rfl), (Nat.le_of_ble_eq_true rfl)⟩ ⟨Nat.zero_le _, Nat.zero_le _⟩ (Nat.le_of_ble_eq_true rfl) dX4_isHeld_21 (fun r_21 σ h_21 => ?_)
        obtain ⟨h_21, rfl⟩ := h_21
        refine zv_istore_n (lv' := [(3, za_I r_21), (0, za_O 1 w), (1, za_I y1_4), (2, za_I y2_4)]) G dX4_isHeld_24 rfl (by decide) rfl ?_
        refine zv_aload_n (j := 1) G dX4_isHeld_25 rfl rfl ?_
        refine zg_X4_18 G dX4_isHeld_26 ?_
        refine zv_iload_n (j := 0) G dX4_isHeld_29 rfl rfl ?_
        refine zv_aload_n (j := 1) G dX4_isHeld_30 rfl rfl ?_
        refine zg_X4_12 G dX4_isHeld_31 ?_
        refine zv_iload_n (j := 3) G dX4_isHeld_34 rfl rfl ?_
        refine zv_iconst (v := 2) G dX4_isHeld_35 (by decide) ?_
        refine zv_callVNi (as := [za_I y2_4, za_I 2]) G (by decide) rfl rfl (zc_X6_cell_at2 l E (w + 1) y2_4 A σ (by first | assumption | decide | omega) (by first | assumption | decide | omega)) zk_X6_cell zm_551 rfl ⟨(Nat.le_of_ble_eq_true rfl), (Nat.le_of_ble_eq_true rfl)⟩ ⟨Nat.zero_le _, Nat.zero_le _⟩ (Nat.le_of_ble_eq_true rfl) dX4_isHeld_36 (fun r_36 σ h_36 => ?_)
        obtain ⟨h_36, rfl⟩ := h_36
        refine zv_aload_n (j := 1) G dX4_isHeld_39 rfl rfl ?_
        refine zg_X4_12 G dX4_isHeld_40 ?_
        refine zv_iload_n (j := 3) G dX4_isHeld_43 rfl rfl ?_
        refine zv_iconst (v := 3) G dX4_isHeld_44 (by decide) ?_
        refine zv_callVNi (as := [za_I y2_4, za_I 3]) G (by decide) rfl rfl (zc_X6_cell_at3 l E (w + 1) y2_4 A σ (by first | assumption | decide | omega) (by first | assumption | decide | omega)) zk_X6_cell zm_551 rfl ⟨(Nat.le_of_ble_eq_true rfl), (Nat.le_of_ble_eq_true rfl)⟩ ⟨Nat.zero_le _, Nat.zero_le _⟩ (Nat.le_of_ble_eq_true rfl) dX4_isHeld_45 (fun r_45 σ h_45 => ?_)
        obtain ⟨h_45, rfl⟩ := h_45
        refine zv_callVNi (as := [za_I r_21, za_I r_36, za_I r_45]) G (by decide) rfl rfl (zc_X6_daysWithin_atx l E (w + 3) r_21 r_36 r_45 B σ hB hOB (by have o2 := wzg_ok hOA y2_4.toInt.toNat 2; have o3 := wzg_ok hOA y2_4.toInt.toNat 3; omega)) zk_X6_daysWithin zm_552 rfl ⟨(Nat.le_of_ble_eq_true rfl), (Nat.le_of_ble_eq_true rfl)⟩ ⟨Nat.zero_le _, Nat.zero_le _⟩ (Nat.le_of_ble_eq_true rfl) dX4_isHeld_48 (fun r_48 σ h_48 => ?_)
        obtain ⟨h_48, rfl⟩ := h_48
        refine zv_istore (lv' := [(4, za_I r_48), (3, za_I r_21), (0, za_O 1 w), (1, za_I y1_4), (2, za_I y2_4)]) G dX4_isHeld_51 (by decide) rfl ?_
        refine zv_iload_n (j := 3) G dX4_isHeld_53 rfl rfl ?_
        refine zv_if_eq (tgt := 80) G dX4_isHeld_54 (by decide) (fun c_54 => ?_) (fun c_54 => ?_)
        · have k_54 := z_ceq c_54 (a := y1_4.toInt) (b := 0) rfl rfl
          refine zv_iconst (v := 0) G dX4_isHeld_80 (by decide) ?_
          refine zv_istore_n (lv' := [(1, za_I 0), (4, za_I r_48), (3, za_I r_21), (0, za_O 1 w), (2, za_I y2_4)]) G dX4_isHeld_81 rfl (by decide) rfl ?_
          obtain ⟨x_82, e_82⟩ : ∃ y : Int32, y = y2_4 + 1 := ⟨_, rfl⟩
          refine zv_iinc (j := 4) (v := x_82) (lv' := [(2, za_I x_82), (1, za_I 0), (4, za_I r_48), (3, za_I r_21), (0, za_O 1 w)]) G dX4_isHeld_82 rfl (by rw [e_82]; rfl) (by decide) rfl ?_
          first | have q_82 := z_inc9 (by omega) e_82 | skip
          refine zv_goto (tgt := 4) G dX4_isHeld_85 (by decide) ?_
          refine zv_sub [4, 1, 0] (lv' := [(0, za_O 1 w), (1, za_I 0), (2, za_I x_82)]) rfl ?_
          exact ih_4 (0 : Int32) x_82 (by omega) (by rw [show x_82.toInt.toNat = y2_4.toInt.toNat + 1 by omega]; first | exact wzih_1 (a_4.mp c_54) (Or.inl (by omega)) | exact wzih_1 (a_4.mp c_54) (Or.inr (by rw [← h_21, ← h_36, ← h_45]; omega)) | exact wzih_2 a_4 c_54 | exact wzih_3 (fun q => by rcases q with q | q; omega; (rw [← h_21, ← h_36, ← h_45] at q; omega))) (Or.inl rfl) (by have := z_inc c_12 e_82; omega) (z_meas c_12 e_82 hn_4)
        · have k_54 := z_cne c_54 (a := y1_4.toInt) (b := 0) rfl rfl
          refine zv_iload_n (j := 1) G dX4_isHeld_57 rfl rfl ?_
          refine zv_bipush (v := 10) G dX4_isHeld_58 (by decide) ?_
          refine zv_icmp_eq (tgt := 76) G dX4_isHeld_60 (by decide) (fun c_60 => ?_) (fun c_60 => ?_)
          · have k_60 := z_ceq c_60 (a := r_21.toInt) (b := 10) rfl rfl
            refine zv_iconst (v := 1) G dX4_isHeld_76 (by decide) ?_
            refine zv_goto (tgt := 81) G dX4_isHeld_77 (by decide) ?_
            refine zv_istore_n (lv' := [(1, za_I 1), (4, za_I r_48), (3, za_I r_21), (0, za_O 1 w), (2, za_I y2_4)]) G dX4_isHeld_81 rfl (by decide) rfl ?_
            obtain ⟨x_82, e_82⟩ : ∃ y : Int32, y = y2_4 + 1 := ⟨_, rfl⟩
            refine zv_iinc (j := 4) (v := x_82) (lv' := [(2, za_I x_82), (1, za_I 1), (4, za_I r_48), (3, za_I r_21), (0, za_O 1 w)]) G dX4_isHeld_82 rfl (by rw [e_82]; rfl) (by decide) rfl ?_
            first | have q_82 := z_inc9 (by omega) e_82 | skip
            refine zv_goto (tgt := 4) G dX4_isHeld_85 (by decide) ?_
            refine zv_sub [4, 1, 0] (lv' := [(0, za_O 1 w), (1, za_I 1), (2, za_I x_82)]) rfl ?_
            exact ih_4 (1 : Int32) x_82 (by omega) (by rw [show x_82.toInt.toNat = y2_4.toInt.toNat + 1 by omega]; first | exact wzih_1 (a_4.mp c_54) (Or.inl (by omega)) | exact wzih_1 (a_4.mp c_54) (Or.inr (by rw [← h_21, ← h_36, ← h_45]; omega)) | exact wzih_2 a_4 c_54 | exact wzih_3 (fun q => by rcases q with q | q; omega; (rw [← h_21, ← h_36, ← h_45] at q; omega))) (Or.inr rfl) (by have := z_inc c_12 e_82; omega) (z_meas c_12 e_82 hn_4)
          · have k_60 := z_cne c_60 (a := r_21.toInt) (b := 10) rfl rfl
            refine zv_iload (j := 0) G dX4_isHeld_63 rfl ?_
            refine zv_aload_n (j := 2) G dX4_isHeld_65 rfl rfl ?_
            refine zg_X4_12 G dX4_isHeld_66 ?_
            refine zv_iload_n (j := 4) G dX4_isHeld_69 rfl rfl ?_
            refine zv_callVNi (as := [za_I y2_4]) G (by decide) rfl rfl (zc_X6_daysOfRow_atx l E (w + 1) y2_4 A σ hA hOA (by omega)) zk_X6_daysOfRow zm_556 rfl ⟨(Nat.le_of_ble_eq_true rfl), (Nat.le_of_ble_eq_true rfl)⟩ ⟨Nat.zero_le _, Nat.zero_le _⟩ (Nat.le_of_ble_eq_true rfl) dX4_isHeld_70 (fun r_70 σ h_70 => ?_)
            obtain ⟨h_70, rfl⟩ := h_70
            refine zv_icmp_ne (tgt := 80) G dX4_isHeld_73 (by decide) (fun c_73 => ?_) (fun c_73 => ?_)
            · have k_73 := z_cne c_73 (a := r_48.toInt) (b := r_70.toInt) rfl rfl
              refine zv_iconst (v := 0) G dX4_isHeld_80 (by decide) ?_
              refine zv_istore_n (lv' := [(1, za_I 0), (4, za_I r_48), (3, za_I r_21), (0, za_O 1 w), (2, za_I y2_4)]) G dX4_isHeld_81 rfl (by decide) rfl ?_
              obtain ⟨x_82, e_82⟩ : ∃ y : Int32, y = y2_4 + 1 := ⟨_, rfl⟩
              refine zv_iinc (j := 4) (v := x_82) (lv' := [(2, za_I x_82), (1, za_I 0), (4, za_I r_48), (3, za_I r_21), (0, za_O 1 w)]) G dX4_isHeld_82 rfl (by rw [e_82]; rfl) (by decide) rfl ?_
              first | have q_82 := z_inc9 (by omega) e_82 | skip
              refine zv_goto (tgt := 4) G dX4_isHeld_85 (by decide) ?_
              refine zv_sub [4, 1, 0] (lv' := [(0, za_O 1 w), (1, za_I 0), (2, za_I x_82)]) rfl ?_
              exact ih_4 (0 : Int32) x_82 (by omega) (by rw [show x_82.toInt.toNat = y2_4.toInt.toNat + 1 by omega]; first | exact wzih_1 (a_4.mp c_54) (Or.inl (by omega)) | exact wzih_1 (a_4.mp c_54) (Or.inr (by rw [← h_21, ← h_36, ← h_45]; omega)) | exact wzih_2 a_4 c_54 | exact wzih_3 (fun q => by rcases q with q | q; omega; (rw [← h_21, ← h_36, ← h_45] at q; omega))) (Or.inl rfl) (by have := z_inc c_12 e_82; omega) (z_meas c_12 e_82 hn_4)
            · have k_73 := z_ceq c_73 (a := r_48.toInt) (b := r_70.toInt) rfl rfl
              refine zv_iconst (v := 1) G dX4_isHeld_76 (by decide) ?_
              refine zv_goto (tgt := 81) G dX4_isHeld_77 (by decide) ?_
              refine zv_istore_n (lv' := [(1, za_I 1), (4, za_I r_48), (3, za_I r_21), (0, za_O 1 w), (2, za_I y2_4)]) G dX4_isHeld_81 rfl (by decide) rfl ?_
              obtain ⟨x_82, e_82⟩ : ∃ y : Int32, y = y2_4 + 1 := ⟨_, rfl⟩
              refine zv_iinc (j := 4) (v := x_82) (lv' := [(2, za_I x_82), (1, za_I 1), (4, za_I r_48), (3, za_I r_21), (0, za_O 1 w)]) G dX4_isHeld_82 rfl (by rw [e_82]; rfl) (by decide) rfl ?_
              first | have q_82 := z_inc9 (by omega) e_82 | skip
              refine zv_goto (tgt := 4) G dX4_isHeld_85 (by decide) ?_
              refine zv_sub [4, 1, 0] (lv' := [(0, za_O 1 w), (1, za_I 1), (2, za_I x_82)]) rfl ?_
              exact ih_4 (1 : Int32) x_82 (by omega) (by rw [show x_82.toInt.toNat = y2_4.toInt.toNat + 1 by omega]; first | exact wzih_1 (a_4.mp c_54) (Or.inl (by omega)) | exact wzih_1 (a_4.mp c_54) (Or.inr (by rw [← h_21, ← h_36, ← h_45]; omega)) | exact wzih_2 a_4 c_54 | exact wzih_3 (fun q => by rcases q with q | q; omega; (rw [← h_21, ← h_36, ← h_45] at q; omega))) (Or.inr rfl) (by have := z_inc c_12 e_82; omega) (z_meas c_12 e_82 hn_4)
  refine zv_istore_n (lv' := [(2, za_I 0), (1, za_I 1), (0, za_O 1 w)]) G dX4_isHeld_3 rfl (by decide) rfl ?_
  refine zv_sub [2, 1, 0] (lv' := [(0, za_O 1 w), (1, za_I 1), (2, za_I 0)]) rfl ?_
  exact J_4 _ (1 : Int32) (0 : Int32) (by have h0 : (0 : Int32).toInt = 0 := (by decide); omega) ⟨fun _ i h => absurd h (Nat.not_lt_zero i), fun _ => by decide⟩ (Or.inr rfl) (by decide) (Nat.lt_succ_self _)
