/-! ===== the class's acts ===== -/
def wztl (σ0 σ : za_S) : Prop := (∀ w, w ≠ 81 → σ.1 w = σ0.1 w) ∧ ∀ w, w ≠ 82 → σ.2 w = σ0.2 w
theorem wztl_r (σ : za_S) : wztl σ σ := ⟨fun _ _ => rfl, fun _ _ => rfl⟩
theorem wztl_t {a b d : za_S} (h : wztl a b) (k : wztl b d) : wztl a d := ⟨fun w hw => (k.1 w hw).trans (h.1 w hw), fun w hw => (k.2 w hw).trans (h.2 w hw)⟩
theorem wztl_a {σ0 σ : za_S} {j : Nat} {x : Int32} (h : wztl σ0 σ) : wztl σ0 (za_si σ 81 j x) := ⟨fun w hw => by rw [(za_si_off w hw).1]; exact h.1 w hw, h.2⟩
theorem wztl_b {σ0 σ : za_S} {j : Nat} {x : Int64} (h : wztl σ0 σ) : wztl σ0 (za_sl σ 82 j x) := ⟨h.1, fun w hw => by rw [(za_sl_off w hw).2]; exact h.2 w hw⟩
def wzlc (w n : Nat) (σ0 σ : za_S) : Prop := wzfw w σ0 σ ∧ ∀ d, d < n → σ.1 (w + 1) d = 0
theorem wzlc_0 (w : Nat) (σ : za_S) : wzlc w 0 σ σ := ⟨wzfw_r w σ, fun d h => absurd h (Nat.not_lt_zero d)⟩
theorem wzlc_s {w n : Nat} {σ0 σ : za_S} (h : wzlc w n σ0 σ) : wzlc w (n + 1) σ0 (za_si σ (w + 1) n 0) := by
  refine ⟨wzfw_s1 h.1, fun d hd => ?_⟩
  rw [wzsi_at]
  split
  · rfl
  · exact h.2 d (by omega)
/-- days from a to n have one more -/
def wzla9 (w : Nat) (a n : Int) (σ0 σ : za_S) : Prop := wzfw w σ0 σ ∧ ∀ d : Nat, d < 100 → σ.1 (w + 1) d = if a ≤ (d : Int) ∧ (d : Int) < n then σ0.1 (w + 1) d + 1 else σ0.1 (w + 1) d
theorem wzla9_0 {w : Nat} {a n : Int} {σ : za_S} (h : n ≤ a) : wzla9 w a n σ σ := ⟨wzfw_r w σ, fun d _ => by rw [if_neg (by omega)]⟩
theorem wzla9_s {w : Nat} {a : Int} {n : Nat} {σ0 σ : za_S} (h : wzla9 w a n σ0 σ) (ha : a ≤ n) (hn : n < 100) : wzla9 w a ((n : Int) + 1) σ0 (za_si σ (w + 1) n (σ.1 (w + 1) n + 1)) := by
  refine ⟨wzfw_s1 h.1, fun d hd => ?_⟩
  rw [wzsi_at]
  by_cases c : d = n
  · rw [if_pos c, if_pos (by omega), c]
    have h1 := h.2 n hn
    rw [if_neg (by omega)] at h1
    rw [h1]
  · rw [if_neg c, h.2 d hd]
    by_cases c2 : a ≤ (d : Int) ∧ (d : Int) < n
    · rw [if_pos c2, if_pos (by omega)]
    · rw [if_neg c2, if_neg (by omega)]
theorem wzla9_e {w : Nat} {a n m : Int} {σ0 σ : za_S} (h : wzla9 w a n σ0 σ) (e : ∀ d : Int, 0 ≤ d → d < 100 → a ≤ d → (d < n ↔ d < m)) : wzla9 w a m σ0 σ := by
  refine ⟨h.1, fun d hd => ?_⟩
  rw [h.2 d hd]
  have h1 := e d (by omega) (by omega)
  by_cases c : a ≤ (d : Int) ∧ (d : Int) < n
  · rw [if_pos c, if_pos ⟨c.1, (h1 c.1).mp c.2⟩]
  · rw [if_neg c, if_neg (fun q => c ⟨q.1, (h1 q.1).mpr q.2⟩)]
def wzlr (w : Nat) (B : List wzR) (k : Int) (n : Nat) (σ0 σ : za_S) : Prop := wzfw w σ0 σ ∧ ∀ d : Nat, d < 100 → (σ.1 (w + 1) d).toInt = wzsm (wzln B k d) n
theorem wzlr_y {w n : Nat} {B : List wzR} {k : Int} {σ0 σ σ' : za_S} (h : wzlr w B k n σ0 σ) (hn : n < 100000) (hk : wzcm 0 (wzg B n) = k) (h2 : wzla9 w (wzcm 2 (wzg B n)) (wzcm 3 (wzg B n)) σ σ') : wzlr w B k (n + 1) σ0 σ' := by
  refine ⟨wzfw_t h.1 h2.1, fun d hd => ?_⟩
  have h3 := h2.2 d hd
  have h4 := h.2 d hd
  have h5 := wzsm_b (wzln_b B k d) n
  by_cases c : wzcm 2 (wzg B n) ≤ (d : Int) ∧ (d : Int) < wzcm 3 (wzg B n)
  · rw [if_pos c] at h3
    rw [h3, z_add (by rw [z_one]; omega) (by rw [z_one]; omega), z_one, h4]
    exact wzsm_s rfl rfl (wzln_1 hk c.1 c.2)
  · rw [if_neg c] at h3
    rw [h3, h4]
    exact wzsm_s rfl (v := 0) (by omega) (wzln_0 (fun q => c q.2))
theorem wzlr_n {w n : Nat} {B : List wzR} {k : Int} {σ0 σ : za_S} (h : wzlr w B k n σ0 σ) (hk : ¬ wzcm 0 (wzg B n) = k) : wzlr w B k (n + 1) σ0 σ := ⟨h.1, fun d hd => wzsm_s (h.2 d hd) (v := 0) (by omega) (wzln_0 (fun q => hk q.1))⟩
theorem wzlr_0 {w : Nat} {B : List wzR} {k : Int} {σ : za_S} (h : ∀ d : Nat, d < 100 → σ.1 (w + 1) d = 0) : wzlr w B k 0 σ σ := ⟨wzfw_r w σ, fun d hd => by rw [h d hd]; rfl⟩
/-! acts -/
/-- what is now: its tables, way 0, few rows, numbers in range -/
def wzNw (σ : za_S) (P : List wzR × List wzR) : Prop := wzSt σ 1 P ∧ σ.1 1 2 = 0 ∧ (wzVs P.1 ∧ wzVs P.2) ∧ P.1.length ≤ 20 ∧ P.2.length ≤ 20
def wzfz (σ0 σ : za_S) : Prop := (∀ w, 93 ≤ w → σ.1 w = σ0.1 w ∧ σ.2 w = σ0.2 w) ∧ σ.1 0 = σ0.1 0
theorem wzfz_r (σ : za_S) : wzfz σ σ := ⟨fun _ _ => ⟨rfl, rfl⟩, rfl⟩
theorem wzfz_t {a b d : za_S} (h : wzfz a b) (k : wzfz b d) : wzfz a d := ⟨fun w hw => ⟨((k.1 w hw).1).trans (h.1 w hw).1, ((k.1 w hw).2).trans (h.1 w hw).2⟩, k.2.trans h.2⟩
theorem wzfz_s {a b : za_S} {n : Nat} (h : wzfs n a b) (h1 : 0 < n) (h2 : n + 4 < 93) : wzfz a b := ⟨fun w hw => ⟨h.1 w (by omega), by rw [h.2]⟩, h.1 0 (by omega)⟩
theorem wzfz_w {a b : za_S} {n : Nat} (h : wzfw n a b) (h1 : 0 < n) (h2 : n + 1 < 93) : wzfz a b := ⟨fun w hw => ⟨h.1 w (by omega) (by omega), by rw [h.2]⟩, h.1 0 (by omega) (by omega)⟩
theorem wzsl_v {P : List wzR × List wzR} (h : wzVs P.1 ∧ wzVs P.2) (t : Int) : wzVs (wzsl P t) := by
  unfold wzsl
  split
  · exact h.1
  · exact h.2
theorem wzsl_20 {P : List wzR × List wzR} (h : P.1.length ≤ 20 ∧ P.2.length ≤ 20) (t : Int) : (wzsl P t).length ≤ 20 := by
  unfold wzsl
  split
  · exact h.1
  · exact h.2
def wzdq (P : wzP) (σ0 σ : za_S) : Prop := wzfz σ0 σ ∧ wzSt σ 1 P ∧ σ.1 1 2 = 0
def wzdr (P D : wzP) (σ0 σ : za_S) : Prop := wzdq P σ0 σ ∧ wzSt σ 6 D ∧ σ.1 6 2 = 0
def wzdn (P D : wzP) (σ0 σ : za_S) : Prop := wzfz σ0 σ ∧ ∃ P', wzCtk P D P' ∧ wzSt σ 1 P' ∧ σ.1 1 2 = 0
def wzpo (C : wzP → wzP → Prop) (P : wzP) (σ0 σ : za_S) : Prop := wzfz σ0 σ ∧ ∃ P', C P P' ∧ wzNw σ P'
theorem wzdq_0 {P : wzP} {σ : za_S} (h : wzNw σ P) : wzdq P σ σ := ⟨wzfz_r σ, h.1, h.2.1⟩
theorem wzSt_s {σ σ' : za_S} {b n : Nat} {P : wzP} (h : wzSt σ b P) (k : wzfs n σ σ') (hd : b + 4 < n ∨ n + 4 < b) : wzSt σ' b P := wzSt_e h (fun w h1 h2 => k.1 w (by omega))
theorem wzSt_w {σ σ' : za_S} {b n : Nat} {P : wzP} (h : wzSt σ b P) (k : wzfw n σ σ') (hd : b + 4 < n ∨ n + 1 ≤ b) : wzSt σ' b P := wzSt_e h (fun w h1 h2 => k.1 w (by omega) (by omega))
theorem wzdr_0 {P : wzP} {σ0 σ σ' : za_S} (h : wzdq P σ0 σ) (k : wzfs 6 σ σ' ∧ (∀ P, wzSt σ 1 P → wzSt σ' 6 P) ∧ σ'.1 6 2 = σ.1 1 2) : wzdr P P σ0 σ' :=
  ⟨⟨wzfz_t h.1 (wzfz_s k.1 (by decide) (by decide)), wzSt_s h.2.1 k.1 (Or.inl (by decide)), by rw [k.1.1 1 (Or.inl (by decide))]; exact h.2.2⟩, k.2.1 P h.2.1, by rw [k.2.2]; exact h.2.2⟩
theorem wzdr_w {P D : wzP} {σ0 σ σ' : za_S} {w : Nat} {X : List wzR} {t : Int32} (h : wzdr P D σ0 σ) (ht : t = 0 ∨ t = 1) (e : w = 6 + 1 + 2 * t.toInt.toNat) (k : wzTb σ' w X) (f : wzfw w σ σ') : wzdr P (wzpu D t.toInt X) σ0 σ' := by
  have h1 := wzt01 ht
  refine ⟨⟨wzfz_t h.1.1 (wzfz_w f (by omega) (by omega)), wzSt_w h.1.2.1 f (by omega), ?_⟩, wzSt_p h.2.1 ht e k f, ?_⟩
  · rw [f.1 1 (by omega) (by omega)]; exact h.1.2.2
  · rw [f.1 6 (by omega) (by omega)]; exact h.2.2
theorem wzdr_f {P D : wzP} {σ0 σ σ' : za_S} {w : Nat} {X : List wzR} {t : Int32} (h : wzdr P D σ0 σ) (ht : t = 0 ∨ t = 1) (e : w = 6 + 1 + 2 * t.toInt.toNat) (k : wzfl w σ σ' X) : wzdr P (wzpu D t.toInt X) σ0 σ' := wzdr_w h ht e k.1 k.2
theorem wzdr_t {P D : wzP} {σ0 σ σ' : za_S} {r a : Int32} (h : wzdr P D σ0 σ) (k : ((D.1.length ≤ 20 ∧ D.2.length ≤ 20) ∧ r = a ∧ wzfs 1 σ σ' ∧ wzSt σ' 1 D ∧ σ'.1 1 2 = σ.1 6 2) ∨ (¬ (D.1.length ≤ 20 ∧ D.2.length ≤ 20) ∧ r = -9 ∧ σ' = σ)) : wzdn P D σ0 σ' := by
  rcases k with ⟨k1, -, k2, k3, k4⟩ | ⟨k1, -, k2⟩
  · exact ⟨wzfz_t h.1.1 (wzfz_s k2 (by decide) (by decide)), D, ⟨fun _ => rfl, fun q => absurd k1 q⟩, k3, by rw [k4]; exact h.2.2⟩
  · rw [k2]
    exact ⟨h.1.1, P, ⟨fun q => absurd q k1, fun _ => rfl⟩, h.1.2.1, h.1.2.2⟩
theorem wzdn_l {P D : wzP} {σ0 σ σ' : za_S} (h : wzdn P D σ0 σ) (k : wztl σ σ') : wzdn P D σ0 σ' := by
  obtain ⟨h1, P', h2, h3, h4⟩ := h
  refine ⟨wzfz_t h1 ⟨fun w hw => ⟨k.1 w (by omega), k.2 w (by omega)⟩, k.1 0 (by decide)⟩, P', h2, wzSt_e h3 (fun w a1 a2 => k.1 w (by omega)), by rw [k.1 1 (by decide)]; exact h4⟩
theorem wzdn_f {P D : wzP} {σ0 σ : za_S} (hN : wzNw σ0 P) (hO : wzVs D.1 ∧ wzVs D.2) (h : wzdn P D σ0 σ) : wzpo (fun P P' => wzCtk P D P') P σ0 σ := by
  obtain ⟨h1, P', h2, h3, h4⟩ := h
  refine ⟨h1, P', h2, h3, h4, ?_⟩
  by_cases c : D.1.length ≤ 20 ∧ D.2.length ≤ 20
  · rw [h2.1 c]; exact ⟨hO, c⟩
  · rw [h2.2 c]; exact hN.2.2
theorem wzpo_m {C C' : wzP → wzP → Prop} {P : wzP} {σ0 σ : za_S} (h : wzpo C P σ0 σ) (k : ∀ P', C P P' → C' P P') : wzpo C' P σ0 σ := ⟨h.1, h.2.elim fun P' q => ⟨P', k P' q.1, q.2⟩⟩
theorem wzpo_n {C : wzP → wzP → Prop} {P : wzP} {σ0 σ : za_S} (hN : wzNw σ0 P) (h : wzdq P σ0 σ) (k : C P P) : wzpo C P σ0 σ := ⟨h.1, P, k, h.2.1, h.2.2, hN.2.2⟩
theorem wzpu_v {P : wzP} {t : Int} {X : List wzR} (h : wzVs P.1 ∧ wzVs P.2) (k : wzVs X) : wzVs (wzpu P t X).1 ∧ wzVs (wzpu P t X).2 := by
  unfold wzpu
  split
  · exact ⟨k, h.2⟩
  · exact ⟨h.1, k⟩
def wzCadd (t k v a b : Int) (P P' : wzP) : Prop := (¬ wzno (wzsl P t) k a b ∧ P' = P) ∨ (wzno (wzsl P t) k a b ∧ ∃ n : Nat, n ≤ (wzsl P t).length ∧ (n : Int) = wzsm (wznf (wzsl P t) k a) (wzsl P t).length ∧ wzCtk P (wzpu P t (wzin9 (wzsl P t) n (k, v, a, b, 10) (wzsl P t).length)) P')
def wzCset (t k : Int) (j : Nat) (v a b : Int) (P P' : wzP) : Prop := (wzno (wzsl P t) k a b ∧ P' = P) ∨ (¬ wzno (wzsl P t) k a b ∧ wzCtk P (wzpu P t ((wzsl P t).flatMap (wzfc k a b j v))) P')
def wzCref (k v a b : Int) (P P' : wzP) : Prop := (wzno P.1 k a b ∧ P' = P) ∨ (¬ wzno P.1 k a b ∧ ((¬ wzhd (P.1.flatMap (wzfc k a b 4 v), P.2) ∧ P' = P) ∨ (wzhd (P.1.flatMap (wzfc k a b 4 v), P.2) ∧ wzCtk P (P.1.flatMap (wzfc k a b 4 v), P.2) P')))
def wzCcut (t k a b : Int) (P P' : wzP) : Prop := (wzno (wzsl P t) k a b ∧ P' = P) ∨ (¬ wzno (wzsl P t) k a b ∧ ((t = 0 ∧ wzCtk P (P.1.flatMap (wzfk k a b), P.2) P') ∨ (t = 1 ∧ ((¬ wzhd (P.1, P.2.flatMap (wzfk k a b)) ∧ P' = P) ∨ (wzhd (P.1, P.2.flatMap (wzfk k a b)) ∧ wzCtk P (P.1.flatMap (fun r => wzpt r 0 100), P.2.flatMap (wzfk k a b)) P')))))
def wzCjoin (t : Int) (P P' : wzP) : Prop := wzCtk P (wzpu P t (wzjl (wzsl P t) (wzsl P t).length)) P'
theorem wzal_no {L : List wzR} {k a b c : Int} (h : wzal (fun i => wztc (wzg L i) k a b) c L.length) (e : c = 0) : wzno L k a b := fun i hi => h.mp e i hi
theorem wzal_yes {L : List wzR} {k a b c : Int} (h : wzal (fun i => wztc (wzg L i) k a b) c L.length) (e : ¬ c = 0) : ¬ wzno L k a b := fun q => e (h.mpr q)
theorem wzsl_pu (P : wzP) (t : Int) (X : List wzR) : wzsl (wzpu P t X) t = X := by
  unfold wzsl wzpu
  split <;> rfl
theorem wzpu_pu (P : wzP) (t : Int) (X Y : List wzR) : wzpu (wzpu P t X) t Y = wzpu P t Y := by
  unfold wzpu
  split <;> rfl
theorem wzSt_x {P : wzP} {X : List wzR} {σ0 σ : za_S} {w : Nat} {t : Int32} (hz : wzdr P (wzpu P t.toInt X) σ0 σ) (ht : t = 0 ∨ t = 1) (e : w = 6 + 1 + 2 * t.toInt.toNat) : wzTb σ w X := by
  have h := wzSt_t hz.2.1 ht e
  rw [wzsl_pu] at h
  exact h
theorem wzpd9 {t : Int32} {s w : Nat} (ht : t = 0 ∨ t = 1) (e1 : s = 1 + 1 + 2 * t.toInt.toNat) (e2 : w = 6 + 1 + 2 * t.toInt.toNat) : wzap s w := by
  have h := wzt01 ht
  refine ⟨?_, ?_, ?_⟩ <;> omega
theorem wzdr_p {P : wzP} {X Y : List wzR} {σ0 σ σ' : za_S} {w : Nat} {t : Int32} (hz : wzdr P (wzpu P t.toInt X) σ0 σ) (ht : t = 0 ∨ t = 1) (e : w = 6 + 1 + 2 * t.toInt.toNat) (h : wzTb σ' w Y ∧ wzfw w σ σ') : wzdr P (wzpu P t.toInt Y) σ0 σ' := by
  have h1 := wzdr_w hz ht e h.1 h.2
  rw [wzpu_pu] at h1
  exact h1
theorem wzTb_tk {σ : za_S} {w : Nat} {L : List wzR} {r : Int32} (h : wzTb σ w L) (hr : 0 ≤ r.toInt ∧ r.toInt ≤ L.length) : wzTb (za_si σ w 1 r) w (L.take r.toInt.toNat) := by
  have h1 : (L.take r.toInt.toNat).length = r.toInt.toNat := by
    rw [List.length_take]
    omega
  refine ⟨?_, ?_, fun i hi h9 j hj => ?_⟩
  · rw [za_si_same, h1]
    omega
  · have := h.2.1
    omega
  · rw [za_si_ne _ _ (Or.inl (by omega)), h.2.2 i (by omega) h9 j hj, wzg_in hi h9, wzg_in (by omega) h9, List.getElem_take]
theorem wzad_0 {P : wzP} {σ0 σ : za_S} {w : Nat} {t r : Int32} (hz : wzdr P P σ0 σ) (ht : t = 0 ∨ t = 1) (e : w = 6 + 1 + 2 * t.toInt.toNat) (hr : 0 ≤ r.toInt ∧ r.toInt ≤ (wzsl P t.toInt).length) : wzdr P (wzpu P t.toInt ((wzsl P t.toInt).take r.toInt.toNat)) σ0 (za_si σ w 1 r) ∧ wzTb (za_si σ w 1 r) w ((wzsl P t.toInt).take r.toInt.toNat) := by
  have h1 := wzTb_tk (wzSt_t hz.2.1 ht e) hr
  exact ⟨wzdr_w hz ht e h1 (wzfw_si (wzfw_r w σ)), h1⟩
theorem wzad_1 {P : wzP} {σ0 σ σ' : za_S} {w n : Nat} {t : Int32} {x : wzR} (hz : wzdr P (wzpu P t.toInt ((wzsl P t.toInt).take n)) σ0 σ) (ht : t = 0 ∨ t = 1) (e : w = 6 + 1 + 2 * t.toInt.toNat) (h : wzTb σ' w ((wzsl P t.toInt).take n ++ [x]) ∧ wzfw w σ σ') : wzdr P (wzpu P t.toInt (wzin9 (wzsl P t.toInt) n x n)) σ0 σ' := by
  have h1 := wzdr_p hz ht e h
  unfold wzin9
  rw [Nat.sub_self, List.take_zero, List.flatMap_nil, List.append_nil]
  exact h1
theorem wzin_s {L : List wzR} {n i : Nat} {x : wzR} (h20 : L.length ≤ 20) (h1 : n ≤ i) (h2 : i < L.length) : wzin9 L n x (i + 1) = wzin9 L n x i ++ wzpt (wzg L i) 0 100 := by
  unfold wzin9
  have e : (L.drop n).take (i + 1 - n) = (L.drop n).take (i - n) ++ [wzg L i] := by
    rw [show i + 1 - n = (i - n) + 1 by omega, List.take_succ, List.getElem?_drop, show n + (i - n) = i by omega, List.getElem?_eq_getElem h2, wzg_in h2 (by omega)]
    rfl
  rw [e, List.flatMap_append, ← List.append_assoc]
  simp
theorem wzin_len {L : List wzR} {n i : Nat} {x : wzR} (h20 : L.length ≤ 20) : (wzin9 L n x i).length ≤ 90000 := by
  unfold wzin9
  have h1 := wzfm_len (f := fun r => wzpt r 0 100) (fun r => Nat.le_trans (wzpt_len r 0 100) (by decide)) ((L.drop n).take (i - n))
  have h2 : ((L.drop n).take (i - n)).length ≤ L.length := by
    rw [List.length_take, List.length_drop]
    omega
  have h3 : (L.take n).length ≤ L.length := by
    rw [List.length_take]
    omega
  rw [List.length_append, List.length_append]
  show _ + 1 + _ ≤ 90000
  omega
theorem wzVs_add {L : List wzR} {k v a b : Int} {n : Nat} (h : wzVs L) (h2 : L.length ≤ 24) (hx : wzvd (k, v, a, b, 10)) (hno : ∀ r ∈ L, ¬ wztc r k a b) (hn : (n : Int) = wzsm (wznf L k a) L.length) : wzVs (wzin9 L n (k, v, a, b, 10) L.length) := by
  rw [wzin_e h.1]
  have x2' : 0 ≤ a ∧ a < b ∧ b ≤ 100 := hx.2.2.1
  have hw := wznf_w h h2 hn
  have hap : ∀ r ∈ L, wzcm 0 r = k → wzcm 3 r ≤ a ∨ b ≤ wzcm 2 r := fun r hr e => by
    have h3 := hno r hr
    have h4 := (h.1 r hr).2.2.1
    rcases Int.lt_or_le a (wzcm 3 r) with c | c
    · rcases Int.lt_or_le (wzcm 2 r) b with c2 | c2
      · exact absurd ⟨e, c, c2, by omega, x2'.2.1⟩ h3
      · exact Or.inr c2
    · exact Or.inl c
  have hsp := h.2
  rw [← List.take_append_drop n L] at hsp
  obtain ⟨p1, p2, p3⟩ := List.pairwise_append.mp hsp
  have hta : ∀ r ∈ L.take n, wzlt r (k, v, a, b, 10) := fun r hr => by
    obtain ⟨i, hi, e⟩ := List.mem_iff_getElem.mp hr
    rw [List.length_take] at hi
    rw [List.getElem_take] at e
    have h3 := (hw i (by omega)).mpr (by omega)
    rw [e] at h3
    have hrL : r ∈ L := List.mem_of_mem_take hr
    have h4 := (h.1 r hrL).2.2.1
    rcases h3 with q | q
    · exact Or.inl q
    · refine Or.inr ⟨q.1, ?_⟩
      show wzcm 3 r ≤ a
      rcases hap r hrL q.1 with c | c
      · exact c
      · omega
  have hdr : ∀ r ∈ L.drop n, wzlt (k, v, a, b, 10) r := fun r hr => by
    obtain ⟨i, hi, e⟩ := List.mem_iff_getElem.mp hr
    rw [List.length_drop] at hi
    rw [List.getElem_drop] at e
    have h3 : ¬ (wzcm 0 (L[n + i]'(by omega)) < k ∨ (wzcm 0 (L[n + i]'(by omega)) = k ∧ wzcm 2 (L[n + i]'(by omega)) < a)) := fun q => absurd ((hw (n + i) (by omega)).mp q) (by omega)
    rw [e] at h3
    have hrL : r ∈ L := List.mem_of_mem_drop hr
    have h4 := (h.1 r hrL).2.2.1
    rcases Int.lt_trichotomy (wzcm 0 r) k with q | q | q
    · exact absurd (Or.inl q) h3
    · refine Or.inr ⟨q.symm, ?_⟩
      show b ≤ wzcm 2 r
      rcases hap r hrL q with c | c
      · have h5 : ¬ wzcm 2 r < a := fun z => h3 (Or.inr ⟨q, z⟩)
        omega
      · exact c
    · exact Or.inl q
  refine ⟨fun r hr => ?_, List.pairwise_append.mpr ⟨List.pairwise_append.mpr ⟨p1, List.pairwise_singleton _ _, fun r hr s hs => ?_⟩, p2, fun r hr s hs => ?_⟩⟩
  · rcases List.mem_append.mp hr with q | q
    · rcases List.mem_append.mp q with q | q
      · exact h.1 r (List.mem_of_mem_take q)
      · rw [List.mem_singleton.mp q]; exact hx
    · exact h.1 r (List.mem_of_mem_drop q)
  · rw [List.mem_singleton.mp hs]; exact hta r hr
  · rcases List.mem_append.mp hr with q | q
    · exact p3 r q s hs
    · rw [List.mem_singleton.mp q]; exact hdr s hs
theorem wzadd_f {P : wzP} {σ0 σ : za_S} {t k v fd td r : Int32} (hN : wzNw σ0 P) (ht : t = 0 ∨ t = 1) (hk : 0 ≤ k.toInt ∧ k.toInt ≤ 9) (hv : 0 ≤ v.toInt ∧ v.toInt ≤ 99) (hp : (0 ≤ fd.toInt ∧ fd.toInt ≤ 99) ∧ fd.toInt < td.toInt ∧ td.toInt ≤ 100) (hno : wzno (wzsl P t.toInt) k.toInt fd.toInt td.toInt) (hr : r.toInt = wzsm (wznf (wzsl P t.toInt) k.toInt fd.toInt) (wzsl P t.toInt).length ∧ 0 ≤ r.toInt ∧ r.toInt ≤ (wzsl P t.toInt).length) (hz : wzdn P (wzpu P t.toInt (wzin9 (wzsl P t.toInt) r.toInt.toNat (k.toInt, v.toInt, fd.toInt, td.toInt, 10) (wzsl P t.toInt).length)) σ0 σ) : wzpo (wzCadd t.toInt k.toInt v.toInt fd.toInt td.toInt) P σ0 σ := by
  have hL := wzsl_v hN.2.2.1 t.toInt
  have h20 := wzsl_20 hN.2.2.2 t.toInt
  have hn : ((r.toInt.toNat : Nat) : Int) = wzsm (wznf (wzsl P t.toInt) k.toInt fd.toInt) (wzsl P t.toInt).length := by omega
  have hx : wzvd (k.toInt, v.toInt, fd.toInt, td.toInt, 10) := ⟨hk, hv, ⟨hp.1.1, hp.2⟩, by show (0 : Int) ≤ 10 ∧ (10 : Int) ≤ 10; decide⟩
  have hV := wzVs_add hL (by omega) hx ((wzno_m (by omega)).mp hno) hn
  exact wzpo_m (wzdn_f hN (wzpu_v hN.2.2.1 hV) hz) (fun P' c => Or.inr ⟨hno, r.toInt.toNat, by omega, hn, c⟩)
theorem wzset_f {P : wzP} {σ0 σ : za_S} {t k v fd td : Int32} {j : Nat} (hN : wzNw σ0 P) (hv : wzvr j v.toInt) (hno : ¬ wzno (wzsl P t.toInt) k.toInt fd.toInt td.toInt) (hz : wzdn P (wzpu P t.toInt ((wzsl P t.toInt).flatMap (wzfc k.toInt fd.toInt td.toInt j v.toInt))) σ0 σ) : wzpo (wzCset t.toInt k.toInt j v.toInt fd.toInt td.toInt) P σ0 σ := wzpo_m (wzdn_f hN (wzpu_v hN.2.2.1 (wzVs_fm (wzfc_v hv) (wzsl_v hN.2.2.1 t.toInt))) hz) (fun P' c => Or.inr ⟨hno, c⟩)
theorem wzjoin_f {P : wzP} {σ0 σ : za_S} {t : Int32} (hN : wzNw σ0 P) (hz : wzdn P (wzpu P t.toInt (wzjl (wzsl P t.toInt) (wzsl P t.toInt).length)) σ0 σ) : wzpo (wzCjoin t.toInt) P σ0 σ := wzdn_f hN (wzpu_v hN.2.2.1 (wzVs_jl (wzsl_v hN.2.2.1 t.toInt) (by have := wzsl_20 hN.2.2.2 t.toInt; omega))) hz
theorem wzpt_ft {r : wzR} (h : wzvd r) : wzpt r (wzcm 2 r) (wzcm 3 r) = [r] := by
  obtain ⟨h0, h1, h2, h3⟩ := h
  have e1 : wzmx (wzcm 2 r) (wzcm 2 r) = wzcm 2 r := by
    have := wzmx_b (wzcm 2 r) (wzcm 2 r)
    omega
  have e2 : wzmn (wzcm 3 r) (wzcm 3 r) = wzcm 3 r := by
    have := wzmn_b (wzcm 3 r) (wzcm 3 r)
    omega
  rw [wzpt_1 (by rw [e1, e2]; omega), e1, e2]
  rfl
theorem wzfi_1 {σ0 σ σ' : za_S} {T : List wzR} {r : wzR} {a b : Int32} (hz : σ = σ0) (hv : wzvd r) (ha : a.toInt = wzcm 2 r) (hb : b.toInt = wzcm 3 r) (h : wzTb σ' 7 (T ++ wzpt r a.toInt b.toInt) ∧ wzfw 7 σ σ') : wzfl 7 σ0 σ' (T ++ wzpt r 0 100) := by
  rw [ha, hb, wzpt_ft hv] at h
  rw [wzpt_w hv, ← hz]
  exact h
/-- what follows a cut: table 0 of the draft anew, all but it and the line as it was -/
def wzff (A : List wzR) (σ0 σ : za_S) (n : Nat) : Prop := ((∀ w, w ≠ 7 → w ≠ 8 → w ≠ 85 → w ≠ 86 → σ.1 w = σ0.1 w) ∧ σ.2 = σ0.2) ∧ wzTb σ 7 ((A.take n).flatMap (fun r => wzpt r 0 100))
theorem wzff_1 {σ0 σ σ1 σ2 : za_S} {B : List wzR} {k : Int} (h0 : σ = σ0) (h1 : wzlc 85 100 σ σ1) (h2 : wzlr 85 B k B.length σ1 σ2) : ((∀ w, w ≠ 85 → w ≠ 86 → σ2.1 w = σ0.1 w) ∧ σ2.2 = σ0.2) ∧ ∀ d : Nat, d < 100 → (σ2.1 86 d).toInt = wzsm (wzln B k d) B.length := by
  rw [h0] at h1
  exact ⟨⟨fun w a b => (h2.1.1 w a b).trans (h1.1.1 w a b), h2.1.2.trans h1.1.2⟩, h2.2⟩
theorem wzff_2 {σ0 σ σ' : za_S} {A B : List wzR} {k : Int} (h : ((∀ w, w ≠ 85 → w ≠ 86 → σ.1 w = σ0.1 w) ∧ σ.2 = σ0.2) ∧ ∀ d : Nat, d < 100 → (σ.1 86 d).toInt = wzsm (wzln B k d) B.length) (e : σ' = za_si σ 7 1 0) : wzff A σ0 σ' 0 ∧ ∀ d : Nat, d < 100 → (σ'.1 86 d).toInt = wzsm (wzln B k d) B.length := by
  subst e
  refine ⟨⟨⟨fun w h1 _ h3 h4 => by rw [(za_si_off w h1).1]; exact h.1.1 w h3 h4, h.1.2⟩, wzTb_nil⟩, fun d hd => ?_⟩
  rw [(za_si_off 86 (by decide)).1]
  exact h.2 d hd
theorem wzff_A {σ0 σ : za_S} {A : List wzR} {n : Nat} (h : wzff A σ0 σ n) (hA : wzTb σ0 2 A) : wzTb σ 2 A := wzTb_e hA (h.1.1 2 (by decide) (by decide) (by decide) (by decide)) (h.1.1 3 (by decide) (by decide) (by decide) (by decide))
theorem wzff_len {A : List wzR} {n : Nat} (h : A.length ≤ 20) : ((A.take n).flatMap (fun r => wzpt r 0 100)).length ≤ 90000 := Nat.le_trans (wzfm_tk (f := fun r => wzpt r 0 100) (fun r => Nat.le_trans (wzpt_len r 0 100) (by decide)) h n) (by decide)
theorem wzff_3 {σ0 σ σ' : za_S} {A B X : List wzR} {k : Int} {n : Nat} (h : wzff A σ0 σ n ∧ ∀ d : Nat, d < 100 → (σ.1 86 d).toInt = wzsm (wzln B k d) B.length) (h2 : wzTb σ' 7 X ∧ wzfw 7 σ σ') : (((∀ w, w ≠ 7 → w ≠ 8 → w ≠ 85 → w ≠ 86 → σ'.1 w = σ0.1 w) ∧ σ'.2 = σ0.2) ∧ wzTb σ' 7 X) ∧ ∀ d : Nat, d < 100 → (σ'.1 86 d).toInt = wzsm (wzln B k d) B.length := by
  refine ⟨⟨⟨fun w a b c d => (h2.2.1 w a b).trans (h.1.1.1 w a b c d), h2.2.2.trans h.1.1.2⟩, h2.1⟩, fun d hd => ?_⟩
  rw [h2.2.1 86 (by decide) (by decide)]
  exact h.2 d hd
theorem wzff_4 {σ0 σ : za_S} {A B : List wzR} {k : Int} {n : Nat} (h20 : A.length ≤ 20) (hn : n < A.length) (h : (((∀ w, w ≠ 7 → w ≠ 8 → w ≠ 85 → w ≠ 86 → σ.1 w = σ0.1 w) ∧ σ.2 = σ0.2) ∧ wzTb σ 7 ((A.take n).flatMap (fun r => wzpt r 0 100) ++ wzpt (wzg A n) 0 100)) ∧ ∀ d : Nat, d < 100 → (σ.1 86 d).toInt = wzsm (wzln B k d) B.length) : wzff A σ0 σ (n + 1) ∧ ∀ d : Nat, d < 100 → (σ.1 86 d).toInt = wzsm (wzln B k d) B.length := by
  refine ⟨⟨h.1.1, ?_⟩, h.2⟩
  rw [wztk_f hn h20]
  exact h.1.2
theorem wzcu_0 {P : wzP} {σ0 σ : za_S} {t : Int32} {f : wzR → List wzR} (e : t = 0) (h : wzdr P (wzpu P t.toInt ((wzsl P t.toInt).flatMap f)) σ0 σ) : wzdr P (P.1.flatMap f, P.2) σ0 σ := by
  subst e
  exact h
theorem wzcu_1 {P : wzP} {σ0 σ : za_S} {t : Int32} {f : wzR → List wzR} (e : t = 1) (h : wzdr P (wzpu P t.toInt ((wzsl P t.toInt).flatMap f)) σ0 σ) : wzdr P (P.1, P.2.flatMap f) σ0 σ := by
  subst e
  exact h
theorem wzcu_f {P : wzP} {σ0 σ σ' : za_S} {X : List wzR} (h : wzdr P (P.1, X) σ0 σ) (k : wzff P.1 σ σ' P.1.length) : wzdr P (P.1.flatMap (fun r => wzpt r 0 100), X) σ0 σ' := by
  obtain ⟨⟨k1, k2⟩, k3⟩ := k
  rw [List.take_of_length_le (Nat.le_refl _)] at k3
  refine ⟨⟨wzfz_t h.1.1 ⟨fun w hw => ⟨k1 w (by omega) (by omega) (by omega) (by omega), by rw [k2]⟩, k1 0 (by decide) (by decide) (by decide) (by decide)⟩, wzSt_e h.1.2.1 (fun w a b => k1 w (by omega) (by omega) (by omega) (by omega)), ?_⟩, ⟨k3, ?_⟩, ?_⟩
  · rw [k1 1 (by decide) (by decide) (by decide) (by decide)]; exact h.1.2.2
  · exact wzTb_e h.2.1.2 (k1 9 (by decide) (by decide) (by decide) (by decide)) (k1 10 (by decide) (by decide) (by decide) (by decide))
  · rw [k1 6 (by decide) (by decide) (by decide) (by decide)]; exact h.2.2
theorem wzref_1 {P : wzP} {σ0 σ : za_S} {k v a b : Int} (hN : wzNw σ0 P) (hV : wzVs (P.1.flatMap (wzfc k a b 4 v))) (hy : ¬ wzno P.1 k a b) (hh : wzhd (P.1.flatMap (wzfc k a b 4 v), P.2)) (hz : wzdn P (P.1.flatMap (wzfc k a b 4 v), P.2) σ0 σ) : wzpo (wzCref k v a b) P σ0 σ :=
  wzpo_m (wzdn_f (D := (P.1.flatMap (wzfc k a b 4 v), P.2)) hN ⟨hV, hN.2.2.1.2⟩ hz) (fun _ q => Or.inr ⟨hy, Or.inr ⟨hh, q⟩⟩)
theorem wzref_0 {P D : wzP} {σ0 σ : za_S} {k v a b : Int} (hN : wzNw σ0 P) (hy : ¬ wzno P.1 k a b) (hh : ¬ wzhd (P.1.flatMap (wzfc k a b 4 v), P.2)) (hz : wzdr P D σ0 σ) : wzpo (wzCref k v a b) P σ0 σ :=
  wzpo_n hN hz.1 (Or.inr ⟨hy, Or.inl ⟨hh, rfl⟩⟩)
theorem wzcut_0 {P : wzP} {σ0 σ : za_S} {t : Int32} {k a b : Int} (hN : wzNw σ0 P) (hV : wzVs (P.1.flatMap (wzfk k a b))) (e : t = 0) (hy : ¬ wzno (wzsl P t.toInt) k a b) (hz : wzdn P (P.1.flatMap (wzfk k a b), P.2) σ0 σ) : wzpo (wzCcut t.toInt k a b) P σ0 σ :=
  wzpo_m (wzdn_f (D := (P.1.flatMap (wzfk k a b), P.2)) hN ⟨hV, hN.2.2.1.2⟩ hz) (fun _ q => Or.inr ⟨hy, Or.inl ⟨by rw [e]; rfl, q⟩⟩)
theorem wzcut_1 {P : wzP} {σ0 σ : za_S} {t : Int32} {k a b : Int} (hN : wzNw σ0 P) (hV : wzVs (P.2.flatMap (wzfk k a b))) (hVp : wzVs (P.1.flatMap (fun r => wzpt r 0 100))) (e : t = 1) (hy : ¬ wzno (wzsl P t.toInt) k a b) (hh : wzhd (P.1, P.2.flatMap (wzfk k a b))) (hz : wzdn P (P.1.flatMap (fun r => wzpt r 0 100), P.2.flatMap (wzfk k a b)) σ0 σ) : wzpo (wzCcut t.toInt k a b) P σ0 σ :=
  wzpo_m (wzdn_f hN ⟨hVp, hV⟩ hz) (fun _ q => Or.inr ⟨hy, Or.inr ⟨by rw [e]; rfl, Or.inr ⟨hh, q⟩⟩⟩)
set_option maxHeartbeats 4000000 in
set_option maxRecDepth 100000 in
theorem zc_X9_isKey_atx (l : Launch) (E : za_E) (a : Int32) (σ : za_S)  : zMi l E yX9_isKey cX9_isKey 1 (Option.some Jvm.ClassFile.FieldType.boolean) 1 21 [za_I a] σ (fun r σ' => ((r = 0 ∨ r = 1) ∧ (¬ r = 0 ↔ 0 ≤ a.toInt ∧ a.toInt < 10)) ∧ σ' = σ) := by
  refine zMi_of [(0, za_I a)] (by decide) rfl rfl (Nat.le_of_ble_eq_true rfl) ?_
  intro ho p e s m args below meth c G hr
  refine zv_iload_n (j := 0) G dX9_isKey_0 rfl rfl ?_
  refine zv_if_lt (tgt := 14) G dX9_isKey_1 (by decide) (fun c_1 => ?_) (fun c_1 => ?_)
  · have k_1 := z_clt c_1 (a := a.toInt) (b := 0) rfl rfl
    refine zv_iconst (v := 0) G dX9_isKey_14 (by decide) ?_
    exact zv_zret G hr dX9_isKey_15 (by decide) ⟨⟨Or.inl rfl, fun h => absurd rfl h, fun h => False.elim (by omega)⟩, rfl⟩
  · have k_1 := z_cnlt c_1 (a := a.toInt) (b := 0) rfl rfl
    refine zv_iload_n (j := 0) G dX9_isKey_4 rfl rfl ?_
    refine zv_bipush (v := 10) G dX9_isKey_5 (by decide) ?_
    refine zv_icmp_ge (tgt := 14) G dX9_isKey_7 (by decide) (fun c_7 => ?_) (fun c_7 => ?_)
    · have k_7 := z_cle c_7 (a := 10) (b := a.toInt) rfl rfl
      refine zv_iconst (v := 0) G dX9_isKey_14 (by decide) ?_
      exact zv_zret G hr dX9_isKey_15 (by decide) ⟨⟨Or.inl rfl, fun h => absurd rfl h, fun h => False.elim (by omega)⟩, rfl⟩
    · have k_7 := z_cnle c_7 (a := 10) (b := a.toInt) rfl rfl
      refine zv_iconst (v := 1) G dX9_isKey_10 (by decide) ?_
      refine zv_goto (tgt := 15) G dX9_isKey_11 (by decide) ?_
      exact zv_zret G hr dX9_isKey_15 (by decide) ⟨⟨Or.inr rfl, fun _ => by omega, fun _ => by decide⟩, rfl⟩
set_option maxHeartbeats 4000000 in
set_option maxRecDepth 100000 in
theorem zc_X9_isValue_atx (l : Launch) (E : za_E) (a : Int32) (σ : za_S)  : zMi l E yX9_isValue cX9_isValue 1 (Option.some Jvm.ClassFile.FieldType.boolean) 1 21 [za_I a] σ (fun r σ' => ((r = 0 ∨ r = 1) ∧ (¬ r = 0 ↔ 0 ≤ a.toInt ∧ a.toInt < 100)) ∧ σ' = σ) := by
  refine zMi_of [(0, za_I a)] (by decide) rfl rfl (Nat.le_of_ble_eq_true rfl) ?_
  intro ho p e s m args below meth c G hr
  refine zv_iload_n (j := 0) G dX9_isValue_0 rfl rfl ?_
  refine zv_if_lt (tgt := 14) G dX9_isValue_1 (by decide) (fun c_1 => ?_) (fun c_1 => ?_)
  · have k_1 := z_clt c_1 (a := a.toInt) (b := 0) rfl rfl
    refine zv_iconst (v := 0) G dX9_isValue_14 (by decide) ?_
    exact zv_zret G hr dX9_isValue_15 (by decide) ⟨⟨Or.inl rfl, fun h => absurd rfl h, fun h => False.elim (by omega)⟩, rfl⟩
  · have k_1 := z_cnlt c_1 (a := a.toInt) (b := 0) rfl rfl
    refine zv_iload_n (j := 0) G dX9_isValue_4 rfl rfl ?_
    refine zv_bipush (v := 100) G dX9_isValue_5 (by decide) ?_
    refine zv_icmp_ge (tgt := 14) G dX9_isValue_7 (by decide) (fun c_7 => ?_) (fun c_7 => ?_)
    · have k_7 := z_cle c_7 (a := 100) (b := a.toInt) rfl rfl
      refine zv_iconst (v := 0) G dX9_isValue_14 (by decide) ?_
      exact zv_zret G hr dX9_isValue_15 (by decide) ⟨⟨Or.inl rfl, fun h => absurd rfl h, fun h => False.elim (by omega)⟩, rfl⟩
    · have k_7 := z_cnle c_7 (a := 100) (b := a.toInt) rfl rfl
      refine zv_iconst (v := 1) G dX9_isValue_10 (by decide) ?_
      refine zv_goto (tgt := 15) G dX9_isValue_11 (by decide) ?_
      exact zv_zret G hr dX9_isValue_15 (by decide) ⟨⟨Or.inr rfl, fun _ => by omega, fun _ => by decide⟩, rfl⟩
set_option maxHeartbeats 4000000 in
set_option maxRecDepth 100000 in
theorem zc_X9_isDay_atx (l : Launch) (E : za_E) (a : Int32) (σ : za_S)  : zMi l E yX9_isDay cX9_isDay 1 (Option.some Jvm.ClassFile.FieldType.boolean) 1 21 [za_I a] σ (fun r σ' => ((r = 0 ∨ r = 1) ∧ (¬ r = 0 ↔ 0 ≤ a.toInt ∧ a.toInt < 100)) ∧ σ' = σ) := by
  refine zMi_of [(0, za_I a)] (by decide) rfl rfl (Nat.le_of_ble_eq_true rfl) ?_
  intro ho p e s m args below meth c G hr
  refine zv_iload_n (j := 0) G dX9_isDay_0 rfl rfl ?_
  refine zv_if_lt (tgt := 14) G dX9_isDay_1 (by decide) (fun c_1 => ?_) (fun c_1 => ?_)
  · have k_1 := z_clt c_1 (a := a.toInt) (b := 0) rfl rfl
    refine zv_iconst (v := 0) G dX9_isDay_14 (by decide) ?_
    exact zv_zret G hr dX9_isDay_15 (by decide) ⟨⟨Or.inl rfl, fun h => absurd rfl h, fun h => False.elim (by omega)⟩, rfl⟩
  · have k_1 := z_cnlt c_1 (a := a.toInt) (b := 0) rfl rfl
    refine zv_iload_n (j := 0) G dX9_isDay_4 rfl rfl ?_
    refine zv_bipush (v := 100) G dX9_isDay_5 (by decide) ?_
    refine zv_icmp_ge (tgt := 14) G dX9_isDay_7 (by decide) (fun c_7 => ?_) (fun c_7 => ?_)
    · have k_7 := z_cle c_7 (a := 100) (b := a.toInt) rfl rfl
      refine zv_iconst (v := 0) G dX9_isDay_14 (by decide) ?_
      exact zv_zret G hr dX9_isDay_15 (by decide) ⟨⟨Or.inl rfl, fun h => absurd rfl h, fun h => False.elim (by omega)⟩, rfl⟩
    · have k_7 := z_cnle c_7 (a := 100) (b := a.toInt) rfl rfl
      refine zv_iconst (v := 1) G dX9_isDay_10 (by decide) ?_
      refine zv_goto (tgt := 15) G dX9_isDay_11 (by decide) ?_
      exact zv_zret G hr dX9_isDay_15 (by decide) ⟨⟨Or.inr rfl, fun _ => by omega, fun _ => by decide⟩, rfl⟩
set_option maxHeartbeats 4000000 in
set_option maxRecDepth 100000 in
theorem zc_X9_isTable_atx (l : Launch) (E : za_E) (t : Int32) (σ : za_S)  : zMi l E yX9_isTable cX9_isTable 1 (Option.some Jvm.ClassFile.FieldType.boolean) 1 21 [za_I t] σ (fun r σ' => ((r = 0 ∨ r = 1) ∧ (¬ r = 0 ↔ t = 0 ∨ t = 1)) ∧ σ' = σ) := by
  refine zMi_of [(0, za_I t)] (by decide) rfl rfl (Nat.le_of_ble_eq_true rfl) ?_
  intro ho p e s m args below meth c G hr
  refine zv_iload_n (j := 0) G dX9_isTable_0 rfl rfl ?_
  refine zv_if_eq (tgt := 9) G dX9_isTable_1 (by decide) (fun c_1 => ?_) (fun c_1 => ?_)
  · have k_1 := z_ceq c_1 (a := t.toInt) (b := 0) rfl rfl
    refine zv_iconst (v := 1) G dX9_isTable_9 (by decide) ?_
    refine zv_goto (tgt := 14) G dX9_isTable_10 (by decide) ?_
    exact zv_zret G hr dX9_isTable_14 (by decide) ⟨⟨Or.inr rfl, fun _ => by first | exact Or.inl c_1 | exact Or.inr c_6, fun _ => by decide⟩, rfl⟩
  · have k_1 := z_cne c_1 (a := t.toInt) (b := 0) rfl rfl
    refine zv_iload_n (j := 0) G dX9_isTable_4 rfl rfl ?_
    refine zv_iconst (v := 1) G dX9_isTable_5 (by decide) ?_
    refine zv_icmp_ne (tgt := 13) G dX9_isTable_6 (by decide) (fun c_6 => ?_) (fun c_6 => ?_)
    · have k_6 := z_cne c_6 (a := t.toInt) (b := 1) rfl rfl
      refine zv_iconst (v := 0) G dX9_isTable_13 (by decide) ?_
      exact zv_zret G hr dX9_isTable_14 (by decide) ⟨⟨Or.inl rfl, fun h => absurd rfl h, fun h => False.elim (h.elim c_1 c_6)⟩, rfl⟩
    · have k_6 := z_ceq c_6 (a := t.toInt) (b := 1) rfl rfl
      refine zv_iconst (v := 1) G dX9_isTable_9 (by decide) ?_
      refine zv_goto (tgt := 14) G dX9_isTable_10 (by decide) ?_
      exact zv_zret G hr dX9_isTable_14 (by decide) ⟨⟨Or.inr rfl, fun _ => by first | exact Or.inl c_1 | exact Or.inr c_6, fun _ => by decide⟩, rfl⟩
set_option maxHeartbeats 4000000 in
set_option maxRecDepth 100000 in
theorem zc_X9_isPeriod_atx (l : Launch) (E : za_E) (fd : Int32) (td : Int32) (σ : za_S)  : zMi l E yX9_isPeriod cX9_isPeriod 2 (Option.some Jvm.ClassFile.FieldType.boolean) 2 41 [za_I fd, za_I td] σ (fun r σ' => ((r = 0 ∨ r = 1) ∧ (¬ r = 0 ↔ (0 ≤ fd.toInt ∧ fd.toInt ≤ 99) ∧ fd.toInt < td.toInt ∧ td.toInt ≤ 100)) ∧ σ' = σ) := by
  refine zMi_of [(0, za_I fd), (1, za_I td)] (by decide) rfl rfl (Nat.le_of_ble_eq_true rfl) ?_
  intro ho p e s m args below meth c G hr
  refine zv_iload_n (j := 0) G dX9_isPeriod_0 rfl rfl ?_
  refine zv_callSi (as := [za_I fd]) G (zc_X9_isDay_atx l E fd σ ) zk_X9_isDay zm_447 rfl ⟨(Nat.le_of_ble_eq_true rfl), (Nat.le_of_ble_eq_true rfl)⟩ ⟨Nat.zero_le _, Nat.zero_le _⟩ (Nat.le_of_ble_eq_true rfl) dX9_isPeriod_1 (fun r_1 σ h_1 => ?_)
  obtain ⟨h_1, rfl⟩ := h_1
  refine zv_if_eq (tgt := 22) G dX9_isPeriod_4 (by decide) (fun c_4 => ?_) (fun c_4 => ?_)
  · have f_1 := fun q9 => (h_1.2.mpr q9) c_4
    refine zv_iconst (v := 0) G dX9_isPeriod_22 (by decide) ?_
    exact zv_zret G hr dX9_isPeriod_23 (by decide) ⟨⟨Or.inl rfl, fun h => absurd rfl h, fun h => False.elim (by first | (have h9 := h.1; exact f_1 (by omega)) | (have h9 := h.2; omega))⟩, rfl⟩
  · have t_1 := h_1.2.mp c_4
    refine zv_iload_n (j := 1) G dX9_isPeriod_7 rfl rfl ?_
    refine zv_iload_n (j := 0) G dX9_isPeriod_8 rfl rfl ?_
    refine zv_icmp_le (tgt := 22) G dX9_isPeriod_9 (by decide) (fun c_9 => ?_) (fun c_9 => ?_)
    · have k_9 := z_cle c_9 (a := td.toInt) (b := fd.toInt) rfl rfl
      refine zv_iconst (v := 0) G dX9_isPeriod_22 (by decide) ?_
      exact zv_zret G hr dX9_isPeriod_23 (by decide) ⟨⟨Or.inl rfl, fun h => absurd rfl h, fun h => False.elim (by first | (have h9 := h.1; exact f_1 (by omega)) | (have h9 := h.2; omega))⟩, rfl⟩
    · have k_9 := z_cnle c_9 (a := td.toInt) (b := fd.toInt) rfl rfl
      refine zv_iload_n (j := 1) G dX9_isPeriod_12 rfl rfl ?_
      refine zv_bipush (v := 100) G dX9_isPeriod_13 (by decide) ?_
      refine zv_icmp_gt (tgt := 22) G dX9_isPeriod_15 (by decide) (fun c_15 => ?_) (fun c_15 => ?_)
      · have k_15 := z_clt c_15 (a := 100) (b := td.toInt) rfl rfl
        refine zv_iconst (v := 0) G dX9_isPeriod_22 (by decide) ?_
        exact zv_zret G hr dX9_isPeriod_23 (by decide) ⟨⟨Or.inl rfl, fun h => absurd rfl h, fun h => False.elim (by first | (have h9 := h.1; exact f_1 (by omega)) | (have h9 := h.2; omega))⟩, rfl⟩
      · have k_15 := z_cnlt c_15 (a := 100) (b := td.toInt) rfl rfl
        refine zv_iconst (v := 1) G dX9_isPeriod_18 (by decide) ?_
        refine zv_goto (tgt := 23) G dX9_isPeriod_19 (by decide) ?_
        exact zv_zret G hr dX9_isPeriod_23 (by decide) ⟨⟨Or.inr rfl, fun _ => by have h9 := t_1; omega, fun _ => by decide⟩, rfl⟩
set_option maxHeartbeats 4000000 in
set_option maxRecDepth 100000 in
theorem zc_X9_isPortion_atx (l : Launch) (E : za_E) (t : Int32) (k : Int32) (fd : Int32) (td : Int32) (σ : za_S)  : zMi l E yX9_isPortion cX9_isPortion 4 (Option.some Jvm.ClassFile.FieldType.boolean) 3 62 [za_I t, za_I k, za_I fd, za_I td] σ (fun r σ' => ((r = 0 ∨ r = 1) ∧ (¬ r = 0 ↔ (t = 0 ∨ t = 1) ∧ (0 ≤ k.toInt ∧ k.toInt < 10) ∧ (0 ≤ fd.toInt ∧ fd.toInt ≤ 99) ∧ fd.toInt < td.toInt ∧ td.toInt ≤ 100)) ∧ σ' = σ) := by
  refine zMi_of [(0, za_I t), (1, za_I k), (2, za_I fd), (3, za_I td)] (by decide) rfl rfl (Nat.le_of_ble_eq_true rfl) ?_
  intro ho p e s m args below meth c G hr
  refine zv_iload_n (j := 0) G dX9_isPortion_0 rfl rfl ?_
  refine zv_callSi (as := [za_I t]) G (zc_X9_isTable_atx l E t σ ) zk_X9_isTable zm_438 rfl ⟨(Nat.le_of_ble_eq_true rfl), (Nat.le_of_ble_eq_true rfl)⟩ ⟨Nat.zero_le _, Nat.zero_le _⟩ (Nat.le_of_ble_eq_true rfl) dX9_isPortion_1 (fun r_1 σ h_1 => ?_)
  obtain ⟨h_1, rfl⟩ := h_1
  refine zv_if_eq (tgt := 26) G dX9_isPortion_4 (by decide) (fun c_4 => ?_) (fun c_4 => ?_)
  · have f_1 := fun q9 => (h_1.2.mpr q9) c_4
    refine zv_iconst (v := 0) G dX9_isPortion_26 (by decide) ?_
    exact zv_zret G hr dX9_isPortion_27 (by decide) ⟨⟨Or.inl rfl, fun h => absurd rfl h, fun h => False.elim (by first | exact f_1 h.1 | exact f_8 h.2.1 | exact f_16 h.2.2)⟩, rfl⟩
  · have t_1 := h_1.2.mp c_4
    refine zv_iload_n (j := 1) G dX9_isPortion_7 rfl rfl ?_
    refine zv_callSi (as := [za_I k]) G (zc_X9_isKey_atx l E k σ ) zk_X9_isKey zm_441 rfl ⟨(Nat.le_of_ble_eq_true rfl), (Nat.le_of_ble_eq_true rfl)⟩ ⟨Nat.zero_le _, Nat.zero_le _⟩ (Nat.le_of_ble_eq_true rfl) dX9_isPortion_8 (fun r_8 σ h_8 => ?_)
    obtain ⟨h_8, rfl⟩ := h_8
    refine zv_if_eq (tgt := 26) G dX9_isPortion_11 (by decide) (fun c_11 => ?_) (fun c_11 => ?_)
    · have f_8 := fun q9 => (h_8.2.mpr q9) c_11
      refine zv_iconst (v := 0) G dX9_isPortion_26 (by decide) ?_
      exact zv_zret G hr dX9_isPortion_27 (by decide) ⟨⟨Or.inl rfl, fun h => absurd rfl h, fun h => False.elim (by first | exact f_1 h.1 | exact f_8 h.2.1 | exact f_16 h.2.2)⟩, rfl⟩
    · have t_8 := h_8.2.mp c_11
      refine zv_iload_n (j := 2) G dX9_isPortion_14 rfl rfl ?_
      refine zv_iload_n (j := 3) G dX9_isPortion_15 rfl rfl ?_
      refine zv_callSi (as := [za_I fd, za_I td]) G (zc_X9_isPeriod_atx l E fd td σ ) zk_X9_isPeriod zm_444 rfl ⟨(Nat.le_of_ble_eq_true rfl), (Nat.le_of_ble_eq_true rfl)⟩ ⟨Nat.zero_le _, Nat.zero_le _⟩ (Nat.le_of_ble_eq_true rfl) dX9_isPortion_16 (fun r_16 σ h_16 => ?_)
      obtain ⟨h_16, rfl⟩ := h_16
      refine zv_if_eq (tgt := 26) G dX9_isPortion_19 (by decide) (fun c_19 => ?_) (fun c_19 => ?_)
      · have f_16 := fun q9 => (h_16.2.mpr q9) c_19
        refine zv_iconst (v := 0) G dX9_isPortion_26 (by decide) ?_
        exact zv_zret G hr dX9_isPortion_27 (by decide) ⟨⟨Or.inl rfl, fun h => absurd rfl h, fun h => False.elim (by first | exact f_1 h.1 | exact f_8 h.2.1 | exact f_16 h.2.2)⟩, rfl⟩
      · have t_16 := h_16.2.mp c_19
        refine zv_iconst (v := 1) G dX9_isPortion_22 (by decide) ?_
        refine zv_goto (tgt := 27) G dX9_isPortion_23 (by decide) ?_
        exact zv_zret G hr dX9_isPortion_27 (by decide) ⟨⟨Or.inr rfl, fun _ => ⟨t_1, t_8, t_16⟩, fun _ => by decide⟩, rfl⟩
set_option maxHeartbeats 4000000 in
set_option maxRecDepth 100000 in
theorem zc_X8_clear_atx (l : Launch) (E : za_E)  (σ0 : za_S)  : zMv l E yX8_clear cX8_clear 1 (Option.none : Option Jvm.ClassFile.FieldType) 1 21 [za_O 9 81] σ0 (fun σ' => wztl σ0 σ') := by
  refine zMv_of [(0, za_O 9 81)] (by decide) rfl rfl (Nat.le_of_ble_eq_true rfl) ?_
  intro ho p e s m args below meth c G hr
  refine zv_gen (R9 := wztl σ0) (wztl_r σ0) (fun σ hz => ?_)
  refine zv_aload_n (j := 0) G dX8_clear_0 rfl rfl ?_
  refine zv_iconst (v := 0) G dX8_clear_1 (by decide) ?_
  refine zp_X8_13 G dX8_clear_2 ?_
  refine zv_gen (R9 := wztl σ0) (wztl_a hz) (fun σ hz => ?_)
  exact zv_vret G hr dX8_clear_5 hz
set_option maxHeartbeats 4000000 in
set_option maxRecDepth 100000 in
theorem zc_X8_add_atx (l : Launch) (E : za_E) (a1 : Int64) (σ0 : za_S)  : zMv l E yX8_add cX8_add 3 (Option.none : Option Jvm.ClassFile.FieldType) 1 21 [za_O 9 81, za_L a1] σ0 (fun σ' => wztl σ0 σ') := by
  refine zMv_of [(0, za_O 9 81), (1, za_L a1)] (by decide) rfl rfl (Nat.le_of_ble_eq_true rfl) ?_
  intro ho p e s m args below meth c G hr
  refine zv_gen (R9 := wztl σ0) (wztl_r σ0) (fun σ hz => ?_)
  refine zv_aload_n (j := 0) G dX8_add_0 rfl rfl ?_
  refine zg_X8_13 G dX8_add_1 ?_
  refine zv_if_lt (tgt := 36) G dX8_add_4 (by decide) (fun c_4 => ?_) (fun c_4 => ?_)
  · have k_4 := z_clt c_4 (a := (σ.1 81 1).toInt) (b := 0) rfl rfl
    exact zv_vret G hr dX8_add_36 hz
  · have k_4 := z_cnlt c_4 (a := (σ.1 81 1).toInt) (b := 0) rfl rfl
    refine zv_aload_n (j := 0) G dX8_add_7 rfl rfl ?_
    refine zg_X8_13 G dX8_add_8 ?_
    refine zv_bipush (v := 12) G dX8_add_11 (by decide) ?_
    refine zv_icmp_ge (tgt := 36) G dX8_add_13 (by decide) (fun c_13 => ?_) (fun c_13 => ?_)
    · have k_13 := z_cle c_13 (a := 12) (b := (σ.1 81 1).toInt) rfl rfl
      exact zv_vret G hr dX8_add_36 hz
    · have k_13 := z_cnle c_13 (a := 12) (b := (σ.1 81 1).toInt) rfl rfl
      refine zv_aload_n (j := 0) G dX8_add_16 rfl rfl ?_
      refine zg_X8_9 G dX8_add_17 ?_
      refine zv_aload_n (j := 0) G dX8_add_20 rfl rfl ?_
      refine zg_X8_13 G dX8_add_21 ?_
      refine zv_lload_n (j := 1) G dX8_add_24 rfl rfl ?_
      refine zv_last G (by decide) rfl (fun _ => rfl) (z_in (z_ge0 c_4) (z_ltk c_13 (n := 12) rfl)) dX8_add_25 ?_
      refine zv_gen (R9 := wztl σ0) (wztl_b hz) (fun σ hz => ?_)
      refine zv_aload_n (j := 0) G dX8_add_26 rfl rfl ?_
      refine zv_dupO G dX8_add_27 ?_
      refine zg_X8_13 G dX8_add_28 ?_
      refine zv_iconst (v := 1) G dX8_add_31 (by decide) ?_
      refine zv_iadd G dX8_add_32 ?_
      refine zp_X8_13 G dX8_add_33 ?_
      refine zv_gen (R9 := wztl σ0) (wztl_a hz) (fun σ hz => ?_)
      exact zv_vret G hr dX8_add_36 hz
set_option maxHeartbeats 4000000 in
set_option maxRecDepth 100000 in
theorem zc_X8_tell_atx (l : Launch) (E : za_E) (a1 : Int64) (σ0 : za_S)  : zMv l E yX8_tell cX8_tell 3 (Option.none : Option Jvm.ClassFile.FieldType) 2 43 [za_O 9 81, za_L a1] σ0 (fun σ' => wztl σ0 σ') := by
  refine zMv_of [(0, za_O 9 81), (1, za_L a1)] (by decide) rfl rfl (Nat.le_of_ble_eq_true rfl) ?_
  intro ho p e s m args below meth c G hr
  refine zv_gen (R9 := wztl σ0) (wztl_r σ0) (fun σ hz => ?_)
  refine zv_aload_n (j := 0) G dX8_tell_0 rfl rfl ?_
  refine zv_callVv (as := []) G (by decide) rfl rfl (zc_X8_clear_atx l E  σ ) zk_X8_clear zm_531 rfl ⟨(Nat.le_of_ble_eq_true rfl), (Nat.le_of_ble_eq_true rfl)⟩ ⟨Nat.zero_le _, Nat.zero_le _⟩ (Nat.le_of_ble_eq_true rfl) dX8_tell_1 (fun σ h_1 => ?_)
  have hz9 := h_1
  have hz := wztl_t hz hz9
  refine zv_aload_n (j := 0) G dX8_tell_4 rfl rfl ?_
  refine zv_lload_n (j := 1) G dX8_tell_5 rfl rfl ?_
  refine zv_callVv (as := [za_L a1]) G (by decide) rfl rfl (zc_X8_add_atx l E a1 σ ) zk_X8_add zm_535 rfl ⟨(Nat.le_of_ble_eq_true rfl), (Nat.le_of_ble_eq_true rfl)⟩ ⟨Nat.zero_le _, Nat.zero_le _⟩ (Nat.le_of_ble_eq_true rfl) dX8_tell_6 (fun σ h_6 => ?_)
  have hz9 := h_6
  have hz := wztl_t hz hz9
  exact zv_vret G hr dX8_tell_9 hz
set_option maxHeartbeats 4000000 in
set_option maxRecDepth 100000 in
theorem zc_X8_tell__atx (l : Launch) (E : za_E) (a1 : Int64) (a2 : Int64) (σ0 : za_S)  : zMv l E yX8_tell_ cX8_tell_ 5 (Option.none : Option Jvm.ClassFile.FieldType) 3 65 [za_O 9 81, za_L a1, za_L a2] σ0 (fun σ' => wztl σ0 σ') := by
  refine zMv_of [(0, za_O 9 81), (1, za_L a1), (3, za_L a2)] (by decide) rfl rfl (Nat.le_of_ble_eq_true rfl) ?_
  intro ho p e s m args below meth c G hr
  refine zv_gen (R9 := wztl σ0) (wztl_r σ0) (fun σ hz => ?_)
  refine zv_aload_n (j := 0) G dX8_tell__0 rfl rfl ?_
  refine zv_lload_n (j := 1) G dX8_tell__1 rfl rfl ?_
  refine zv_callVv (as := [za_L a1]) G (by decide) rfl rfl (zc_X8_tell_atx l E a1 σ ) zk_X8_tell zm_612 rfl ⟨(Nat.le_of_ble_eq_true rfl), (Nat.le_of_ble_eq_true rfl)⟩ ⟨Nat.zero_le _, Nat.zero_le _⟩ (Nat.le_of_ble_eq_true rfl) dX8_tell__2 (fun σ h_2 => ?_)
  have hz9 := h_2
  have hz := wztl_t hz hz9
  refine zv_aload_n (j := 0) G dX8_tell__5 rfl rfl ?_
  refine zv_lload_n (j := 2) G dX8_tell__6 rfl rfl ?_
  refine zv_callVv (as := [za_L a2]) G (by decide) rfl rfl (zc_X8_add_atx l E a2 σ ) zk_X8_add zm_535 rfl ⟨(Nat.le_of_ble_eq_true rfl), (Nat.le_of_ble_eq_true rfl)⟩ ⟨Nat.zero_le _, Nat.zero_le _⟩ (Nat.le_of_ble_eq_true rfl) dX8_tell__7 (fun σ h_7 => ?_)
  have hz9 := h_7
  have hz := wztl_t hz hz9
  exact zv_vret G hr dX8_tell__10 hz
set_option maxHeartbeats 4000000 in
set_option maxRecDepth 100000 in
theorem zc_X1_clear_atx (l : Launch) (E : za_E) (w : Nat) (σ0 : za_S)  : zMv l E yX1_clear cX1_clear 2 (Option.none : Option Jvm.ClassFile.FieldType) 1 21 [za_O 13 w] σ0 (fun σ' => wzlc w 100 σ0 σ') := by
  refine zMv_of [(0, za_O 13 w)] (by decide) rfl rfl (Nat.le_of_ble_eq_true rfl) ?_
  intro ho p e s m args below meth c G hr
  have h_w : za_kd w = 13 := za_okO (by decide) (List.forall_mem_cons.mp ho).1
  refine zv_gen (R9 := (wzlc w 0 σ0)) (wzlc_0 w σ0) (fun σ hz => ?_)
  refine zv_iconst (v := 0) G dX1_clear_0 (by decide) ?_
  have J_2 : ∀ (n : Nat) (y1_2 : Int32) (σ : za_S) (hz : wzlc w y1_2.toInt.toNat σ0 σ) (i1_2 : 0 ≤ y1_2.toInt) (u1_2 : y1_2.toInt ≤ 100) (hn_2 : (2147483648 - y1_2.toInt).toNat < n), zV p l e (zRm 1 21) s m args below meth c E (za_A E) 2 0 0 (MQ below (va_Qv (fun σ' => wzlc w 100 σ0 σ') (zB E) (za_A E)) args s 0 0 (za_A E)) 2 [(0, za_O 13 w), (1, za_I y1_2)] [] σ := by
    intro n
    induction n with
    | zero => intro y1_2 σ hz i1_2 u1_2 hn; exact absurd hn (Nat.not_lt_zero _)
    | succ n ih_2 =>
      intro y1_2 σ hz i1_2 u1_2 hn_2
      refine zv_iload_n (j := 1) G dX1_clear_2 rfl rfl ?_
      refine zv_bipush (v := 100) G dX1_clear_3 (by decide) ?_
      refine zv_icmp_ge (tgt := 21) G dX1_clear_5 (by decide) (fun c_5 => ?_) (fun c_5 => ?_)
      · have k_5 := z_cle c_5 (a := 100) (b := y1_2.toInt) rfl rfl
        exact zv_vret G hr dX1_clear_21 (by rw [show y1_2.toInt.toNat = 100 by omega] at hz; exact hz)
      · have b_5 : 0 ≤ y1_2.toInt ∧ y1_2.toInt < 100 := ⟨i1_2, z_ltk c_5 rfl⟩
        have k_5 := z_cnle c_5 (a := 100) (b := y1_2.toInt) rfl rfl
        refine zv_aload_n (j := 0) G dX1_clear_8 rfl rfl ?_
        refine zg_X1_9 G dX1_clear_9 ?_
        refine zv_iload_n (j := 1) G dX1_clear_12 rfl rfl ?_
        refine zv_iconst (v := 0) G dX1_clear_13 (by decide) ?_
        refine zv_iast G (by decide) rfl (fun _ => rfl) (z_in i1_2 (z_ltk c_5 (n := 100) rfl)) dX1_clear_14 ?_
        refine zv_gen (R9 := (wzlc w (y1_2.toInt.toNat + 1) σ0)) (wzlc_s hz) (fun σ hz => ?_)
        obtain ⟨x_15, e_15⟩ : ∃ y : Int32, y = y1_2 + 1 := ⟨_, rfl⟩
        refine zv_iinc (j := 1) (v := x_15) (lv' := [(1, za_I x_15), (0, za_O 13 w)]) G dX1_clear_15 rfl (by rw [e_15]; rfl) (by decide) rfl ?_
        first | have q_15 := z_inc9 (by omega) e_15 | skip
        refine zv_goto (tgt := 2) G dX1_clear_18 (by decide) ?_
        refine zv_sub [1, 0] (lv' := [(0, za_O 13 w), (1, za_I x_15)]) rfl ?_
        exact ih_2 x_15 σ (by rw [show x_15.toInt.toNat = y1_2.toInt.toNat + 1 by omega]; exact hz) (by have := z_inc c_5 e_15; omega) (by have := z_inc9 (by omega) e_15; omega) (z_meas c_5 e_15 hn_2)
  refine zv_istore_n (lv' := [(1, za_I 0), (0, za_O 13 w)]) G dX1_clear_1 rfl (by decide) rfl ?_
  refine zv_sub [1, 0] (lv' := [(0, za_O 13 w), (1, za_I 0)]) rfl ?_
  exact J_2 _ (0 : Int32) σ hz (by decide) (by decide) (Nat.lt_succ_self _)
set_option maxHeartbeats 4000000 in
set_option maxRecDepth 100000 in
theorem zc_X1_add_atx (l : Launch) (E : za_E) (w : Nat) (fd : Int32) (td : Int32) (σ0 : za_S) (hp : 0 ≤ fd.toInt ∧ fd.toInt ≤ 100 ∧ td.toInt ≤ 100) : zMv l E yX1_add cX1_add 5 (Option.none : Option Jvm.ClassFile.FieldType) 1 21 [za_O 13 w, za_I fd, za_I td, za_I 1] σ0 (fun σ' => wzla9 w fd.toInt td.toInt σ0 σ') := by
  refine zMv_of [(0, za_O 13 w), (1, za_I fd), (2, za_I td), (3, za_I 1)] (by decide) rfl rfl (Nat.le_of_ble_eq_true rfl) ?_
  intro ho p e s m args below meth c G hr
  have h_w : za_kd w = 13 := za_okO (by decide) (List.forall_mem_cons.mp ho).1
  refine zv_gen (R9 := (fun σ => σ = σ0)) rfl (fun σ hz => ?_)
  have hz : wzla9 w fd.toInt fd.toInt σ0 σ := by rw [hz]; exact wzla9_0 (Int.le_refl _)
  refine zv_iconst (v := 0) G dX1_add_0 (by decide) ?_
  refine zv_iload_n (j := 1) G dX1_add_1 rfl rfl ?_
  refine zv_mmax G zm_590 zm_395 zm_147 zm_396 (Nat.le_of_ble_eq_true rfl) (Nat.le_of_ble_eq_true rfl) (Nat.zero_le _) (Nat.zero_le _) dX1_add_2 ?_
  refine zv_top (fun x_2 e_2 => ?_)
  have m_2 := wz_mxT e_2 (a := 0) rfl (b := fd.toInt) rfl
  have n_2 := wzmx_b 0 fd.toInt
  have J_7 : ∀ (n : Nat) (y4_7 : Int32) (σ : za_S) (hz : wzla9 w fd.toInt y4_7.toInt σ0 σ) (g_7 : fd.toInt ≤ y4_7.toInt ∧ y4_7.toInt ≤ 100 ∧ (y4_7.toInt = fd.toInt ∨ y4_7.toInt ≤ td.toInt)) (hn_7 : (2147483648 - y4_7.toInt).toNat < n), zV p l e (zRm 1 21) s m args below meth c E (za_A E) 5 0 0 (MQ below (va_Qv (fun σ' => wzla9 w fd.toInt td.toInt σ0 σ') (zB E) (za_A E)) args s 0 0 (za_A E)) 7 [(0, za_O 13 w), (2, za_I td), (3, za_I 1), (4, za_I y4_7)] [] σ := by
    intro n
    induction n with
    | zero => intro y4_7 σ hz g_7 hn; exact absurd hn (Nat.not_lt_zero _)
    | succ n ih_7 =>
      intro y4_7 σ hz g_7 hn_7
      refine zv_iload (j := 3) G dX1_add_7 rfl ?_
      refine zv_iload_n (j := 1) G dX1_add_9 rfl rfl ?_
      refine zv_icmp_ge (tgt := 37) G dX1_add_10 (by decide) (fun c_10 => ?_) (fun c_10 => ?_)
      · have k_10 := z_cle c_10 (a := td.toInt) (b := y4_7.toInt) rfl rfl
        exact zv_vret G hr dX1_add_37 (wzla9_e hz (fun d d0 d1 d2 => by omega))
      · have k_10 := z_cnle c_10 (a := td.toInt) (b := y4_7.toInt) rfl rfl
        refine zv_iload (j := 3) G dX1_add_13 rfl ?_
        refine zv_bipush (v := 100) G dX1_add_15 (by decide) ?_
        refine zv_icmp_ge (tgt := 37) G dX1_add_17 (by decide) (fun c_17 => ?_) (fun c_17 => ?_)
        · have k_17 := z_cle c_17 (a := 100) (b := y4_7.toInt) rfl rfl
          exact zv_vret G hr dX1_add_37 (wzla9_e hz (fun d d0 d1 d2 => by omega))
        · have k_17 := z_cnle c_17 (a := 100) (b := y4_7.toInt) rfl rfl
          refine zv_aload_n (j := 0) G dX1_add_20 rfl rfl ?_
          refine zg_X1_9 G dX1_add_21 ?_
          refine zv_iload (j := 3) G dX1_add_24 rfl ?_
          refine zv_dup2 G dX1_add_26 ?_
          refine zv_iald G (by decide) rfl (z_in (by omega) (by omega)) dX1_add_27 ?_
          refine zv_iload_n (j := 2) G dX1_add_28 rfl rfl ?_
          refine zv_iadd G dX1_add_29 ?_
          refine zv_iast G (by decide) rfl (fun _ => rfl) (z_in (by omega) (by omega)) dX1_add_30 ?_
          refine zv_gen (R9 := (wzla9 w fd.toInt ((y4_7.toInt.toNat : Nat) + 1) σ0)) (wzla9_s (by rw [show ((y4_7.toInt.toNat : Nat) : Int) = y4_7.toInt by omega]; exact hz) (by omega) (by omega)) (fun σ hz => ?_)
          obtain ⟨x_31, e_31⟩ : ∃ y : Int32, y = y4_7 + 1 := ⟨_, rfl⟩
          refine zv_iinc (j := 3) (v := x_31) (lv' := [(4, za_I x_31), (0, za_O 13 w), (2, za_I td), (3, za_I 1)]) G dX1_add_31 rfl (by rw [e_31]; rfl) (by decide) rfl ?_
          first | have q_31 := z_inc9 (by omega) e_31 | skip
          refine zv_goto (tgt := 7) G dX1_add_34 (by decide) ?_
          refine zv_sub [1, 2, 3, 0] (lv' := [(0, za_O 13 w), (2, za_I td), (3, za_I 1), (4, za_I x_31)]) rfl ?_
          exact ih_7 x_31 σ (by rw [show x_31.toInt = ((y4_7.toInt.toNat : Nat) : Int) + 1 by omega]; exact hz) (by omega) (z_meas c_10 e_31 hn_7)
  refine zv_istore (lv' := [(4, za_I x_2), (0, za_O 13 w), (1, za_I fd), (2, za_I td), (3, za_I 1)]) G dX1_add_5 (by decide) rfl ?_
  refine zv_sub [1, 3, 4, 0] (lv' := [(0, za_O 13 w), (2, za_I td), (3, za_I 1), (4, za_I x_2)]) rfl ?_
  exact J_7 _ x_2 σ (by rw [show x_2.toInt = fd.toInt by omega]; exact hz) (by omega) (Nat.lt_succ_self _)
set_option maxHeartbeats 4000000 in
set_option maxRecDepth 100000 in
theorem zc_X1_addRows_atx (l : Launch) (E : za_E) (w : Nat) (sw : Nat) (k : Int32) (L : List wzR) (σ0 : za_S) (hS : wzTb σ0 sw L) (hO : wzOk L) (hd : wzap sw w) (h0 : ∀ d : Nat, d < 100 → σ0.1 (w + 1) d = 0) : zMv l E yX1_addRows cX1_addRows 5 (Option.none : Option Jvm.ClassFile.FieldType) 3 64 [za_O 13 w, za_O 2 sw, za_I k, za_I 1] σ0 (fun σ' => wzlr w L k.toInt L.length σ0 σ') := by
  refine zMv_of [(0, za_O 13 w), (1, za_O 2 sw), (2, za_I k), (3, za_I 1)] (by decide) rfl rfl (Nat.le_of_ble_eq_true rfl) ?_
  intro ho p e s m args below meth c G hr
  have h_w : za_kd w = 13 := za_okO (by decide) (List.forall_mem_cons.mp ho).1
  have h_sw : za_kd sw = 2 := za_okO (by decide) (List.forall_mem_cons.mp (List.forall_mem_cons.mp ho).2).1
  have hn9 := hS.1
  have hb9 := hS.2.1
  refine zv_gen (R9 := (fun σ => σ = σ0)) rfl (fun σ hz => ?_)
  have hz : wzlr w L k.toInt 0 σ0 σ := by rw [hz]; exact wzlr_0 h0
  refine zv_iconst (v := 0) G dX1_addRows_0 (by decide) ?_
  have J_3 : ∀ (n : Nat) (y4_3 : Int32) (σ : za_S) (hz : wzlr w L k.toInt y4_3.toInt.toNat σ0 σ) (g_3 : y4_3.toInt ≤ L.length) (i4_3 : 0 ≤ y4_3.toInt) (hn_3 : (2147483648 - y4_3.toInt).toNat < n), zV p l e (zRm 3 64) s m args below meth c E (za_A E) 5 0 0 (MQ below (va_Qv (fun σ' => wzlr w L k.toInt L.length σ0 σ') (zB E) (za_A E)) args s 0 0 (za_A E)) 3 [(0, za_O 13 w), (1, za_O 2 sw), (2, za_I k), (3, za_I 1), (4, za_I y4_3)] [] σ := by
    intro n
    induction n with
    | zero => intro y4_3 σ hz g_3 i4_3 hn; exact absurd hn (Nat.not_lt_zero _)
    | succ n ih_3 =>
      intro y4_3 σ hz g_3 i4_3 hn_3
      have hn8 : (σ.1 sw 1).toInt = L.length := (wzTb_w hd hS hz.1).1
      refine zv_iload (j := 4) G dX1_addRows_3 rfl ?_
      refine zv_aload_n (j := 1) G dX1_addRows_5 rfl rfl ?_
      refine zg_X1_25 G dX1_addRows_6 ?_
      refine zv_icmp_ge (tgt := 48) G dX1_addRows_9 (by decide) (fun c_9 => ?_) (fun c_9 => ?_)
      · have k_9 := z_cle c_9 (a := (σ.1 sw 1).toInt) (b := y4_3.toInt) rfl rfl
        exact zv_vret G hr dX1_addRows_48 (by rw [show y4_3.toInt.toNat = L.length by omega] at hz; exact hz)
      · have k_9 := z_cnle c_9 (a := (σ.1 sw 1).toInt) (b := y4_3.toInt) rfl rfl
        refine zv_aload_n (j := 1) G dX1_addRows_12 rfl rfl ?_
        refine zv_iload (j := 4) G dX1_addRows_13 rfl ?_
        refine zv_iconst (v := 0) G dX1_addRows_15 (by decide) ?_
        refine zv_callVNi (as := [za_I y4_3, za_I 0]) G (by decide) rfl rfl (zc_X6_cell_at0 l E sw y4_3 L σ (wzTb_w hd hS hz.1) (by omega)) zk_X6_cell zm_585 rfl ⟨(Nat.le_of_ble_eq_true rfl), (Nat.le_of_ble_eq_true rfl)⟩ ⟨Nat.zero_le _, Nat.zero_le _⟩ (Nat.le_of_ble_eq_true rfl) dX1_addRows_16 (fun r_16 σ h_16 => ?_)
        obtain ⟨h_16, rfl⟩ := h_16
        refine zv_iload_n (j := 2) G dX1_addRows_19 rfl rfl ?_
        refine zv_icmp_ne (tgt := 42) G dX1_addRows_20 (by decide) (fun c_20 => ?_) (fun c_20 => ?_)
        · have k_20 := z_cne c_20 (a := r_16.toInt) (b := k.toInt) rfl rfl
          have hz : wzlr w L k.toInt (y4_3.toInt.toNat + 1) σ0 σ := wzlr_n hz (by omega)
          obtain ⟨x_42, e_42⟩ : ∃ y : Int32, y = y4_3 + 1 := ⟨_, rfl⟩
          refine zv_iinc (j := 4) (v := x_42) (lv' := [(4, za_I x_42), (0, za_O 13 w), (1, za_O 2 sw), (2, za_I k), (3, za_I 1)]) G dX1_addRows_42 rfl (by rw [e_42]; rfl) (by decide) rfl ?_
          first | have q_42 := z_inc9 (by omega) e_42 | skip
          refine zv_goto (tgt := 3) G dX1_addRows_45 (by decide) ?_
          refine zv_sub [1, 2, 3, 4, 0] (lv' := [(0, za_O 13 w), (1, za_O 2 sw), (2, za_I k), (3, za_I 1), (4, za_I x_42)]) rfl ?_
          exact ih_3 x_42 σ (by rw [show x_42.toInt.toNat = y4_3.toInt.toNat + 1 by omega]; exact hz) (by omega) (by have := z_inc c_9 e_42; omega) (z_meas c_9 e_42 hn_3)
        · have k_20 := z_ceq c_20 (a := r_16.toInt) (b := k.toInt) rfl rfl
          refine zv_aload_n (j := 0) G dX1_addRows_23 rfl rfl ?_
          refine zv_aload_n (j := 1) G dX1_addRows_24 rfl rfl ?_
          refine zv_iload (j := 4) G dX1_addRows_25 rfl ?_
          refine zv_iconst (v := 2) G dX1_addRows_27 (by decide) ?_
          refine zv_callVNi (as := [za_I y4_3, za_I 2]) G (by decide) rfl rfl (zc_X6_cell_at2 l E sw y4_3 L σ (wzTb_w hd hS hz.1) (by omega)) zk_X6_cell zm_585 rfl ⟨(Nat.le_of_ble_eq_true rfl), (Nat.le_of_ble_eq_true rfl)⟩ ⟨Nat.zero_le _, Nat.zero_le _⟩ (Nat.le_of_ble_eq_true rfl) dX1_addRows_28 (fun r_28 σ h_28 => ?_)
          obtain ⟨h_28, rfl⟩ := h_28
          refine zv_aload_n (j := 1) G dX1_addRows_31 rfl rfl ?_
          refine zv_iload (j := 4) G dX1_addRows_32 rfl ?_
          refine zv_iconst (v := 3) G dX1_addRows_34 (by decide) ?_
          refine zv_callVNi (as := [za_I y4_3, za_I 3]) G (by decide) rfl rfl (zc_X6_cell_at3 l E sw y4_3 L σ (wzTb_w hd hS hz.1) (by omega)) zk_X6_cell zm_585 rfl ⟨(Nat.le_of_ble_eq_true rfl), (Nat.le_of_ble_eq_true rfl)⟩ ⟨Nat.zero_le _, Nat.zero_le _⟩ (Nat.le_of_ble_eq_true rfl) dX1_addRows_35 (fun r_35 σ h_35 => ?_)
          obtain ⟨h_35, rfl⟩ := h_35
          refine zv_iload_n (j := 3) G dX1_addRows_38 rfl rfl ?_
          refine zv_callVv (as := [za_I r_28, za_I r_35, za_I 1]) G (by decide) rfl rfl (zc_X1_add_atx l E w r_28 r_35 σ (by have o2 := wzg_ok hO y4_3.toInt.toNat 2; have o3 := wzg_ok hO y4_3.toInt.toNat 3; omega)) zk_X1_add zm_586 rfl ⟨(Nat.le_of_ble_eq_true rfl), (Nat.le_of_ble_eq_true rfl)⟩ ⟨Nat.zero_le _, Nat.zero_le _⟩ (Nat.le_of_ble_eq_true rfl) dX1_addRows_39 (fun σ h_39 => ?_)
          have hz : wzlr w L k.toInt (y4_3.toInt.toNat + 1) σ0 σ := wzlr_y hz (by omega) (by omega) (by rw [← h_28, ← h_35]; exact h_39)
          obtain ⟨x_42, e_42⟩ : ∃ y : Int32, y = y4_3 + 1 := ⟨_, rfl⟩
          refine zv_iinc (j := 4) (v := x_42) (lv' := [(4, za_I x_42), (0, za_O 13 w), (1, za_O 2 sw), (2, za_I k), (3, za_I 1)]) G dX1_addRows_42 rfl (by rw [e_42]; rfl) (by decide) rfl ?_
          first | have q_42 := z_inc9 (by omega) e_42 | skip
          refine zv_goto (tgt := 3) G dX1_addRows_45 (by decide) ?_
          refine zv_sub [1, 2, 3, 4, 0] (lv' := [(0, za_O 13 w), (1, za_O 2 sw), (2, za_I k), (3, za_I 1), (4, za_I x_42)]) rfl ?_
          exact ih_3 x_42 σ (by rw [show x_42.toInt.toNat = y4_3.toInt.toNat + 1 by omega]; exact hz) (by omega) (by have := z_inc c_9 e_42; omega) (z_meas c_9 e_42 hn_3)
  refine zv_istore (lv' := [(4, za_I 0), (0, za_O 13 w), (1, za_O 2 sw), (2, za_I k), (3, za_I 1)]) G dX1_addRows_1 (by decide) rfl ?_
  refine zv_sub [1, 2, 3, 4, 0] (lv' := [(0, za_O 13 w), (1, za_O 2 sw), (2, za_I k), (3, za_I 1), (4, za_I 0)]) rfl ?_
  exact J_3 _ (0 : Int32) σ hz (by have h0 : (0 : Int32).toInt = 0 := (by decide); omega) (by decide) (Nat.lt_succ_self _)
set_option maxHeartbeats 4000000 in
set_option maxRecDepth 100000 in
theorem zc_X1_amount_atx (l : Launch) (E : za_E) (w : Nat) (d : Int32) (σ : za_S) (hd : 0 ≤ d.toInt ∧ d.toInt < 100) : zMi l E yX1_amount cX1_amount 2 (Option.some Jvm.ClassFile.FieldType.int) 2 41 [za_O 13 w, za_I d] σ (fun r σ' => (r = σ.1 (w + 1) d.toInt.toNat) ∧ σ' = σ) := by
  refine zMi_of [(0, za_O 13 w), (1, za_I d)] (by decide) rfl rfl (Nat.le_of_ble_eq_true rfl) ?_
  intro ho p e s m args below meth c G hr
  have h_w : za_kd w = 13 := za_okO (by decide) (List.forall_mem_cons.mp ho).1
  refine zv_iload_n (j := 1) G dX1_amount_0 rfl rfl ?_
  refine zv_callSNi (as := [za_I d]) G (zc_X9_isDay_atx l E d σ ) zk_X9_isDay zm_605 rfl ⟨(Nat.le_of_ble_eq_true rfl), (Nat.le_of_ble_eq_true rfl)⟩ ⟨Nat.zero_le _, Nat.zero_le _⟩ (Nat.le_of_ble_eq_true rfl) dX1_amount_1 (fun r_1 σ h_1 => ?_)
  obtain ⟨h_1, rfl⟩ := h_1
  refine zv_if_eq (tgt := 16) G dX1_amount_4 (by decide) (fun c_4 => ?_) (fun c_4 => ?_)
  · exact ((h_1.2.mpr hd) c_4).elim
  · have t_1 := h_1.2.mp c_4
    refine zv_aload_n (j := 0) G dX1_amount_7 rfl rfl ?_
    refine zg_X1_9 G dX1_amount_8 ?_
    refine zv_iload_n (j := 1) G dX1_amount_11 rfl rfl ?_
    refine zv_iald G (by decide) rfl (z_in hd.1 hd.2) dX1_amount_12 ?_
    refine zv_goto (tgt := 17) G dX1_amount_13 (by decide) ?_
    exact zv_iret G hr dX1_amount_17 ⟨rfl, rfl⟩
set_option maxHeartbeats 4000000 in
set_option maxRecDepth 100000 in
theorem zc_X1_stretchEnd_atx (l : Launch) (E : za_E) (w : Nat) (fd : Int32) (td : Int32) (σ : za_S) (hp : 0 ≤ fd.toInt ∧ fd.toInt < td.toInt ∧ td.toInt ≤ 100) (hc : ∀ d : Nat, fd.toInt ≤ d → (d : Int) < td.toInt → (σ.1 (w + 1) d).toInt = 1) : zMi l E yX1_stretchEnd cX1_stretchEnd 5 (Option.some Jvm.ClassFile.FieldType.int) 3 62 [za_O 13 w, za_I fd, za_I td] σ (fun r σ' => (r = td) ∧ σ' = σ) := by
  refine zMi_of [(0, za_O 13 w), (1, za_I fd), (2, za_I td)] (by decide) rfl rfl (Nat.le_of_ble_eq_true rfl) ?_
  intro ho p e s m args below meth c G hr
  have h_w : za_kd w = 13 := za_okO (by decide) (List.forall_mem_cons.mp ho).1
  refine zv_iload_n (j := 1) G dX1_stretchEnd_0 rfl rfl ?_
  refine zv_iconst (v := 1) G dX1_stretchEnd_1 (by decide) ?_
  refine zv_iadd G dX1_stretchEnd_2 ?_
  refine zv_top (fun x_3 e_3 => ?_)
  first | have q_3 := z_addf e_3 (a := fd.toInt) (b := 1) rfl rfl (by omega) (by omega) | skip
  refine zv_istore_n (lv' := [(3, za_I x_3), (0, za_O 13 w), (1, za_I fd), (2, za_I td)]) G dX1_stretchEnd_3 rfl (by decide) rfl ?_
  refine zv_iload_n (j := 2) G dX1_stretchEnd_4 rfl rfl ?_
  refine zv_iconst (v := 1) G dX1_stretchEnd_5 (by decide) ?_
  refine zv_iadd G dX1_stretchEnd_6 ?_
  have J_9 : ∀ (n : Nat) (y3_9 : Int32) (y4_9 : Int32) (g_9 : fd.toInt < y4_9.toInt ∧ y4_9.toInt ≤ td.toInt ∧ y3_9.toInt = y4_9.toInt) (hn_9 : (2147483648 - y4_9.toInt).toNat < n), zV p l e (zRm 3 62) s m args below meth c E (za_A E) 5 0 0 (MQ below (va_Qi (fun r σ' => (r = td) ∧ σ' = σ) (zB E) (za_A E)) args s 0 0 (za_A E)) 9 [(0, za_O 13 w), (1, za_I fd), (2, za_I td), (3, za_I y3_9), (4, za_I y4_9)] [] σ := by
    intro n
    induction n with
    | zero => intro y3_9 y4_9 g_9 hn; exact absurd hn (Nat.not_lt_zero _)
    | succ n ih_9 =>
      intro y3_9 y4_9 g_9 hn_9
      refine zv_iload (j := 4) G dX1_stretchEnd_9 rfl ?_
      refine zv_iload_n (j := 2) G dX1_stretchEnd_11 rfl rfl ?_
      refine zv_icmp_ge (tgt := 40) G dX1_stretchEnd_12 (by decide) (fun c_12 => ?_) (fun c_12 => ?_)
      · have k_12 := z_cle c_12 (a := td.toInt) (b := y4_9.toInt) rfl rfl
        refine zv_iload_n (j := 3) G dX1_stretchEnd_40 rfl rfl ?_
        exact zv_iret G hr dX1_stretchEnd_41 ⟨((z_eq _ _).mpr (by omega)), rfl⟩
      · have k_12 := z_cnle c_12 (a := td.toInt) (b := y4_9.toInt) rfl rfl
        refine zv_aload_n (j := 0) G dX1_stretchEnd_15 rfl rfl ?_
        refine zv_iload (j := 4) G dX1_stretchEnd_16 rfl ?_
        refine zv_callVi (as := [za_I y4_9]) G (by decide) rfl rfl (zc_X1_amount_atx l E w y4_9 σ (by omega)) zk_X1_amount zm_601 rfl ⟨(Nat.le_of_ble_eq_true rfl), (Nat.le_of_ble_eq_true rfl)⟩ ⟨Nat.zero_le _, Nat.zero_le _⟩ (Nat.le_of_ble_eq_true rfl) dX1_stretchEnd_18 (fun r_18 σ h_18 => ?_)
        obtain ⟨h_18, rfl⟩ := h_18
        refine zv_aload_n (j := 0) G dX1_stretchEnd_21 rfl rfl ?_
        refine zv_iload_n (j := 1) G dX1_stretchEnd_22 rfl rfl ?_
        refine zv_callVi (as := [za_I fd]) G (by decide) rfl rfl (zc_X1_amount_atx l E w fd σ (by omega)) zk_X1_amount zm_601 rfl ⟨(Nat.le_of_ble_eq_true rfl), (Nat.le_of_ble_eq_true rfl)⟩ ⟨Nat.zero_le _, Nat.zero_le _⟩ (Nat.le_of_ble_eq_true rfl) dX1_stretchEnd_23 (fun r_23 σ h_23 => ?_)
        obtain ⟨h_23, rfl⟩ := h_23
        refine zv_icmp_ne (tgt := 40) G dX1_stretchEnd_26 (by decide) (fun c_26 => ?_) (fun c_26 => ?_)
        · exact (c_26 (Int32.toInt_inj.mp (by rw [h_18, h_23, hc _ (by omega) (by omega), hc _ (by omega) (by omega)]))).elim
        · have k_26 := z_ceq c_26 (a := r_18.toInt) (b := r_23.toInt) rfl rfl
          refine zv_iload (j := 4) G dX1_stretchEnd_29 rfl ?_
          refine zv_iconst (v := 1) G dX1_stretchEnd_31 (by decide) ?_
          refine zv_iadd G dX1_stretchEnd_32 ?_
          refine zv_top (fun x_33 e_33 => ?_)
          first | have q_33 := z_addf e_33 (a := y4_9.toInt) (b := 1) rfl rfl (by omega) (by omega) | skip
          refine zv_istore_n (lv' := [(3, za_I x_33), (0, za_O 13 w), (1, za_I fd), (2, za_I td), (4, za_I y4_9)]) G dX1_stretchEnd_33 rfl (by decide) rfl ?_
          obtain ⟨x_34, e_34⟩ : ∃ y : Int32, y = y4_9 + 1 := ⟨_, rfl⟩
          refine zv_iinc (j := 4) (v := x_34) (lv' := [(4, za_I x_34), (3, za_I x_33), (0, za_O 13 w), (1, za_I fd), (2, za_I td)]) G dX1_stretchEnd_34 rfl (by rw [e_34]; rfl) (by decide) rfl ?_
          first | have q_34 := z_inc9 (by omega) e_34 | skip
          refine zv_goto (tgt := 9) G dX1_stretchEnd_37 (by decide) ?_
          refine zv_sub [2, 3, 4, 1, 0] (lv' := [(0, za_O 13 w), (1, za_I fd), (2, za_I td), (3, za_I x_33), (4, za_I x_34)]) rfl ?_
          exact ih_9 x_33 x_34 (by omega) (z_meas c_12 e_34 hn_9)
  refine zv_top (fun x_7 e_7 => ?_)
  first | have q_7 := z_addf e_7 (a := fd.toInt) (b := 1) rfl rfl (by omega) (by omega) | skip
  refine zv_istore (lv' := [(4, za_I x_7), (3, za_I x_3), (0, za_O 13 w), (1, za_I fd), (2, za_I td)]) G dX1_stretchEnd_7 (by decide) rfl ?_
  refine zv_sub [2, 3, 4, 1, 0] (lv' := [(0, za_O 13 w), (1, za_I fd), (2, za_I td), (3, za_I x_3), (4, za_I x_7)]) rfl ?_
  exact J_9 _ x_3 x_7 (by omega) (Nat.lt_succ_self _)
set_option maxHeartbeats 4000000 in
set_option maxRecDepth 100000 in
theorem zc_X9_taken_atx (l : Launch) (E : za_E) (a : Int32) (D : wzP) (σ0 : za_S) (hD : wzSt σ0 6 D) : zMi l E yX9_taken cX9_taken 2 (Option.some Jvm.ClassFile.FieldType.int) 3 102 [za_O 0 0, za_I a] σ0 (fun r σ' => ((D.1.length ≤ 20 ∧ D.2.length ≤ 20) ∧ r = a ∧ wzfs 1 σ0 σ' ∧ wzSt σ' 1 D ∧ σ'.1 1 2 = σ0.1 6 2) ∨ (¬ (D.1.length ≤ 20 ∧ D.2.length ≤ 20) ∧ r = -9 ∧ σ' = σ0)) := by
  refine zMi_of [(0, za_O 0 0), (1, za_I a)] (by decide) rfl rfl (Nat.le_of_ble_eq_true rfl) ?_
  intro ho p e s m args below meth c G hr
  have hn1 : (σ0.1 7 1).toInt = D.1.length := hD.1.1
  have hn2 : (σ0.1 9 1).toInt = D.2.length := hD.2.1
  refine zv_aload_n (j := 0) G dX9_taken_0 rfl rfl ?_
  refine zg_X9_16 G dX9_taken_1 ?_
  refine zg_X9_102 G dX9_taken_4 ?_
  refine zg_X9_106 G dX9_taken_7 ?_
  refine zv_bipush (v := 20) G dX9_taken_10 (by decide) ?_
  refine zv_icmp_gt (tgt := 30) G dX9_taken_12 (by decide) (fun c_12 => ?_) (fun c_12 => ?_)
  · have k_12 := z_clt c_12 (a := 20) (b := (σ0.1 7 1).toInt) rfl rfl
    refine zv_bipush (v := (-9)) G dX9_taken_30 (by decide) ?_
    exact zv_iret G hr dX9_taken_32 (Or.inr ⟨by omega, rfl, rfl⟩)
  · have k_12 := z_cnlt c_12 (a := 20) (b := (σ0.1 7 1).toInt) rfl rfl
    refine zv_aload_n (j := 0) G dX9_taken_15 rfl rfl ?_
    refine zg_X9_16 G dX9_taken_16 ?_
    refine zg_X9_179 G dX9_taken_19 ?_
    refine zg_X9_106 G dX9_taken_22 ?_
    refine zv_bipush (v := 20) G dX9_taken_25 (by decide) ?_
    refine zv_icmp_le (tgt := 33) G dX9_taken_27 (by decide) (fun c_27 => ?_) (fun c_27 => ?_)
    · have k_27 := z_cle c_27 (a := (σ0.1 9 1).toInt) (b := 20) rfl rfl
      refine zv_aload_n (j := 0) G dX9_taken_33 rfl rfl ?_
      refine zg_X9_10 G dX9_taken_34 ?_
      refine zv_aload_n (j := 0) G dX9_taken_37 rfl rfl ?_
      refine zg_X9_16 G dX9_taken_38 ?_
      refine zv_callVNv (as := [za_O 1 6]) G (by decide) rfl rfl (zc_X4_copyOf_atx l E 1 6 σ0 (Or.inr (by decide))) zk_X4_copyOf zm_475 rfl ⟨(Nat.le_of_ble_eq_true rfl), (Nat.le_of_ble_eq_true rfl)⟩ ⟨Nat.zero_le _, Nat.zero_le _⟩ (Nat.le_of_ble_eq_true rfl) dX9_taken_41 (fun σ h_41 => ?_)
      refine zv_iload_n (j := 1) G dX9_taken_44 rfl rfl ?_
      exact zv_iret G hr dX9_taken_45 (Or.inl ⟨by omega, rfl, h_41.1, h_41.2.1 D hD, h_41.2.2⟩)
    · have k_27 := z_cnle c_27 (a := (σ0.1 9 1).toInt) (b := 20) rfl rfl
      refine zv_bipush (v := (-9)) G dX9_taken_30 (by decide) ?_
      exact zv_iret G hr dX9_taken_32 (Or.inr ⟨by omega, rfl, rfl⟩)
set_option maxHeartbeats 4000000 in
set_option maxRecDepth 100000 in
theorem zc_X9_takenAndTold_atx (l : Launch) (E : za_E) (a : Int32) (t : Int32) (P : wzP) (D : wzP) (σ0 : za_S) (hD : wzSt σ0 6 D) (ht : t = 0 ∨ t = 1) : zMi l E yX9_takenAndTold cX9_takenAndTold 4 (Option.some Jvm.ClassFile.FieldType.int) 4 123 [za_O 0 0, za_I a, za_I t] σ0 (fun r σ' => ∃ σ1 r1, (((D.1.length ≤ 20 ∧ D.2.length ≤ 20) ∧ r1 = a ∧ wzfs 1 σ0 σ1 ∧ wzSt σ1 1 D ∧ σ1.1 1 2 = σ0.1 6 2) ∨ (¬ (D.1.length ≤ 20 ∧ D.2.length ≤ 20) ∧ r1 = -9 ∧ σ1 = σ0)) ∧ wztl σ1 σ') := by
  refine zMi_of [(0, za_O 0 0), (1, za_I a), (2, za_I t)] (by decide) rfl rfl (Nat.le_of_ble_eq_true rfl) ?_
  intro ho p e s m args below meth c G hr
  refine zv_gen (R9 := (fun σ => σ = σ0)) rfl (fun σ hz => ?_)
  refine zv_aload_n (j := 0) G dX9_takenAndTold_0 rfl rfl ?_
  refine zv_iload_n (j := 1) G dX9_takenAndTold_1 rfl rfl ?_
  refine zv_callVi (as := [za_I a]) G (by decide) rfl rfl (zc_X9_taken_atx l E a D σ (by rw [hz]; exact hD)) zk_X9_taken zm_489 rfl ⟨(Nat.le_of_ble_eq_true rfl), (Nat.le_of_ble_eq_true rfl)⟩ ⟨Nat.zero_le _, Nat.zero_le _⟩ (Nat.le_of_ble_eq_true rfl) dX9_takenAndTold_2 (fun r_2 σ h_2 => ?_)
  subst hz
  have hq := h_2
  have hz := wztl_r σ
  refine zv_istore_n (lv' := [(3, za_I r_2), (0, za_O 0 0), (1, za_I a), (2, za_I t)]) G dX9_takenAndTold_5 rfl (by decide) rfl ?_
  refine zv_iload_n (j := 0) G dX9_takenAndTold_6 rfl rfl ?_
  refine zv_if_lt (tgt := 29) G dX9_takenAndTold_7 (by decide) (fun c_7 => ?_) (fun c_7 => ?_)
  · have k_7 := z_clt c_7 (a := r_2.toInt) (b := 0) rfl rfl
    refine zv_iload_n (j := 0) G dX9_takenAndTold_29 rfl rfl ?_
    exact zv_iret G hr dX9_takenAndTold_30 ⟨_, _, hq, hz⟩
  · have k_7 := z_cnlt c_7 (a := r_2.toInt) (b := 0) rfl rfl
    refine zv_aload_n (j := 1) G dX9_takenAndTold_10 rfl rfl ?_
    refine zg_X9_40 G dX9_takenAndTold_11 ?_
    refine zv_aload_n (j := 1) G dX9_takenAndTold_14 rfl rfl ?_
    refine zg_X9_10 G dX9_takenAndTold_15 ?_
    refine zv_iload_n (j := 3) G dX9_takenAndTold_18 rfl rfl ?_
    refine zv_callVNr (as := [za_I t]) G (by decide) rfl rfl (zc_X4_table_atx l E 1 t σ (by first | assumption | decide | omega)) zk_X4_table zm_453 rfl ⟨(Nat.le_of_ble_eq_true rfl), (Nat.le_of_ble_eq_true rfl)⟩ ⟨Nat.zero_le _, Nat.zero_le _⟩ (Nat.le_of_ble_eq_true rfl) dX9_takenAndTold_19 (fun r_19 σ h_19 => ?_)
    obtain ⟨w_19, rfl, h_w_19, t_19, rfl⟩ := h_19
    refine zg_X9_106 G dX9_takenAndTold_22 ?_
    refine zv_i2l G dX9_takenAndTold_25 ?_
    refine zv_callVNv (as := [za_L ((σ.1 w_19 1).toInt64)]) G (by decide) rfl rfl (zc_X8_tell_atx l E ((σ.1 w_19 1).toInt64) σ ) zk_X8_tell zm_527 rfl ⟨(Nat.le_of_ble_eq_true rfl), (Nat.le_of_ble_eq_true rfl)⟩ ⟨Nat.zero_le _, Nat.zero_le _⟩ (Nat.le_of_ble_eq_true rfl) dX9_takenAndTold_26 (fun σ h_26 => ?_)
    have hz := wztl_t hz h_26
    refine zv_iload_n (j := 0) G dX9_takenAndTold_29 rfl rfl ?_
    exact zv_iret G hr dX9_takenAndTold_30 ⟨_, _, hq, hz⟩
set_option maxHeartbeats 4000000 in
set_option maxRecDepth 100000 in
theorem zc_X9_addRow_atx (l : Launch) (E : za_E) (t : Int32) (k : Int32) (v : Int32) (fd : Int32) (td : Int32) (P : wzP) (σ0 : za_S) (hN : wzNw σ0 P) (ht : t = 0 ∨ t = 1) (hk : 0 ≤ k.toInt ∧ k.toInt ≤ 9) (hv : 0 ≤ v.toInt ∧ v.toInt ≤ 99) (hp : (0 ≤ fd.toInt ∧ fd.toInt ≤ 99) ∧ fd.toInt < td.toInt ∧ td.toInt ≤ 100) : zMi l E yX9_addRow cX9_addRow 10 (Option.some Jvm.ClassFile.FieldType.int) 6 136 [za_O 0 0, za_I t, za_I k, za_I v, za_I fd, za_I td] σ0 (fun r σ' => wzpo (wzCadd t.toInt k.toInt v.toInt fd.toInt td.toInt) P σ0 σ') := by
  refine zMi_of [(0, za_O 0 0), (1, za_I t), (2, za_I k), (3, za_I v), (4, za_I fd), (5, za_I td)] (by decide) rfl rfl (Nat.le_of_ble_eq_true rfl) ?_
  intro ho p e s m args below meth c G hr
  have hpb : (0 ≤ fd.toInt ∧ fd.toInt ≤ 100) ∧ 0 ≤ td.toInt ∧ td.toInt ≤ 100 := by omega
  have hv9 := wzsl_v hN.2.2.1 t.toInt
  have ho9 := wzVs_ok hv9
  have h20 := wzsl_20 hN.2.2.2 t.toInt
  have t9 := wzt01 ht
  refine zv_gen (R9 := (wzdq P σ0)) (wzdq_0 hN) (fun σ hz => ?_)
  refine zv_iload_n (j := 1) G dX9_addRow_0 rfl rfl ?_
  refine zv_iload_n (j := 2) G dX9_addRow_1 rfl rfl ?_
  refine zv_iload (j := 4) G dX9_addRow_2 rfl ?_
  refine zv_iload (j := 5) G dX9_addRow_4 rfl ?_
  refine zv_callSi (as := [za_I t, za_I k, za_I fd, za_I td]) G (zc_X9_isPortion_atx l E t k fd td σ ) zk_X9_isPortion zm_435 rfl ⟨(Nat.le_of_ble_eq_true rfl), (Nat.le_of_ble_eq_true rfl)⟩ ⟨Nat.zero_le _, Nat.zero_le _⟩ (Nat.le_of_ble_eq_true rfl) dX9_addRow_6 (fun r_6 σ h_6 => ?_)
  obtain ⟨h_6, rfl⟩ := h_6
  refine zv_if_eq (tgt := 19) G dX9_addRow_9 (by decide) (fun c_9 => ?_) (fun c_9 => ?_)
  · exact ((h_6.2.mpr ⟨ht, by omega, hp⟩) c_9).elim
  · have t_6 := h_6.2.mp c_9
    refine zv_iload_n (j := 3) G dX9_addRow_12 rfl rfl ?_
    refine zv_callSi (as := [za_I v]) G (zc_X9_isValue_atx l E v σ ) zk_X9_isValue zm_450 rfl ⟨(Nat.le_of_ble_eq_true rfl), (Nat.le_of_ble_eq_true rfl)⟩ ⟨Nat.zero_le _, Nat.zero_le _⟩ (Nat.le_of_ble_eq_true rfl) dX9_addRow_13 (fun r_13 σ h_13 => ?_)
    obtain ⟨h_13, rfl⟩ := h_13
    refine zv_if_ne (tgt := 21) G dX9_addRow_16 (by decide) (fun c_16 => ?_) (fun c_16 => ?_)
    · have t_13 := h_13.2.mp c_16
      refine zv_aload_n (j := 0) G dX9_addRow_21 rfl rfl ?_
      refine zg_X9_10 G dX9_addRow_22 ?_
      refine zv_iload_n (j := 1) G dX9_addRow_25 rfl rfl ?_
      refine zv_callVNr (as := [za_I t]) G (by decide) rfl rfl (zc_X4_table_atx l E 1 t σ ht) zk_X4_table zm_453 rfl ⟨(Nat.le_of_ble_eq_true rfl), (Nat.le_of_ble_eq_true rfl)⟩ ⟨Nat.zero_le _, Nat.zero_le _⟩ (Nat.le_of_ble_eq_true rfl) dX9_addRow_26 (fun r_26 σ h_26 => ?_)
      obtain ⟨w_26, rfl, h_w_26, t_26, rfl⟩ := h_26
      refine zv_astore (lv' := [(6, za_O 2 w_26), (0, za_O 0 0), (1, za_I t), (2, za_I k), (3, za_I v), (4, za_I fd), (5, za_I td)]) G dX9_addRow_29 (by decide) rfl ?_
      refine zv_aload (j := 0) G dX9_addRow_31 rfl ?_
      refine zv_iload_n (j := 3) G dX9_addRow_33 rfl rfl ?_
      refine zv_iload (j := 5) G dX9_addRow_34 rfl ?_
      refine zv_iload (j := 6) G dX9_addRow_36 rfl ?_
      refine zv_callVNi (as := [za_I k, za_I fd, za_I td]) G (by decide) rfl rfl (zc_X6_touching_atx l E w_26 k fd td (wzsl P t.toInt) σ (wzSt_t hz.2.1 ht t_26) ho9 hpb) zk_X6_touching zm_457 rfl ⟨(Nat.le_of_ble_eq_true rfl), (Nat.le_of_ble_eq_true rfl)⟩ ⟨Nat.zero_le _, Nat.zero_le _⟩ (Nat.le_of_ble_eq_true rfl) dX9_addRow_38 (fun r_38 σ h_38 => ?_)
      obtain ⟨h_38, rfl⟩ := h_38
      have q_38 := h_38.1
      refine zv_if_le (tgt := 47) G dX9_addRow_41 (by decide) (fun c_41 => ?_) (fun c_41 => ?_)
      · have k_41 := z_cle c_41 (a := r_38.toInt) (b := 0) rfl rfl
        refine zv_aload_n (j := 1) G dX9_addRow_47 rfl rfl ?_
        refine zg_X9_16 G dX9_addRow_48 ?_
        refine zv_aload_n (j := 1) G dX9_addRow_51 rfl rfl ?_
        refine zg_X9_10 G dX9_addRow_52 ?_
        refine zv_callVNv (as := [za_O 1 1]) G (by decide) rfl rfl (zc_X4_copyOf_atx l E 6 1 σ (Or.inl (by decide))) zk_X4_copyOf zm_475 rfl ⟨(Nat.le_of_ble_eq_true rfl), (Nat.le_of_ble_eq_true rfl)⟩ ⟨Nat.zero_le _, Nat.zero_le _⟩ (Nat.le_of_ble_eq_true rfl) dX9_addRow_55 (fun σ h_55 => ?_)
        have hz := wzdr_0 hz h_55
        refine zv_aload_n (j := 1) G dX9_addRow_58 rfl rfl ?_
        refine zg_X9_16 G dX9_addRow_59 ?_
        refine zv_iload_n (j := 2) G dX9_addRow_62 rfl rfl ?_
        refine zv_callVNr (as := [za_I t]) G (by decide) rfl rfl (zc_X4_table_atx l E 6 t σ ht) zk_X4_table zm_453 rfl ⟨(Nat.le_of_ble_eq_true rfl), (Nat.le_of_ble_eq_true rfl)⟩ ⟨Nat.zero_le _, Nat.zero_le _⟩ (Nat.le_of_ble_eq_true rfl) dX9_addRow_63 (fun r_63 σ h_63 => ?_)
        obtain ⟨w_63, rfl, h_w_63, t_63, rfl⟩ := h_63
        refine zv_astore (lv' := [(7, za_O 2 w_63), (6, za_O 2 w_26), (0, za_O 0 0), (1, za_I t), (2, za_I k), (3, za_I v), (4, za_I fd), (5, za_I td)]) G dX9_addRow_66 (by decide) rfl ?_
        refine zv_aload (j := 1) G dX9_addRow_68 rfl ?_
        refine zv_iload_n (j := 4) G dX9_addRow_70 rfl rfl ?_
        refine zv_iload (j := 6) G dX9_addRow_71 rfl ?_
        refine zv_callVNi (as := [za_I k, za_I fd]) G (by decide) rfl rfl (zc_X6_numberFor_atx l E w_26 k fd (wzsl P t.toInt) σ (wzSt_t hz.1.2.1 ht t_26)) zk_X6_numberFor zm_476 rfl ⟨(Nat.le_of_ble_eq_true rfl), (Nat.le_of_ble_eq_true rfl)⟩ ⟨Nat.zero_le _, Nat.zero_le _⟩ (Nat.le_of_ble_eq_true rfl) dX9_addRow_73 (fun r_73 σ h_73 => ?_)
        obtain ⟨h_73, rfl⟩ := h_73
        refine zv_istore (lv' := [(8, za_I r_73), (7, za_O 2 w_63), (6, za_O 2 w_26), (0, za_O 0 0), (1, za_I t), (2, za_I k), (3, za_I v), (4, za_I fd), (5, za_I td)]) G dX9_addRow_76 (by decide) rfl ?_
        refine zv_aload (j := 1) G dX9_addRow_78 rfl ?_
        refine zv_iload (j := 0) G dX9_addRow_80 rfl ?_
        refine zp_X9_106 G dX9_addRow_82 ?_
        refine zv_gen (R9 := (fun σ => wzdr P (wzpu P t.toInt ((wzsl P t.toInt).take r_73.toInt.toNat)) σ0 σ ∧ wzTb σ w_63 ((wzsl P t.toInt).take r_73.toInt.toNat))) (wzad_0 hz ht t_63 h_73.2) (fun σ hz => ?_)
        refine zv_aload (j := 1) G dX9_addRow_85 rfl ?_
        refine zv_iload_n (j := 5) G dX9_addRow_87 rfl rfl ?_
        refine zv_iload_n (j := 6) G dX9_addRow_88 rfl rfl ?_
        refine zv_iload (j := 7) G dX9_addRow_89 rfl ?_
        refine zv_iload (j := 8) G dX9_addRow_91 rfl ?_
        refine zv_bipush (v := 10) G dX9_addRow_93 (by decide) ?_
        refine zv_callVNv (as := [za_I k, za_I v, za_I fd, za_I td, za_I 10]) G (by decide) rfl rfl (zc_X6_append_atx l E w_63 k v fd td (10 : Int32) _ σ hz.2 (by rw [List.length_take]; omega)) zk_X6_append zm_480 rfl ⟨(Nat.le_of_ble_eq_true rfl), (Nat.le_of_ble_eq_true rfl)⟩ ⟨Nat.zero_le _, Nat.zero_le _⟩ (Nat.le_of_ble_eq_true rfl) dX9_addRow_95 (fun σ h_95 => ?_)
        have hz := wzad_1 hz.1 ht t_63 h_95
        have hg9 : 0 ≤ r_73.toInt ∧ r_73.toInt ≤ (wzsl P t.toInt).length := h_73.2
        refine zv_iload (j := 0) G dX9_addRow_98 rfl ?_
        have J_102 : ∀ (n : Nat) (y9_102 : Int32) (σ : za_S) (hz : wzdr P (wzpu P t.toInt (wzin9 (wzsl P t.toInt) r_73.toInt.toNat (k.toInt, v.toInt, fd.toInt, td.toInt, 10) y9_102.toInt.toNat)) σ0 σ) (g_102 : r_73.toInt ≤ y9_102.toInt ∧ y9_102.toInt ≤ (wzsl P t.toInt).length) (hn_102 : (2147483648 - y9_102.toInt).toNat < n), zV p l e (zRm 6 136) s m args below meth c E (za_A E) 10 0 0 (MQ below (va_Qi (fun r σ' => wzpo (wzCadd t.toInt k.toInt v.toInt fd.toInt td.toInt) P σ0 σ') (zB E) (za_A E)) args s 0 0 (za_A E)) 102 [(0, za_O 0 0), (6, za_O 2 w_26), (7, za_O 2 w_63), (8, za_I r_73), (9, za_I y9_102)] [] σ := by
          intro n
          induction n with
          | zero => intro y9_102 σ hz g_102 hn; exact absurd hn (Nat.not_lt_zero _)
          | succ n ih_102 =>
            intro y9_102 σ hz g_102 hn_102
            have hn8 := (wzSt_t hz.1.2.1 ht t_26).1
            refine zv_iload (j := 4) G dX9_addRow_102 rfl ?_
            refine zv_aload (j := 1) G dX9_addRow_104 rfl ?_
            refine zg_X9_106 G dX9_addRow_106 ?_
            refine zv_icmp_ge (tgt := 130) G dX9_addRow_109 (by decide) (fun c_109 => ?_) (fun c_109 => ?_)
            · have k_109 := z_cle c_109 (a := (σ.1 w_26 1).toInt) (b := y9_102.toInt) rfl rfl
              refine zv_aload_n (j := 0) G dX9_addRow_130 rfl rfl ?_
              refine zv_iload (j := 3) G dX9_addRow_131 rfl ?_
              refine zv_callVi (as := [za_I r_73]) G (by decide) rfl rfl (zc_X9_taken_atx l E r_73 _ σ hz.2.1) zk_X9_taken zm_489 rfl ⟨(Nat.le_of_ble_eq_true rfl), (Nat.le_of_ble_eq_true rfl)⟩ ⟨Nat.zero_le _, Nat.zero_le _⟩ (Nat.le_of_ble_eq_true rfl) dX9_addRow_133 (fun r_133 σ h_133 => ?_)
              have hz := wzdr_t hz h_133
              exact zv_iret G hr dX9_addRow_136 (wzadd_f hN ht hk hv hp (wzal_no h_38.2 (by omega)) h_73 (by rw [show y9_102.toInt.toNat = (wzsl P t.toInt).length by omega] at hz; exact hz))
            · have k_109 := z_cnle c_109 (a := (σ.1 w_26 1).toInt) (b := y9_102.toInt) rfl rfl
              refine zv_aload (j := 2) G dX9_addRow_112 rfl ?_
              refine zv_aload (j := 1) G dX9_addRow_114 rfl ?_
              refine zv_iload (j := 4) G dX9_addRow_116 rfl ?_
              refine zv_iconst (v := 0) G dX9_addRow_118 (by decide) ?_
              refine zv_bipush (v := 100) G dX9_addRow_119 (by decide) ?_
              refine zv_callVNv (as := [za_O 2 w_26, za_I y9_102, za_I 0, za_I 100]) G (by decide) rfl rfl (zc_X6_appendPart_atx l E w_63 w_26 y9_102 (0 : Int32) (100 : Int32) (wzsl P t.toInt) _ σ (wzSt_t hz.1.2.1 ht t_26) (by omega) (wzSt_x hz ht t_63) (wzin_len h20)) zk_X6_appendPart zm_484 rfl ⟨(Nat.le_of_ble_eq_true rfl), (Nat.le_of_ble_eq_true rfl)⟩ ⟨Nat.zero_le _, Nat.zero_le _⟩ (Nat.le_of_ble_eq_true rfl) dX9_addRow_121 (fun σ h_121 => ?_)
              have hz := wzdr_p hz ht t_63 h_121
              obtain ⟨x_124, e_124⟩ : ∃ y : Int32, y = y9_102 + 1 := ⟨_, rfl⟩
              refine zv_iinc (j := 4) (v := x_124) (lv' := [(9, za_I x_124), (0, za_O 0 0), (6, za_O 2 w_26), (7, za_O 2 w_63), (8, za_I r_73)]) G dX9_addRow_124 rfl (by rw [e_124]; rfl) (by decide) rfl ?_
              first | have q_124 := z_inc9 (by omega) e_124 | skip
              refine zv_goto (tgt := 102) G dX9_addRow_127 (by decide) ?_
              refine zv_sub [1, 2, 3, 4, 0] (lv' := [(0, za_O 0 0), (6, za_O 2 w_26), (7, za_O 2 w_63), (8, za_I r_73), (9, za_I x_124)]) rfl ?_
              exact ih_102 x_124 σ (by rw [show x_124.toInt.toNat = y9_102.toInt.toNat + 1 by omega, wzin_s h20 (by omega) (by omega)]; exact hz) (by omega) (z_meas c_109 e_124 hn_102)
        refine zv_istore (lv' := [(9, za_I r_73), (8, za_I r_73), (7, za_O 2 w_63), (6, za_O 2 w_26), (0, za_O 0 0), (1, za_I t), (2, za_I k), (3, za_I v), (4, za_I fd), (5, za_I td)]) G dX9_addRow_100 (by decide) rfl ?_
        refine zv_sub [4, 3, 2, 1, 0] (lv' := [(0, za_O 0 0), (6, za_O 2 w_26), (7, za_O 2 w_63), (8, za_I r_73), (9, za_I r_73)]) rfl ?_
        exact J_102 _ r_73 σ hz (by omega) (Nat.lt_succ_self _)
      · have k_41 := z_cnle c_41 (a := r_38.toInt) (b := 0) rfl rfl
        refine zv_bipush (v := (-2)) G dX9_addRow_44 (by decide) ?_
        exact zv_iret G hr dX9_addRow_46 (wzpo_n hN hz (Or.inl ⟨wzal_yes h_38.2 (by omega), rfl⟩))
    · exact ((h_13.2.mpr (by omega)) c_16).elim
set_option maxHeartbeats 4000000 in
set_option maxRecDepth 100000 in
theorem zc_X9_setValue_atx (l : Launch) (E : za_E) (t : Int32) (k : Int32) (v : Int32) (fd : Int32) (td : Int32) (P : wzP) (σ0 : za_S) (hN : wzNw σ0 P) (ht : t = 0 ∨ t = 1) (hk : 0 ≤ k.toInt ∧ k.toInt ≤ 9) (hv : 0 ≤ v.toInt ∧ v.toInt ≤ 99) (hp : (0 ≤ fd.toInt ∧ fd.toInt ≤ 99) ∧ fd.toInt < td.toInt ∧ td.toInt ≤ 100) : zMi l E yX9_setValue cX9_setValue 8 (Option.some Jvm.ClassFile.FieldType.int) 6 146 [za_O 0 0, za_I t, za_I k, za_I v, za_I fd, za_I td] σ0 (fun r σ' => wzpo (wzCset t.toInt k.toInt 1 v.toInt fd.toInt td.toInt) P σ0 σ') := by
  refine zMi_of [(0, za_O 0 0), (1, za_I t), (2, za_I k), (3, za_I v), (4, za_I fd), (5, za_I td)] (by decide) rfl rfl (Nat.le_of_ble_eq_true rfl) ?_
  intro ho p e s m args below meth c G hr
  have hpb : (0 ≤ fd.toInt ∧ fd.toInt ≤ 100) ∧ 0 ≤ td.toInt ∧ td.toInt ≤ 100 := by omega
  have hv9 := wzsl_v hN.2.2.1 t.toInt
  have ho9 := wzVs_ok hv9
  have h20 := wzsl_20 hN.2.2.2 t.toInt
  have t9 := wzt01 ht
  refine zv_gen (R9 := (wzdq P σ0)) (wzdq_0 hN) (fun σ hz => ?_)
  refine zv_iload_n (j := 1) G dX9_setValue_0 rfl rfl ?_
  refine zv_iload_n (j := 2) G dX9_setValue_1 rfl rfl ?_
  refine zv_iload (j := 4) G dX9_setValue_2 rfl ?_
  refine zv_iload (j := 5) G dX9_setValue_4 rfl ?_
  refine zv_callSi (as := [za_I t, za_I k, za_I fd, za_I td]) G (zc_X9_isPortion_atx l E t k fd td σ ) zk_X9_isPortion zm_435 rfl ⟨(Nat.le_of_ble_eq_true rfl), (Nat.le_of_ble_eq_true rfl)⟩ ⟨Nat.zero_le _, Nat.zero_le _⟩ (Nat.le_of_ble_eq_true rfl) dX9_setValue_6 (fun r_6 σ h_6 => ?_)
  obtain ⟨h_6, rfl⟩ := h_6
  refine zv_if_eq (tgt := 19) G dX9_setValue_9 (by decide) (fun c_9 => ?_) (fun c_9 => ?_)
  · exact ((h_6.2.mpr ⟨ht, by omega, hp⟩) c_9).elim
  · have t_6 := h_6.2.mp c_9
    refine zv_iload_n (j := 3) G dX9_setValue_12 rfl rfl ?_
    refine zv_callSi (as := [za_I v]) G (zc_X9_isValue_atx l E v σ ) zk_X9_isValue zm_450 rfl ⟨(Nat.le_of_ble_eq_true rfl), (Nat.le_of_ble_eq_true rfl)⟩ ⟨Nat.zero_le _, Nat.zero_le _⟩ (Nat.le_of_ble_eq_true rfl) dX9_setValue_13 (fun r_13 σ h_13 => ?_)
    obtain ⟨h_13, rfl⟩ := h_13
    refine zv_if_ne (tgt := 21) G dX9_setValue_16 (by decide) (fun c_16 => ?_) (fun c_16 => ?_)
    · have t_13 := h_13.2.mp c_16
      refine zv_aload_n (j := 0) G dX9_setValue_21 rfl rfl ?_
      refine zg_X9_10 G dX9_setValue_22 ?_
      refine zv_iload_n (j := 1) G dX9_setValue_25 rfl rfl ?_
      refine zv_callVNr (as := [za_I t]) G (by decide) rfl rfl (zc_X4_table_atx l E 1 t σ ht) zk_X4_table zm_453 rfl ⟨(Nat.le_of_ble_eq_true rfl), (Nat.le_of_ble_eq_true rfl)⟩ ⟨Nat.zero_le _, Nat.zero_le _⟩ (Nat.le_of_ble_eq_true rfl) dX9_setValue_26 (fun r_26 σ h_26 => ?_)
      obtain ⟨w_26, rfl, h_w_26, t_26, rfl⟩ := h_26
      refine zv_astore (lv' := [(6, za_O 2 w_26), (0, za_O 0 0), (1, za_I t), (2, za_I k), (3, za_I v), (4, za_I fd), (5, za_I td)]) G dX9_setValue_29 (by decide) rfl ?_
      refine zv_aload (j := 0) G dX9_setValue_31 rfl ?_
      refine zv_iload_n (j := 3) G dX9_setValue_33 rfl rfl ?_
      refine zv_iload (j := 5) G dX9_setValue_34 rfl ?_
      refine zv_iload (j := 6) G dX9_setValue_36 rfl ?_
      refine zv_callVNi (as := [za_I k, za_I fd, za_I td]) G (by decide) rfl rfl (zc_X6_touching_atx l E w_26 k fd td (wzsl P t.toInt) σ (wzSt_t hz.2.1 ht t_26) ho9 hpb) zk_X6_touching zm_457 rfl ⟨(Nat.le_of_ble_eq_true rfl), (Nat.le_of_ble_eq_true rfl)⟩ ⟨Nat.zero_le _, Nat.zero_le _⟩ (Nat.le_of_ble_eq_true rfl) dX9_setValue_38 (fun r_38 σ h_38 => ?_)
      obtain ⟨h_38, rfl⟩ := h_38
      have q_38 := h_38.1
      refine zv_istore (lv' := [(7, za_I r_38), (6, za_O 2 w_26), (0, za_O 0 0), (1, za_I t), (2, za_I k), (3, za_I v), (4, za_I fd), (5, za_I td)]) G dX9_setValue_41 (by decide) rfl ?_
      refine zv_iload (j := 0) G dX9_setValue_43 rfl ?_
      refine zv_if_ne (tgt := 51) G dX9_setValue_45 (by decide) (fun c_45 => ?_) (fun c_45 => ?_)
      · refine zv_aload_n (j := 2) G dX9_setValue_51 rfl rfl ?_
        refine zg_X9_16 G dX9_setValue_52 ?_
        refine zv_aload_n (j := 2) G dX9_setValue_55 rfl rfl ?_
        refine zg_X9_10 G dX9_setValue_56 ?_
        refine zv_callVNv (as := [za_O 1 1]) G (by decide) rfl rfl (zc_X4_copyOf_atx l E 6 1 σ (Or.inl (by decide))) zk_X4_copyOf zm_475 rfl ⟨(Nat.le_of_ble_eq_true rfl), (Nat.le_of_ble_eq_true rfl)⟩ ⟨Nat.zero_le _, Nat.zero_le _⟩ (Nat.le_of_ble_eq_true rfl) dX9_setValue_59 (fun σ h_59 => ?_)
        have hz := wzdr_0 hz h_59
        refine zv_aload_n (j := 2) G dX9_setValue_62 rfl rfl ?_
        refine zg_X9_16 G dX9_setValue_63 ?_
        refine zv_iload_n (j := 3) G dX9_setValue_66 rfl rfl ?_
        refine zv_callVNr (as := [za_I t]) G (by decide) rfl rfl (zc_X4_table_atx l E 6 t σ ht) zk_X4_table zm_453 rfl ⟨(Nat.le_of_ble_eq_true rfl), (Nat.le_of_ble_eq_true rfl)⟩ ⟨Nat.zero_le _, Nat.zero_le _⟩ (Nat.le_of_ble_eq_true rfl) dX9_setValue_67 (fun r_67 σ h_67 => ?_)
        obtain ⟨w_67, rfl, h_w_67, t_67, rfl⟩ := h_67
        refine zv_aload (j := 1) G dX9_setValue_70 rfl ?_
        refine zv_iload_n (j := 4) G dX9_setValue_72 rfl rfl ?_
        refine zv_iload (j := 6) G dX9_setValue_73 rfl ?_
        refine zv_iload (j := 7) G dX9_setValue_75 rfl ?_
        refine zv_iconst (v := 1) G dX9_setValue_77 (by decide) ?_
        refine zv_iload_n (j := 5) G dX9_setValue_78 rfl rfl ?_
        refine zv_callVNv (as := [za_O 2 w_26, za_I k, za_I fd, za_I td, za_I 1, za_I v]) G (by decide) rfl rfl (zc_X6_fillChanged_atx l E w_67 w_26 k fd td (1 : Int32) v (wzsl P t.toInt) σ (wzSt_t hz.1.2.1 ht t_26) ho9 h20 (wzpd9 ht t_26 t_67) hpb (by decide)) zk_X6_fillChanged zm_509 rfl ⟨(Nat.le_of_ble_eq_true rfl), (Nat.le_of_ble_eq_true rfl)⟩ ⟨Nat.zero_le _, Nat.zero_le _⟩ (Nat.le_of_ble_eq_true rfl) dX9_setValue_79 (fun σ h_79 => ?_)
        have hz := wzdr_f hz ht t_67 h_79
        refine zv_aload_n (j := 2) G dX9_setValue_82 rfl rfl ?_
        refine zv_iload (j := 0) G dX9_setValue_83 rfl ?_
        refine zv_iload_n (j := 3) G dX9_setValue_85 rfl rfl ?_
        refine zv_callVi (as := [za_I r_38, za_I t]) G (by decide) rfl rfl (zc_X9_takenAndTold_atx l E r_38 t P _ σ hz.2.1 ht) zk_X9_takenAndTold zm_523 rfl ⟨(Nat.le_of_ble_eq_true rfl), (Nat.le_of_ble_eq_true rfl)⟩ ⟨Nat.zero_le _, Nat.zero_le _⟩ (Nat.le_of_ble_eq_true rfl) dX9_setValue_86 (fun r_86 σ h_86 => ?_)
        obtain ⟨σ9, r9, k9, l9⟩ := h_86
        have hz := wzdn_l (wzdr_t hz k9) l9
        exact zv_iret G hr dX9_setValue_89 (wzset_f hN (Or.inl ⟨rfl, hv⟩) (wzal_yes h_38.2 (fun e => c_45 (Int32.toInt_inj.mp e))) hz)
      · refine zv_bipush (v := (-2)) G dX9_setValue_48 (by decide) ?_
        exact zv_iret G hr dX9_setValue_50 (wzpo_n hN hz (Or.inl ⟨wzal_no h_38.2 (by rw [c_45]; rfl), rfl⟩))
    · exact ((h_13.2.mpr (by omega)) c_16).elim
set_option maxHeartbeats 4000000 in
set_option maxRecDepth 100000 in
theorem zc_X9_joinAlike_atx (l : Launch) (E : za_E) (t : Int32) (P : wzP) (σ0 : za_S) (hN : wzNw σ0 P) (ht : t = 0 ∨ t = 1) : zMi l E yX9_joinAlike cX9_joinAlike 4 (Option.some Jvm.ClassFile.FieldType.int) 6 128 [za_O 0 0, za_I t] σ0 (fun r σ' => wzpo (wzCjoin t.toInt) P σ0 σ') := by
  refine zMi_of [(0, za_O 0 0), (1, za_I t)] (by decide) rfl rfl (Nat.le_of_ble_eq_true rfl) ?_
  intro ho p e s m args below meth c G hr
  have hv9 := wzsl_v hN.2.2.1 t.toInt
  have ho9 := wzVs_ok hv9
  have h20 := wzsl_20 hN.2.2.2 t.toInt
  have t9 := wzt01 ht
  refine zv_gen (R9 := (wzdq P σ0)) (wzdq_0 hN) (fun σ hz => ?_)
  refine zv_iload_n (j := 1) G dX9_joinAlike_0 rfl rfl ?_
  refine zv_callSi (as := [za_I t]) G (zc_X9_isTable_atx l E t σ ) zk_X9_isTable zm_438 rfl ⟨(Nat.le_of_ble_eq_true rfl), (Nat.le_of_ble_eq_true rfl)⟩ ⟨Nat.zero_le _, Nat.zero_le _⟩ (Nat.le_of_ble_eq_true rfl) dX9_joinAlike_1 (fun r_1 σ h_1 => ?_)
  obtain ⟨h_1, rfl⟩ := h_1
  refine zv_if_ne (tgt := 9) G dX9_joinAlike_4 (by decide) (fun c_4 => ?_) (fun c_4 => ?_)
  · have t_1 := h_1.2.mp c_4
    refine zv_aload_n (j := 0) G dX9_joinAlike_9 rfl rfl ?_
    refine zg_X9_10 G dX9_joinAlike_10 ?_
    refine zv_iload_n (j := 1) G dX9_joinAlike_13 rfl rfl ?_
    refine zv_callVNr (as := [za_I t]) G (by decide) rfl rfl (zc_X4_table_atx l E 1 t σ ht) zk_X4_table zm_453 rfl ⟨(Nat.le_of_ble_eq_true rfl), (Nat.le_of_ble_eq_true rfl)⟩ ⟨Nat.zero_le _, Nat.zero_le _⟩ (Nat.le_of_ble_eq_true rfl) dX9_joinAlike_14 (fun r_14 σ h_14 => ?_)
    obtain ⟨w_14, rfl, h_w_14, t_14, rfl⟩ := h_14
    refine zv_astore_n (lv' := [(2, za_O 2 w_14), (0, za_O 0 0), (1, za_I t)]) G dX9_joinAlike_17 rfl (by decide) rfl ?_
    refine zv_aload_n (j := 0) G dX9_joinAlike_18 rfl rfl ?_
    refine zv_callVNi (as := []) G (by decide) rfl rfl (zc_X6_alikeNeighbours l E w_14 σ ) zk_X6_alikeNeighbours zm_634 rfl ⟨(Nat.le_of_ble_eq_true rfl), (Nat.le_of_ble_eq_true rfl)⟩ ⟨Nat.zero_le _, Nat.zero_le _⟩ (Nat.le_of_ble_eq_true rfl) dX9_joinAlike_19 (fun r_19 σ h_19 => ?_)
    subst h_19
    refine zv_istore_n (lv' := [(3, za_I r_19), (2, za_O 2 w_14), (0, za_O 0 0), (1, za_I t)]) G dX9_joinAlike_22 rfl (by decide) rfl ?_
    refine zv_aload_n (j := 2) G dX9_joinAlike_23 rfl rfl ?_
    refine zg_X9_16 G dX9_joinAlike_24 ?_
    refine zv_aload_n (j := 2) G dX9_joinAlike_27 rfl rfl ?_
    refine zg_X9_10 G dX9_joinAlike_28 ?_
    refine zv_callVNv (as := [za_O 1 1]) G (by decide) rfl rfl (zc_X4_copyOf_atx l E 6 1 σ (Or.inl (by decide))) zk_X4_copyOf zm_475 rfl ⟨(Nat.le_of_ble_eq_true rfl), (Nat.le_of_ble_eq_true rfl)⟩ ⟨Nat.zero_le _, Nat.zero_le _⟩ (Nat.le_of_ble_eq_true rfl) dX9_joinAlike_31 (fun σ h_31 => ?_)
    have hz := wzdr_0 hz h_31
    refine zv_aload_n (j := 2) G dX9_joinAlike_34 rfl rfl ?_
    refine zg_X9_16 G dX9_joinAlike_35 ?_
    refine zv_iload_n (j := 3) G dX9_joinAlike_38 rfl rfl ?_
    refine zv_callVNr (as := [za_I t]) G (by decide) rfl rfl (zc_X4_table_atx l E 6 t σ ht) zk_X4_table zm_453 rfl ⟨(Nat.le_of_ble_eq_true rfl), (Nat.le_of_ble_eq_true rfl)⟩ ⟨Nat.zero_le _, Nat.zero_le _⟩ (Nat.le_of_ble_eq_true rfl) dX9_joinAlike_39 (fun r_39 σ h_39 => ?_)
    obtain ⟨w_39, rfl, h_w_39, t_39, rfl⟩ := h_39
    refine zv_aload_n (j := 1) G dX9_joinAlike_42 rfl rfl ?_
    refine zv_callVNv (as := [za_O 2 w_14]) G (by decide) rfl rfl (zc_X6_fillJoined_atx l E w_39 w_14 (wzsl P t.toInt) σ (wzSt_t hz.1.2.1 ht t_14) ho9 h20 (wzpd9 ht t_14 t_39)) zk_X6_fillJoined zm_646 rfl ⟨(Nat.le_of_ble_eq_true rfl), (Nat.le_of_ble_eq_true rfl)⟩ ⟨Nat.zero_le _, Nat.zero_le _⟩ (Nat.le_of_ble_eq_true rfl) dX9_joinAlike_43 (fun σ h_43 => ?_)
    have hz := wzdr_f hz ht t_39 h_43
    refine zv_aload_n (j := 2) G dX9_joinAlike_46 rfl rfl ?_
    refine zv_iload_n (j := 0) G dX9_joinAlike_47 rfl rfl ?_
    refine zv_callVi (as := [za_I r_19]) G (by decide) rfl rfl (zc_X9_taken_atx l E r_19 _ σ hz.2.1) zk_X9_taken zm_489 rfl ⟨(Nat.le_of_ble_eq_true rfl), (Nat.le_of_ble_eq_true rfl)⟩ ⟨Nat.zero_le _, Nat.zero_le _⟩ (Nat.le_of_ble_eq_true rfl) dX9_joinAlike_48 (fun r_48 σ h_48 => ?_)
    have hz := wzdr_t hz h_48
    exact zv_iret G hr dX9_joinAlike_51 (wzjoin_f hN hz)
  · exact ((h_1.2.mpr ht) c_4).elim
set_option maxHeartbeats 4000000 in
set_option maxRecDepth 100000 in
theorem zc_X9_setRef_atx (l : Launch) (E : za_E) (k : Int32) (v : Int32) (fd : Int32) (td : Int32) (P : wzP) (σ0 : za_S) (hN : wzNw σ0 P) (hk : 0 ≤ k.toInt ∧ k.toInt ≤ 9) (hv : 0 ≤ v.toInt ∧ v.toInt ≤ 10) (hp : (0 ≤ fd.toInt ∧ fd.toInt ≤ 99) ∧ fd.toInt < td.toInt ∧ td.toInt ≤ 100) : zMi l E yX9_setRef cX9_setRef 6 (Option.some Jvm.ClassFile.FieldType.int) 6 146 [za_O 0 0, za_I k, za_I v, za_I fd, za_I td] σ0 (fun r σ' => wzpo (wzCref k.toInt v.toInt fd.toInt td.toInt) P σ0 σ') := by
  refine zMi_of [(0, za_O 0 0), (1, za_I k), (2, za_I v), (3, za_I fd), (4, za_I td)] (by decide) rfl rfl (Nat.le_of_ble_eq_true rfl) ?_
  intro ho p e s m args below meth c G hr
  have hpb : (0 ≤ fd.toInt ∧ fd.toInt ≤ 100) ∧ 0 ≤ td.toInt ∧ td.toInt ≤ 100 := by omega
  have hv9 := hN.2.2.1.1
  have ho9 := wzVs_ok hv9
  have h20 := hN.2.2.2.1
  have hV9 : wzVs (P.1.flatMap (wzfc k.toInt fd.toInt td.toInt 4 v.toInt)) := wzVs_fm (wzfc_v (Or.inr ⟨rfl, hv⟩)) hv9
  refine zv_gen (R9 := (wzdq P σ0)) (wzdq_0 hN) (fun σ hz => ?_)
  refine zv_iconst (v := 0) G dX9_setRef_0 (by decide) ?_
  refine zv_iload_n (j := 1) G dX9_setRef_1 rfl rfl ?_
  refine zv_iload_n (j := 3) G dX9_setRef_2 rfl rfl ?_
  refine zv_iload (j := 4) G dX9_setRef_3 rfl ?_
  refine zv_callSi (as := [za_I 0, za_I k, za_I fd, za_I td]) G (zc_X9_isPortion_atx l E (0 : Int32) k fd td σ ) zk_X9_isPortion zm_435 rfl ⟨(Nat.le_of_ble_eq_true rfl), (Nat.le_of_ble_eq_true rfl)⟩ ⟨Nat.zero_le _, Nat.zero_le _⟩ (Nat.le_of_ble_eq_true rfl) dX9_setRef_5 (fun r_5 σ h_5 => ?_)
  obtain ⟨h_5, rfl⟩ := h_5
  refine zv_if_eq (tgt := 21) G dX9_setRef_8 (by decide) (fun c_8 => ?_) (fun c_8 => ?_)
  · exact ((h_5.2.mpr ⟨Or.inl rfl, by omega, hp⟩) c_8).elim
  · have t_5 := h_5.2.mp c_8
    refine zv_iload_n (j := 2) G dX9_setRef_11 rfl rfl ?_
    refine zv_if_lt (tgt := 21) G dX9_setRef_12 (by decide) (fun c_12 => ?_) (fun c_12 => ?_)
    · exact absurd (z_neg c_12) (by omega)
    · have k_12 := z_cnlt c_12 (a := v.toInt) (b := 0) rfl rfl
      refine zv_iload_n (j := 2) G dX9_setRef_15 rfl rfl ?_
      refine zv_bipush (v := 10) G dX9_setRef_16 (by decide) ?_
      refine zv_icmp_le (tgt := 23) G dX9_setRef_18 (by decide) (fun c_18 => ?_) (fun c_18 => ?_)
      · have k_18 := z_cle c_18 (a := v.toInt) (b := 10) rfl rfl
        refine zv_aload_n (j := 0) G dX9_setRef_23 rfl rfl ?_
        refine zg_X9_10 G dX9_setRef_24 ?_
        refine zg_X9_102 G dX9_setRef_27 ?_
        refine zv_iload_n (j := 1) G dX9_setRef_30 rfl rfl ?_
        refine zv_iload_n (j := 3) G dX9_setRef_31 rfl rfl ?_
        refine zv_iload (j := 4) G dX9_setRef_32 rfl ?_
        refine zv_callVNi (as := [za_I k, za_I fd, za_I td]) G (by decide) rfl rfl (zc_X6_touching_atx l E 2 k fd td P.1 σ hz.2.1.1 ho9 hpb) zk_X6_touching zm_457 rfl ⟨(Nat.le_of_ble_eq_true rfl), (Nat.le_of_ble_eq_true rfl)⟩ ⟨Nat.zero_le _, Nat.zero_le _⟩ (Nat.le_of_ble_eq_true rfl) dX9_setRef_34 (fun r_34 σ h_34 => ?_)
        obtain ⟨h_34, rfl⟩ := h_34
        refine zv_istore (lv' := [(5, za_I r_34), (0, za_O 0 0), (1, za_I k), (2, za_I v), (3, za_I fd), (4, za_I td)]) G dX9_setRef_37 (by decide) rfl ?_
        refine zv_iload (j := 0) G dX9_setRef_39 rfl ?_
        refine zv_if_ne (tgt := 47) G dX9_setRef_41 (by decide) (fun c_41 => ?_) (fun c_41 => ?_)
        · refine zv_aload_n (j := 1) G dX9_setRef_47 rfl rfl ?_
          refine zg_X9_16 G dX9_setRef_48 ?_
          refine zv_aload_n (j := 1) G dX9_setRef_51 rfl rfl ?_
          refine zg_X9_10 G dX9_setRef_52 ?_
          refine zv_callVNv (as := [za_O 1 1]) G (by decide) rfl rfl (zc_X4_copyOf_atx l E 6 1 σ (Or.inl (by decide))) zk_X4_copyOf zm_475 rfl ⟨(Nat.le_of_ble_eq_true rfl), (Nat.le_of_ble_eq_true rfl)⟩ ⟨Nat.zero_le _, Nat.zero_le _⟩ (Nat.le_of_ble_eq_true rfl) dX9_setRef_55 (fun σ h_55 => ?_)
          have hz := wzdr_0 hz h_55
          refine zv_aload_n (j := 1) G dX9_setRef_58 rfl rfl ?_
          refine zg_X9_16 G dX9_setRef_59 ?_
          refine zg_X9_102 G dX9_setRef_62 ?_
          refine zv_aload_n (j := 1) G dX9_setRef_65 rfl rfl ?_
          refine zg_X9_10 G dX9_setRef_66 ?_
          refine zg_X9_102 G dX9_setRef_69 ?_
          refine zv_iload_n (j := 2) G dX9_setRef_72 rfl rfl ?_
          refine zv_iload_n (j := 4) G dX9_setRef_73 rfl rfl ?_
          refine zv_iload (j := 5) G dX9_setRef_74 rfl ?_
          refine zv_iconst (v := 4) G dX9_setRef_76 (by decide) ?_
          refine zv_iload_n (j := 3) G dX9_setRef_77 rfl rfl ?_
          refine zv_callVNv (as := [za_O 2 2, za_I k, za_I fd, za_I td, za_I 4, za_I v]) G (by decide) rfl rfl (zc_X6_fillChanged_atx l E 7 2 k fd td (4 : Int32) v P.1 σ hz.1.2.1.1 ho9 h20 ⟨by decide, by decide, by decide⟩ hpb (by decide)) zk_X6_fillChanged zm_509 rfl ⟨(Nat.le_of_ble_eq_true rfl), (Nat.le_of_ble_eq_true rfl)⟩ ⟨Nat.zero_le _, Nat.zero_le _⟩ (Nat.le_of_ble_eq_true rfl) dX9_setRef_78 (fun σ h_78 => ?_)
          have hz : wzdr P (P.1.flatMap (wzfc k.toInt fd.toInt td.toInt 4 v.toInt), P.2) σ0 σ := wzdr_f (t := 0) hz (Or.inl rfl) rfl h_78
          refine zv_aload_n (j := 1) G dX9_setRef_81 rfl rfl ?_
          refine zg_X9_16 G dX9_setRef_82 ?_
          refine zv_callVNi (as := []) G (by decide) rfl rfl (zc_X4_isHeld_atx l E 6 (P.1.flatMap (wzfc k.toInt fd.toInt td.toInt 4 v.toInt)) P.2 σ hz.2.1.1 hz.2.1.2 (wzVs_ok hV9) (wzVs_ok hN.2.2.1.2)) zk_X4_isHeld zm_547 rfl ⟨(Nat.le_of_ble_eq_true rfl), (Nat.le_of_ble_eq_true rfl)⟩ ⟨Nat.zero_le _, Nat.zero_le _⟩ (Nat.le_of_ble_eq_true rfl) dX9_setRef_85 (fun r_85 σ h_85 => ?_)
          obtain ⟨h_85, rfl⟩ := h_85
          refine zv_if_eq (tgt := 101) G dX9_setRef_88 (by decide) (fun c_88 => ?_) (fun c_88 => ?_)
          · have f_85 := fun q9 => (h_85.2.mpr q9) c_88
            refine zv_bipush (v := (-3)) G dX9_setRef_101 (by decide) ?_
            exact zv_iret G hr dX9_setRef_103 (by first | exact wzref_1 hN hV9 (wzal_yes h_34.2 (fun e => c_41 (Int32.toInt_inj.mp e))) t_85 hz | exact wzref_0 hN (wzal_yes h_34.2 (fun e => c_41 (Int32.toInt_inj.mp e))) f_85 hz)
          · have t_85 := h_85.2.mp c_88
            refine zv_aload_n (j := 1) G dX9_setRef_91 rfl rfl ?_
            refine zv_iload (j := 0) G dX9_setRef_92 rfl ?_
            refine zv_iconst (v := 0) G dX9_setRef_94 (by decide) ?_
            refine zv_callVi (as := [za_I r_34, za_I 0]) G (by decide) rfl rfl (zc_X9_takenAndTold_atx l E r_34 (0 : Int32) P (P.1.flatMap (wzfc k.toInt fd.toInt td.toInt 4 v.toInt), P.2) σ hz.2.1 (Or.inl rfl)) zk_X9_takenAndTold zm_523 rfl ⟨(Nat.le_of_ble_eq_true rfl), (Nat.le_of_ble_eq_true rfl)⟩ ⟨Nat.zero_le _, Nat.zero_le _⟩ (Nat.le_of_ble_eq_true rfl) dX9_setRef_95 (fun r_95 σ h_95 => ?_)
            obtain ⟨σ9, r9, k9, l9⟩ := h_95
            have hz := wzdn_l (wzdr_t hz k9) l9
            refine zv_goto (tgt := 103) G dX9_setRef_98 (by decide) ?_
            exact zv_iret G hr dX9_setRef_103 (by first | exact wzref_1 hN hV9 (wzal_yes h_34.2 (fun e => c_41 (Int32.toInt_inj.mp e))) t_85 hz | exact wzref_0 hN (wzal_yes h_34.2 (fun e => c_41 (Int32.toInt_inj.mp e))) f_85 hz)
        · refine zv_bipush (v := (-2)) G dX9_setRef_44 (by decide) ?_
          exact zv_iret G hr dX9_setRef_46 (wzpo_n hN hz (Or.inl ⟨wzal_no h_34.2 (by rw [c_41]; rfl), rfl⟩))
      · exact absurd (z_cnle c_18 (a := v.toInt) (b := 10) rfl rfl) (by omega)
set_option maxHeartbeats 4000000 in
set_option maxRecDepth 100000 in
theorem zc_X9_followWayInRow_atx (l : Launch) (E : za_E) (sw : Nat) (i : Int32) (L : List wzR) (T : List wzR) (σ0 : za_S) (hS : wzTb σ0 sw L) (hv : wzvd (wzg L i.toInt.toNat)) (hi : 0 ≤ i.toInt) (hT : wzTb σ0 7 T) (hl : T.length ≤ 90000) (hc : ∀ d : Nat, wzcm 2 (wzg L i.toInt.toNat) ≤ d → (d : Int) < wzcm 3 (wzg L i.toInt.toNat) → (σ0.1 86 d).toInt = 1) : zMi l E yX9_followWayInRow cX9_followWayInRow 9 (Option.some Jvm.ClassFile.FieldType.int) 4 90 [za_O 0 0, za_O 2 sw, za_I i] σ0 (fun r σ' => wzfl 7 σ0 σ' (T ++ wzpt (wzg L i.toInt.toNat) 0 100)) := by
  refine zMi_of [(0, za_O 0 0), (1, za_O 2 sw), (2, za_I i)] (by decide) rfl rfl (Nat.le_of_ble_eq_true rfl) ?_
  intro ho p e s m args below meth c G hr
  have h_sw : za_kd sw = 2 := za_okO (by decide) (List.forall_mem_cons.mp (List.forall_mem_cons.mp ho).2).1
  have h9 := hv.2.2.1
  refine zv_gen (R9 := (fun σ => σ = σ0)) rfl (fun σ hz => ?_)
  refine zv_iconst (v := 0) G dX9_followWayInRow_0 (by decide) ?_
  refine zv_istore_n (lv' := [(3, za_I 0), (0, za_O 0 0), (1, za_O 2 sw), (2, za_I i)]) G dX9_followWayInRow_1 rfl (by decide) rfl ?_
  refine zv_aload_n (j := 2) G dX9_followWayInRow_2 rfl rfl ?_
  refine zv_iload_n (j := 3) G dX9_followWayInRow_3 rfl rfl ?_
  refine zv_iconst (v := 2) G dX9_followWayInRow_4 (by decide) ?_
  refine zv_callVNi (as := [za_I i, za_I 2]) G (by decide) rfl rfl (zc_X6_cell_at2 l E sw i L σ (by rw [hz]; exact hS) hi) zk_X6_cell zm_592 rfl ⟨(Nat.le_of_ble_eq_true rfl), (Nat.le_of_ble_eq_true rfl)⟩ ⟨Nat.zero_le _, Nat.zero_le _⟩ (Nat.le_of_ble_eq_true rfl) dX9_followWayInRow_5 (fun r_5 σ h_5 => ?_)
  obtain ⟨h_5, rfl⟩ := h_5
  refine zv_istore (lv' := [(4, za_I r_5), (3, za_I 0), (0, za_O 0 0), (1, za_O 2 sw), (2, za_I i)]) G dX9_followWayInRow_8 (by decide) rfl ?_
  refine zv_aload_n (j := 3) G dX9_followWayInRow_10 rfl rfl ?_
  refine zv_iload_n (j := 4) G dX9_followWayInRow_11 rfl rfl ?_
  refine zv_iconst (v := 3) G dX9_followWayInRow_12 (by decide) ?_
  refine zv_callVNi (as := [za_I i, za_I 3]) G (by decide) rfl rfl (zc_X6_cell_at3 l E sw i L σ (by rw [hz]; exact hS) hi) zk_X6_cell zm_592 rfl ⟨(Nat.le_of_ble_eq_true rfl), (Nat.le_of_ble_eq_true rfl)⟩ ⟨Nat.zero_le _, Nat.zero_le _⟩ (Nat.le_of_ble_eq_true rfl) dX9_followWayInRow_13 (fun r_13 σ h_13 => ?_)
  obtain ⟨h_13, rfl⟩ := h_13
  refine zv_istore (lv' := [(5, za_I r_13), (4, za_I r_5), (3, za_I 0), (0, za_O 0 0), (1, za_O 2 sw), (2, za_I i)]) G dX9_followWayInRow_16 (by decide) rfl ?_
  refine zv_iconst (v := 0) G dX9_followWayInRow_18 (by decide) ?_
  have J_21 : ∀ (n : Nat) (y3_21 : Int32) (y4_21 : Int32) (y6_21 : Int32) (σ : za_S) (hz : (y6_21.toInt = 0 ∧ y4_21 = r_5 ∧ σ = σ0) ∨ (y4_21 = r_13 ∧ wzfl 7 σ0 σ (T ++ wzpt (wzg L i.toInt.toNat) 0 100))) (i6_21 : 0 ≤ y6_21.toInt) (u6_21 : y6_21.toInt ≤ 100) (hn_21 : (2147483648 - y6_21.toInt).toNat < n), zV p l e (zRm 4 90) s m args below meth c E (za_A E) 9 0 0 (MQ below (va_Qi (fun r σ' => wzfl 7 σ0 σ' (T ++ wzpt (wzg L i.toInt.toNat) 0 100)) (zB E) (za_A E)) args s 0 0 (za_A E)) 21 [(0, za_O 0 0), (1, za_O 2 sw), (2, za_I i), (3, za_I y3_21), (4, za_I y4_21), (5, za_I r_13), (6, za_I y6_21)] [] σ := by
    intro n
    induction n with
    | zero => intro y3_21 y4_21 y6_21 σ hz i6_21 u6_21 hn; exact absurd hn (Nat.not_lt_zero _)
    | succ n ih_21 =>
      intro y3_21 y4_21 y6_21 σ hz i6_21 u6_21 hn_21
      refine zv_iload (j := 6) G dX9_followWayInRow_21 rfl ?_
      refine zv_bipush (v := 100) G dX9_followWayInRow_23 (by decide) ?_
      refine zv_icmp_ge (tgt := 151) G dX9_followWayInRow_25 (by decide) (fun c_25 => ?_) (fun c_25 => ?_)
      · have k_25 := z_cle c_25 (a := 100) (b := y6_21.toInt) rfl rfl
        refine zv_iload_n (j := 3) G dX9_followWayInRow_151 rfl rfl ?_
        exact zv_iret G hr dX9_followWayInRow_152 (by rcases hz with ⟨a1, a2, -⟩ | ⟨-, h⟩; (exfalso; have h8 := congrArg Int32.toInt a2; omega); exact h)
      · have b_25 : 0 ≤ y6_21.toInt ∧ y6_21.toInt < 100 := ⟨i6_21, z_ltk c_25 rfl⟩
        have k_25 := z_cnle c_25 (a := 100) (b := y6_21.toInt) rfl rfl
        refine zv_iload (j := 4) G dX9_followWayInRow_28 rfl ?_
        refine zv_iload (j := 5) G dX9_followWayInRow_30 rfl ?_
        refine zv_icmp_ge (tgt := 151) G dX9_followWayInRow_32 (by decide) (fun c_32 => ?_) (fun c_32 => ?_)
        · have k_32 := z_cle c_32 (a := r_13.toInt) (b := y4_21.toInt) rfl rfl
          refine zv_iload_n (j := 3) G dX9_followWayInRow_151 rfl rfl ?_
          exact zv_iret G hr dX9_followWayInRow_152 (by rcases hz with ⟨a1, a2, -⟩ | ⟨-, h⟩; (exfalso; have h8 := congrArg Int32.toInt a2; omega); exact h)
        · have k_32 := z_cnle c_32 (a := r_13.toInt) (b := y4_21.toInt) rfl rfl
          obtain ⟨-, e4, hz⟩ := hz.resolve_right (fun q => by have h8 := congrArg Int32.toInt q.1; omega)
          refine zv_aload_n (j := 0) G dX9_followWayInRow_35 rfl rfl ?_
          refine zg_X9_54 G dX9_followWayInRow_36 ?_
          refine zv_iload (j := 4) G dX9_followWayInRow_39 rfl ?_
          refine zv_iload (j := 5) G dX9_followWayInRow_41 rfl ?_
          refine zv_callVNi (as := [za_I y4_21, za_I r_13]) G (by decide) rfl rfl (zc_X1_stretchEnd_atx l E 85 y4_21 r_13 σ (by rw [e4, h_5, h_13]; omega) (fun d d1 d2 => by rw [hz]; exact hc d (by rw [← h_5, ← e4]; exact d1) (by rw [← h_13]; exact d2))) zk_X1_stretchEnd zm_597 rfl ⟨(Nat.le_of_ble_eq_true rfl), (Nat.le_of_ble_eq_true rfl)⟩ ⟨Nat.zero_le _, Nat.zero_le _⟩ (Nat.le_of_ble_eq_true rfl) dX9_followWayInRow_43 (fun r_43 σ h_43 => ?_)
          obtain ⟨h_43, rfl⟩ := h_43
          refine zv_istore (lv' := [(7, za_I r_43), (0, za_O 0 0), (1, za_O 2 sw), (2, za_I i), (3, za_I y3_21), (4, za_I y4_21), (5, za_I r_13), (6, za_I y6_21)]) G dX9_followWayInRow_46 (by decide) rfl ?_
          refine zv_aload_n (j := 1) G dX9_followWayInRow_48 rfl rfl ?_
          refine zg_X9_54 G dX9_followWayInRow_49 ?_
          refine zv_iload (j := 5) G dX9_followWayInRow_52 rfl ?_
          refine zv_callVNi (as := [za_I y4_21]) G (by decide) rfl rfl (zc_X1_amount_atx l E 85 y4_21 σ (by rw [e4, h_5]; omega)) zk_X1_amount zm_606 rfl ⟨(Nat.le_of_ble_eq_true rfl), (Nat.le_of_ble_eq_true rfl)⟩ ⟨Nat.zero_le _, Nat.zero_le _⟩ (Nat.le_of_ble_eq_true rfl) dX9_followWayInRow_54 (fun r_54 σ h_54 => ?_)
          obtain ⟨h_54, rfl⟩ := h_54
          have a_54 : r_54.toInt = 1 := by rw [h_54, hz]; exact hc _ (by rw [e4, h_5]; omega) (by rw [e4, h_5]; omega)
          refine zv_if_ne (tgt := 64) G dX9_followWayInRow_57 (by decide) (fun c_57 => ?_) (fun c_57 => ?_)
          · refine zv_iconst (v := 0) G dX9_followWayInRow_64 (by decide) ?_
            refine zv_istore (lv' := [(8, za_I 0), (7, za_I r_43), (0, za_O 0 0), (1, za_O 2 sw), (2, za_I i), (3, za_I y3_21), (4, za_I y4_21), (5, za_I r_13), (6, za_I y6_21)]) G dX9_followWayInRow_65 (by decide) rfl ?_
            refine zv_iload (j := 0) G dX9_followWayInRow_67 rfl ?_
            refine zv_if_eq (tgt := 80) G dX9_followWayInRow_69 (by decide) (fun c_69 => ?_) (fun c_69 => ?_)
            · have k_69 := z_ceq c_69 (a := 0) (b := 0) rfl rfl
              refine zv_iload (j := 0) G dX9_followWayInRow_80 rfl ?_
              refine zv_if_eq (tgt := 96) G dX9_followWayInRow_82 (by decide) (fun c_82 => ?_) (fun c_82 => ?_)
              · have k_82 := z_ceq c_82 (a := 0) (b := 0) rfl rfl
                refine zv_aload_n (j := 2) G dX9_followWayInRow_96 rfl rfl ?_
                refine zg_X9_16 G dX9_followWayInRow_97 ?_
                refine zg_X9_102 G dX9_followWayInRow_100 ?_
                refine zv_aload_n (j := 3) G dX9_followWayInRow_103 rfl rfl ?_
                refine zv_iload_n (j := 4) G dX9_followWayInRow_104 rfl rfl ?_
                refine zv_iload (j := 6) G dX9_followWayInRow_105 rfl ?_
                refine zv_iload (j := 1) G dX9_followWayInRow_107 rfl ?_
                refine zv_callVNv (as := [za_O 2 sw, za_I i, za_I y4_21, za_I r_43]) G (by decide) rfl rfl (zc_X6_appendPart_atx l E 7 sw i y4_21 r_43 L T σ (by rw [hz]; exact hS) hi (by rw [hz]; exact hT) hl) zk_X6_appendPart zm_484 rfl ⟨(Nat.le_of_ble_eq_true rfl), (Nat.le_of_ble_eq_true rfl)⟩ ⟨Nat.zero_le _, Nat.zero_le _⟩ (Nat.le_of_ble_eq_true rfl) dX9_followWayInRow_109 (fun σ h_109 => ?_)
                have hB : wzfl 7 σ0 σ (T ++ wzpt (wzg L i.toInt.toNat) 0 100) := wzfi_1 hz hv (by rw [e4]; exact h_5) (by rw [h_43]; exact h_13) h_109
                refine zv_iload (j := 0) G dX9_followWayInRow_112 rfl ?_
                refine zv_if_eq (tgt := 141) G dX9_followWayInRow_114 (by decide) (fun c_114 => ?_) (fun c_114 => ?_)
                · have k_114 := z_ceq c_114 (a := 0) (b := 0) rfl rfl
                  refine zv_iload (j := 1) G dX9_followWayInRow_141 rfl ?_
                  refine zv_istore (lv' := [(4, za_I r_43), (8, za_I 0), (7, za_I r_43), (0, za_O 0 0), (1, za_O 2 sw), (2, za_I i), (3, za_I y3_21), (5, za_I r_13), (6, za_I y6_21)]) G dX9_followWayInRow_143 (by decide) rfl ?_
                  obtain ⟨x_145, e_145⟩ : ∃ y : Int32, y = y6_21 + 1 := ⟨_, rfl⟩
                  refine zv_iinc (j := 8) (v := x_145) (lv' := [(6, za_I x_145), (4, za_I r_43), (8, za_I 0), (7, za_I r_43), (0, za_O 0 0), (1, za_O 2 sw), (2, za_I i), (3, za_I y3_21), (5, za_I r_13)]) G dX9_followWayInRow_145 rfl (by rw [e_145]; rfl) (by decide) rfl ?_
                  first | have q_145 := z_inc9 (by omega) e_145 | skip
                  refine zv_goto (tgt := 21) G dX9_followWayInRow_148 (by decide) ?_
                  refine zv_sub [4, 5, 6, 7, 1, 8, 0] (lv' := [(0, za_O 0 0), (1, za_O 2 sw), (2, za_I i), (3, za_I y3_21), (4, za_I r_43), (5, za_I r_13), (6, za_I x_145)]) rfl ?_
                  exact ih_21 y3_21 r_43 x_145 σ (Or.inr ⟨h_43, hB⟩) (by have := z_inc c_25 e_145; omega) (by have := z_inc9 (by omega) e_145; omega) (z_meas c_25 e_145 hn_21)
                · exact absurd c_114 (by decide)
              · exact absurd c_82 (by decide)
            · exact absurd c_69 (by decide)
          · exact absurd (congrArg Int32.toInt c_57) (by rw [a_54]; decide)
  refine zv_istore (lv' := [(6, za_I 0), (5, za_I r_13), (4, za_I r_5), (3, za_I 0), (0, za_O 0 0), (1, za_O 2 sw), (2, za_I i)]) G dX9_followWayInRow_19 (by decide) rfl ?_
  refine zv_sub [4, 5, 6, 3, 2, 1, 0] (lv' := [(0, za_O 0 0), (1, za_O 2 sw), (2, za_I i), (3, za_I 0), (4, za_I r_5), (5, za_I r_13), (6, za_I 0)]) rfl ?_
  exact J_21 _ (0 : Int32) r_5 (0 : Int32) σ (Or.inl ⟨rfl, rfl, hz⟩) (by decide) (by decide) (Nat.lt_succ_self _)
set_option maxHeartbeats 4000000 in
set_option maxRecDepth 100000 in
theorem zc_X9_followWay_atx (l : Launch) (E : za_E) (k : Int32) (A : List wzR) (B : List wzR) (σ0 : za_S) (hA : wzTb σ0 2 A) (hB : wzTb σ0 9 B) (hV : wzVs A) (h20 : A.length ≤ 20) (hO : wzOk B) (hc : wzcv A B k.toInt) : zMi l E yX9_followWay cX9_followWay 5 (Option.some Jvm.ClassFile.FieldType.int) 5 118 [za_O 0 0, za_I k] σ0 (fun r σ' => wzff A σ0 σ' A.length) := by
  refine zMi_of [(0, za_O 0 0), (1, za_I k)] (by decide) rfl rfl (Nat.le_of_ble_eq_true rfl) ?_
  intro ho p e s m args below meth c G hr
  have hn9 := hA.1
  refine zv_gen (R9 := (fun σ => σ = σ0)) rfl (fun σ hz => ?_)
  refine zv_aload_n (j := 0) G dX9_followWay_0 rfl rfl ?_
  refine zg_X9_54 G dX9_followWay_1 ?_
  refine zv_callVNv (as := []) G (by decide) rfl rfl (zc_X1_clear_atx l E 85 σ ) zk_X1_clear zm_577 rfl ⟨(Nat.le_of_ble_eq_true rfl), (Nat.le_of_ble_eq_true rfl)⟩ ⟨Nat.zero_le _, Nat.zero_le _⟩ (Nat.le_of_ble_eq_true rfl) dX9_followWay_4 (fun σ h_4 => ?_)
  have h4 := h_4
  refine zv_aload_n (j := 0) G dX9_followWay_7 rfl rfl ?_
  refine zg_X9_54 G dX9_followWay_8 ?_
  refine zv_aload_n (j := 0) G dX9_followWay_11 rfl rfl ?_
  refine zg_X9_16 G dX9_followWay_12 ?_
  refine zg_X9_179 G dX9_followWay_15 ?_
  refine zv_iload_n (j := 1) G dX9_followWay_18 rfl rfl ?_
  refine zv_iconst (v := 1) G dX9_followWay_19 (by decide) ?_
  refine zv_callVNv (as := [za_O 2 9, za_I k, za_I 1]) G (by decide) rfl rfl (zc_X1_addRows_atx l E 85 9 k B σ (by rw [hz] at h4; exact wzTb_w ⟨by decide, by decide, by decide⟩ hB h4.1) hO ⟨by decide, by decide, by decide⟩ h4.2) zk_X1_addRows zm_581 rfl ⟨(Nat.le_of_ble_eq_true rfl), (Nat.le_of_ble_eq_true rfl)⟩ ⟨Nat.zero_le _, Nat.zero_le _⟩ (Nat.le_of_ble_eq_true rfl) dX9_followWay_20 (fun σ h_20 => ?_)
  have hz := wzff_1 hz h4 h_20
  refine zv_aload_n (j := 0) G dX9_followWay_23 rfl rfl ?_
  refine zg_X9_10 G dX9_followWay_24 ?_
  refine zg_X9_102 G dX9_followWay_27 ?_
  refine zv_astore_n (lv' := [(2, za_O 2 2), (0, za_O 0 0), (1, za_I k)]) G dX9_followWay_30 rfl (by decide) rfl ?_
  refine zv_aload_n (j := 1) G dX9_followWay_31 rfl rfl ?_
  refine zg_X9_16 G dX9_followWay_32 ?_
  refine zg_X9_102 G dX9_followWay_35 ?_
  refine zv_callVNv (as := []) G (by decide) rfl rfl (zc_X6_clear_atx l E 7 σ ) zk_X6_clear zm_591 rfl ⟨(Nat.le_of_ble_eq_true rfl), (Nat.le_of_ble_eq_true rfl)⟩ ⟨Nat.zero_le _, Nat.zero_le _⟩ (Nat.le_of_ble_eq_true rfl) dX9_followWay_38 (fun σ h_38 => ?_)
  have hz := wzff_2 (A := A) hz h_38
  refine zv_iconst (v := 0) G dX9_followWay_41 (by decide) ?_
  refine zv_istore_n (lv' := [(3, za_I 0), (2, za_O 2 2), (0, za_O 0 0), (1, za_I k)]) G dX9_followWay_42 rfl (by decide) rfl ?_
  refine zv_iconst (v := 0) G dX9_followWay_43 (by decide) ?_
  have J_46 : ∀ (n : Nat) (y3_46 : Int32) (y4_46 : Int32) (σ : za_S) (hz : wzff A σ0 σ y4_46.toInt.toNat ∧ ∀ d : Nat, d < 100 → (σ.1 86 d).toInt = wzsm (wzln B k.toInt d) B.length) (g_46 : y4_46.toInt ≤ A.length) (i4_46 : 0 ≤ y4_46.toInt) (hn_46 : (2147483648 - y4_46.toInt).toNat < n), zV p l e (zRm 5 118) s m args below meth c E (za_A E) 5 0 0 (MQ below (va_Qi (fun r σ' => wzff A σ0 σ' A.length) (zB E) (za_A E)) args s 0 0 (za_A E)) 46 [(0, za_O 0 0), (1, za_I k), (2, za_O 2 2), (3, za_I y3_46), (4, za_I y4_46)] [] σ := by
    intro n
    induction n with
    | zero => intro y3_46 y4_46 σ hz g_46 i4_46 hn; exact absurd hn (Nat.not_lt_zero _)
    | succ n ih_46 =>
      intro y3_46 y4_46 σ hz g_46 i4_46 hn_46
      have hn8 := (wzff_A hz.1 hA).1
      refine zv_iload (j := 4) G dX9_followWay_46 rfl ?_
      refine zv_aload_n (j := 2) G dX9_followWay_48 rfl rfl ?_
      refine zg_X9_106 G dX9_followWay_49 ?_
      refine zv_icmp_ge (tgt := 101) G dX9_followWay_52 (by decide) (fun c_52 => ?_) (fun c_52 => ?_)
      · have k_52 := z_cle c_52 (a := (σ.1 2 1).toInt) (b := y4_46.toInt) rfl rfl
        refine zv_iload_n (j := 3) G dX9_followWay_101 rfl rfl ?_
        exact zv_iret G hr dX9_followWay_102 (by rw [show y4_46.toInt.toNat = A.length by omega] at hz; exact hz.1)
      · have k_52 := z_cnle c_52 (a := (σ.1 2 1).toInt) (b := y4_46.toInt) rfl rfl
        refine zv_aload_n (j := 2) G dX9_followWay_55 rfl rfl ?_
        refine zv_iload (j := 4) G dX9_followWay_56 rfl ?_
        refine zv_iconst (v := 4) G dX9_followWay_58 (by decide) ?_
        refine zv_callVNi (as := [za_I y4_46, za_I 4]) G (by decide) rfl rfl (zc_X6_cell_at4 l E 2 y4_46 A σ (wzff_A hz.1 hA) (by omega)) zk_X6_cell zm_592 rfl ⟨(Nat.le_of_ble_eq_true rfl), (Nat.le_of_ble_eq_true rfl)⟩ ⟨Nat.zero_le _, Nat.zero_le _⟩ (Nat.le_of_ble_eq_true rfl) dX9_followWay_59 (fun r_59 σ h_59 => ?_)
        obtain ⟨h_59, rfl⟩ := h_59
        refine zv_iload_n (j := 1) G dX9_followWay_62 rfl rfl ?_
        refine zv_icmp_ne (tgt := 79) G dX9_followWay_63 (by decide) (fun c_63 => ?_) (fun c_63 => ?_)
        · have k_63 := z_cne c_63 (a := r_59.toInt) (b := k.toInt) rfl rfl
          refine zv_aload_n (j := 0) G dX9_followWay_79 rfl rfl ?_
          refine zg_X9_16 G dX9_followWay_80 ?_
          refine zg_X9_102 G dX9_followWay_83 ?_
          refine zv_aload_n (j := 2) G dX9_followWay_86 rfl rfl ?_
          refine zv_iload (j := 4) G dX9_followWay_87 rfl ?_
          refine zv_iconst (v := 0) G dX9_followWay_89 (by decide) ?_
          refine zv_bipush (v := 100) G dX9_followWay_90 (by decide) ?_
          refine zv_callVNv (as := [za_O 2 2, za_I y4_46, za_I 0, za_I 100]) G (by decide) rfl rfl (zc_X6_appendPart_atx l E 7 2 y4_46 (0 : Int32) (100 : Int32) A _ σ (wzff_A hz.1 hA) (by omega) hz.1.2 (wzff_len h20)) zk_X6_appendPart zm_484 rfl ⟨(Nat.le_of_ble_eq_true rfl), (Nat.le_of_ble_eq_true rfl)⟩ ⟨Nat.zero_le _, Nat.zero_le _⟩ (Nat.le_of_ble_eq_true rfl) dX9_followWay_92 (fun σ h_92 => ?_)
          have hz := wzff_3 hz h_92
          obtain ⟨x_95, e_95⟩ : ∃ y : Int32, y = y4_46 + 1 := ⟨_, rfl⟩
          refine zv_iinc (j := 4) (v := x_95) (lv' := [(4, za_I x_95), (0, za_O 0 0), (1, za_I k), (2, za_O 2 2), (3, za_I y3_46)]) G dX9_followWay_95 rfl (by rw [e_95]; rfl) (by decide) rfl ?_
          first | have q_95 := z_inc9 (by omega) e_95 | skip
          refine zv_goto (tgt := 46) G dX9_followWay_98 (by decide) ?_
          refine zv_sub [1, 2, 3, 4, 0] (lv' := [(0, za_O 0 0), (1, za_I k), (2, za_O 2 2), (3, za_I y3_46), (4, za_I x_95)]) rfl ?_
          exact ih_46 y3_46 x_95 σ (by rw [show x_95.toInt.toNat = y4_46.toInt.toNat + 1 by omega]; exact wzff_4 h20 (by omega) hz) (by omega) (by have := z_inc c_52 e_95; omega) (z_meas c_52 e_95 hn_46)
        · have k_63 := z_ceq c_63 (a := r_59.toInt) (b := k.toInt) rfl rfl
          refine zv_iload_n (j := 3) G dX9_followWay_66 rfl rfl ?_
          refine zv_aload_n (j := 0) G dX9_followWay_67 rfl rfl ?_
          refine zv_aload_n (j := 2) G dX9_followWay_68 rfl rfl ?_
          refine zv_iload (j := 4) G dX9_followWay_69 rfl ?_
          refine zv_callVi (as := [za_O 2 2, za_I y4_46]) G (by decide) rfl rfl (zc_X9_followWayInRow_atx l E 2 y4_46 A _ σ (wzff_A hz.1 hA) (by rw [wzg_20 (by omega) (by omega)]; exact hV.1 _ (List.getElem_mem (by omega))) (by omega) hz.1.2 (wzff_len h20) (fun d d1 d2 => by have o3 := wzg_ok (wzVs_ok hV) y4_46.toInt.toNat 3; rw [hz.2 d (by omega)]; exact (hc y4_46.toInt.toNat (by omega) (by omega)).2 d d1 d2)) zk_X9_followWayInRow zm_593 rfl ⟨(Nat.le_of_ble_eq_true rfl), (Nat.le_of_ble_eq_true rfl)⟩ ⟨Nat.zero_le _, Nat.zero_le _⟩ (Nat.le_of_ble_eq_true rfl) dX9_followWay_71 (fun r_71 σ h_71 => ?_)
          have hz := wzff_3 hz h_71
          refine zv_iadd G dX9_followWay_74 ?_
          refine zv_top (fun x_75 e_75 => ?_)
          first | have q_75 := z_addf e_75 (a := y3_46.toInt) (b := r_71.toInt) rfl rfl (by omega) (by omega) | skip
          refine zv_istore_n (lv' := [(3, za_I x_75), (0, za_O 0 0), (1, za_I k), (2, za_O 2 2), (4, za_I y4_46)]) G dX9_followWay_75 rfl (by decide) rfl ?_
          refine zv_goto (tgt := 95) G dX9_followWay_76 (by decide) ?_
          obtain ⟨x_95, e_95⟩ : ∃ y : Int32, y = y4_46 + 1 := ⟨_, rfl⟩
          refine zv_iinc (j := 4) (v := x_95) (lv' := [(4, za_I x_95), (3, za_I x_75), (0, za_O 0 0), (1, za_I k), (2, za_O 2 2)]) G dX9_followWay_95 rfl (by rw [e_95]; rfl) (by decide) rfl ?_
          first | have q_95 := z_inc9 (by omega) e_95 | skip
          refine zv_goto (tgt := 46) G dX9_followWay_98 (by decide) ?_
          refine zv_sub [2, 3, 4, 1, 0] (lv' := [(0, za_O 0 0), (1, za_I k), (2, za_O 2 2), (3, za_I x_75), (4, za_I x_95)]) rfl ?_
          exact ih_46 x_75 x_95 σ (by rw [show x_95.toInt.toNat = y4_46.toInt.toNat + 1 by omega]; exact wzff_4 h20 (by omega) hz) (by omega) (by have := z_inc c_52 e_95; omega) (z_meas c_52 e_95 hn_46)
  refine zv_istore (lv' := [(4, za_I 0), (3, za_I 0), (2, za_O 2 2), (0, za_O 0 0), (1, za_I k)]) G dX9_followWay_44 (by decide) rfl ?_
  refine zv_sub [3, 4, 2, 1, 0] (lv' := [(0, za_O 0 0), (1, za_I k), (2, za_O 2 2), (3, za_I 0), (4, za_I 0)]) rfl ?_
  exact J_46 _ (0 : Int32) (0 : Int32) σ hz (by have h0 : (0 : Int32).toInt = 0 := (by decide); omega) (by decide) (Nat.lt_succ_self _)
set_option maxHeartbeats 4000000 in
set_option maxRecDepth 100000 in
theorem zc_X9_cutPeriod_atx (l : Launch) (E : za_E) (t : Int32) (k : Int32) (fd : Int32) (td : Int32) (P : wzP) (σ0 : za_S) (hN : wzNw σ0 P) (ht : t = 0 ∨ t = 1) (hk : 0 ≤ k.toInt ∧ k.toInt ≤ 9) (hp : (0 ≤ fd.toInt ∧ fd.toInt ≤ 99) ∧ fd.toInt < td.toInt ∧ td.toInt ≤ 100) : zMi l E yX9_cutPeriod cX9_cutPeriod 10 (Option.some Jvm.ClassFile.FieldType.int) 6 142 [za_O 0 0, za_I t, za_I k, za_I fd, za_I td] σ0 (fun r σ' => wzpo (wzCcut t.toInt k.toInt fd.toInt td.toInt) P σ0 σ') := by
  refine zMi_of [(0, za_O 0 0), (1, za_I t), (2, za_I k), (3, za_I fd), (4, za_I td)] (by decide) rfl rfl (Nat.le_of_ble_eq_true rfl) ?_
  intro ho p e s m args below meth c G hr
  have hpb : (0 ≤ fd.toInt ∧ fd.toInt ≤ 100) ∧ 0 ≤ td.toInt ∧ td.toInt ≤ 100 := by omega
  have hv9 := wzsl_v hN.2.2.1 t.toInt
  have ho9 := wzVs_ok hv9
  have h20 := wzsl_20 hN.2.2.2 t.toInt
  have t9 := wzt01 ht
  have hV0 : wzVs (P.1.flatMap (wzfk k.toInt fd.toInt td.toInt)) := wzVs_fm (wzfk_v (by omega)) hN.2.2.1.1
  have hV1 : wzVs (P.2.flatMap (wzfk k.toInt fd.toInt td.toInt)) := wzVs_fm (wzfk_v (by omega)) hN.2.2.1.2
  have hVp : wzVs (P.1.flatMap (fun r => wzpt r 0 100)) := by rw [wzfm_w hN.2.2.1.1.1]; exact hN.2.2.1.1
  refine zv_gen (R9 := (wzdq P σ0)) (wzdq_0 hN) (fun σ hz => ?_)
  refine zv_iload_n (j := 1) G dX9_cutPeriod_0 rfl rfl ?_
  refine zv_iload_n (j := 2) G dX9_cutPeriod_1 rfl rfl ?_
  refine zv_iload_n (j := 3) G dX9_cutPeriod_2 rfl rfl ?_
  refine zv_iload (j := 4) G dX9_cutPeriod_3 rfl ?_
  refine zv_callSi (as := [za_I t, za_I k, za_I fd, za_I td]) G (zc_X9_isPortion_atx l E t k fd td σ ) zk_X9_isPortion zm_435 rfl ⟨(Nat.le_of_ble_eq_true rfl), (Nat.le_of_ble_eq_true rfl)⟩ ⟨Nat.zero_le _, Nat.zero_le _⟩ (Nat.le_of_ble_eq_true rfl) dX9_cutPeriod_5 (fun r_5 σ h_5 => ?_)
  obtain ⟨h_5, rfl⟩ := h_5
  refine zv_if_ne (tgt := 13) G dX9_cutPeriod_8 (by decide) (fun c_8 => ?_) (fun c_8 => ?_)
  · have t_5 := h_5.2.mp c_8
    refine zv_aload_n (j := 0) G dX9_cutPeriod_13 rfl rfl ?_
    refine zg_X9_10 G dX9_cutPeriod_14 ?_
    refine zv_iload_n (j := 1) G dX9_cutPeriod_17 rfl rfl ?_
    refine zv_callVNr (as := [za_I t]) G (by decide) rfl rfl (zc_X4_table_atx l E 1 t σ ht) zk_X4_table zm_453 rfl ⟨(Nat.le_of_ble_eq_true rfl), (Nat.le_of_ble_eq_true rfl)⟩ ⟨Nat.zero_le _, Nat.zero_le _⟩ (Nat.le_of_ble_eq_true rfl) dX9_cutPeriod_18 (fun r_18 σ h_18 => ?_)
    obtain ⟨w_18, rfl, h_w_18, t_18, rfl⟩ := h_18
    refine zv_astore (lv' := [(5, za_O 2 w_18), (0, za_O 0 0), (1, za_I t), (2, za_I k), (3, za_I fd), (4, za_I td)]) G dX9_cutPeriod_21 (by decide) rfl ?_
    refine zv_aload (j := 0) G dX9_cutPeriod_23 rfl ?_
    refine zv_iload_n (j := 3) G dX9_cutPeriod_25 rfl rfl ?_
    refine zv_iload_n (j := 4) G dX9_cutPeriod_26 rfl rfl ?_
    refine zv_iload (j := 5) G dX9_cutPeriod_27 rfl ?_
    refine zv_callVNi (as := [za_I k, za_I fd, za_I td]) G (by decide) rfl rfl (zc_X6_touching_atx l E w_18 k fd td (wzsl P t.toInt) σ (wzSt_t hz.2.1 ht t_18) ho9 hpb) zk_X6_touching zm_457 rfl ⟨(Nat.le_of_ble_eq_true rfl), (Nat.le_of_ble_eq_true rfl)⟩ ⟨Nat.zero_le _, Nat.zero_le _⟩ (Nat.le_of_ble_eq_true rfl) dX9_cutPeriod_29 (fun r_29 σ h_29 => ?_)
    obtain ⟨h_29, rfl⟩ := h_29
    refine zv_istore (lv' := [(6, za_I r_29), (5, za_O 2 w_18), (0, za_O 0 0), (1, za_I t), (2, za_I k), (3, za_I fd), (4, za_I td)]) G dX9_cutPeriod_32 (by decide) rfl ?_
    refine zv_iload (j := 0) G dX9_cutPeriod_34 rfl ?_
    refine zv_if_ne (tgt := 42) G dX9_cutPeriod_36 (by decide) (fun c_36 => ?_) (fun c_36 => ?_)
    · refine zv_aload (j := 1) G dX9_cutPeriod_42 rfl ?_
      refine zv_iload_n (j := 4) G dX9_cutPeriod_44 rfl rfl ?_
      refine zv_iload_n (j := 5) G dX9_cutPeriod_45 rfl rfl ?_
      refine zv_iload (j := 6) G dX9_cutPeriod_46 rfl ?_
      refine zv_callVNi (as := [za_I k, za_I fd, za_I td]) G (by decide) rfl rfl (zc_X6_daysWithin_atx l E w_18 k fd td (wzsl P t.toInt) σ (wzSt_t hz.2.1 ht t_18) ho9 hpb) zk_X6_daysWithin zm_568 rfl ⟨(Nat.le_of_ble_eq_true rfl), (Nat.le_of_ble_eq_true rfl)⟩ ⟨Nat.zero_le _, Nat.zero_le _⟩ (Nat.le_of_ble_eq_true rfl) dX9_cutPeriod_48 (fun r_48 σ h_48 => ?_)
      obtain ⟨h_48, rfl⟩ := h_48
      refine zv_istore (lv' := [(7, za_I r_48), (6, za_I r_29), (5, za_O 2 w_18), (0, za_O 0 0), (1, za_I t), (2, za_I k), (3, za_I fd), (4, za_I td)]) G dX9_cutPeriod_51 (by decide) rfl ?_
      refine zv_aload_n (j := 3) G dX9_cutPeriod_53 rfl rfl ?_
      refine zg_X9_16 G dX9_cutPeriod_54 ?_
      refine zv_aload_n (j := 3) G dX9_cutPeriod_57 rfl rfl ?_
      refine zg_X9_10 G dX9_cutPeriod_58 ?_
      refine zv_callVNv (as := [za_O 1 1]) G (by decide) rfl rfl (zc_X4_copyOf_atx l E 6 1 σ (Or.inl (by decide))) zk_X4_copyOf zm_475 rfl ⟨(Nat.le_of_ble_eq_true rfl), (Nat.le_of_ble_eq_true rfl)⟩ ⟨Nat.zero_le _, Nat.zero_le _⟩ (Nat.le_of_ble_eq_true rfl) dX9_cutPeriod_61 (fun σ h_61 => ?_)
      have hz := wzdr_0 hz h_61
      refine zv_aload_n (j := 3) G dX9_cutPeriod_64 rfl rfl ?_
      refine zg_X9_16 G dX9_cutPeriod_65 ?_
      refine zv_iload_n (j := 4) G dX9_cutPeriod_68 rfl rfl ?_
      refine zv_callVNr (as := [za_I t]) G (by decide) rfl rfl (zc_X4_table_atx l E 6 t σ ht) zk_X4_table zm_453 rfl ⟨(Nat.le_of_ble_eq_true rfl), (Nat.le_of_ble_eq_true rfl)⟩ ⟨Nat.zero_le _, Nat.zero_le _⟩ (Nat.le_of_ble_eq_true rfl) dX9_cutPeriod_69 (fun r_69 σ h_69 => ?_)
      obtain ⟨w_69, rfl, h_w_69, t_69, rfl⟩ := h_69
      refine zv_aload (j := 2) G dX9_cutPeriod_72 rfl ?_
      refine zv_iload_n (j := 5) G dX9_cutPeriod_74 rfl rfl ?_
      refine zv_iload_n (j := 6) G dX9_cutPeriod_75 rfl rfl ?_
      refine zv_iload (j := 7) G dX9_cutPeriod_76 rfl ?_
      refine zv_callVNv (as := [za_O 2 w_18, za_I k, za_I fd, za_I td]) G (by decide) rfl rfl (zc_X6_fillCut_atx l E w_69 w_18 k fd td (wzsl P t.toInt) σ (wzSt_t hz.1.2.1 ht t_18) ho9 h20 (wzpd9 ht t_18 t_69)) zk_X6_fillCut zm_569 rfl ⟨(Nat.le_of_ble_eq_true rfl), (Nat.le_of_ble_eq_true rfl)⟩ ⟨Nat.zero_le _, Nat.zero_le _⟩ (Nat.le_of_ble_eq_true rfl) dX9_cutPeriod_78 (fun σ h_78 => ?_)
      have hz := wzdr_f hz ht t_69 h_78
      refine zv_iload_n (j := 4) G dX9_cutPeriod_81 rfl rfl ?_
      refine zv_iconst (v := 1) G dX9_cutPeriod_82 (by decide) ?_
      have J_109 : ∀  (σ : za_S) (hz : (t = 0 ∧ wzdr P (P.1.flatMap (wzfk k.toInt fd.toInt td.toInt), P.2) σ0 σ) ∨ (t = 1 ∧ wzhd (P.1, P.2.flatMap (wzfk k.toInt fd.toInt td.toInt)) ∧ wzdr P (P.1, P.2.flatMap (wzfk k.toInt fd.toInt td.toInt)) σ0 σ)), zV p l e (zRm 6 142) s m args below meth c E (za_A E) 10 0 0 (MQ below (va_Qi (fun r σ' => wzpo (wzCcut t.toInt k.toInt fd.toInt td.toInt) P σ0 σ') (zB E) (za_A E)) args s 0 0 (za_A E)) 109 [(0, za_O 0 0), (1, za_I t), (2, za_I k), (6, za_I r_29), (7, za_I r_48)] [] σ := by
        intro σ hz
        refine zv_iload_n (j := 1) G dX9_cutPeriod_109 rfl rfl ?_
        refine zv_iconst (v := 1) G dX9_cutPeriod_110 (by decide) ?_
        refine zv_icmp_ne (tgt := 122) G dX9_cutPeriod_111 (by decide) (fun c_111 => ?_) (fun c_111 => ?_)
        · have k_111 := z_cne c_111 (a := t.toInt) (b := 1) rfl rfl
          obtain ⟨e111, hz⟩ := hz.resolve_right (fun q => c_111 q.1)
          refine zv_iconst (v := 0) G dX9_cutPeriod_122 (by decide) ?_
          refine zv_istore (lv' := [(8, za_I 0), (0, za_O 0 0), (1, za_I t), (2, za_I k), (6, za_I r_29), (7, za_I r_48)]) G dX9_cutPeriod_123 (by decide) rfl ?_
          refine zv_aload_n (j := 1) G dX9_cutPeriod_125 rfl rfl ?_
          refine zv_iload (j := 4) G dX9_cutPeriod_126 rfl ?_
          refine zv_callVi (as := [za_I r_29]) G (by decide) rfl rfl (zc_X9_taken_atx l E r_29 _ σ hz.2.1) zk_X9_taken zm_489 rfl ⟨(Nat.le_of_ble_eq_true rfl), (Nat.le_of_ble_eq_true rfl)⟩ ⟨Nat.zero_le _, Nat.zero_le _⟩ (Nat.le_of_ble_eq_true rfl) dX9_cutPeriod_128 (fun r_128 σ h_128 => ?_)
          have hz := wzdr_t hz h_128
          refine zv_istore (lv' := [(9, za_I r_128), (8, za_I 0), (0, za_O 0 0), (1, za_I t), (2, za_I k), (6, za_I r_29), (7, za_I r_48)]) G dX9_cutPeriod_131 (by decide) rfl ?_
          refine zv_iload (j := 0) G dX9_cutPeriod_133 rfl ?_
          refine zv_if_lt (tgt := 151) G dX9_cutPeriod_135 (by decide) (fun c_135 => ?_) (fun c_135 => ?_)
          · have k_135 := z_clt c_135 (a := r_128.toInt) (b := 0) rfl rfl
            refine zv_iload (j := 0) G dX9_cutPeriod_151 rfl ?_
            exact zv_iret G hr dX9_cutPeriod_153 (by first | exact wzcut_0 hN hV0 e111 (wzal_yes h_29.2 (fun e => c_36 (Int32.toInt_inj.mp e))) hz | exact wzcut_1 hN hV1 hVp e111 (wzal_yes h_29.2 (fun e => c_36 (Int32.toInt_inj.mp e))) hh hz)
          · have k_135 := z_cnlt c_135 (a := r_128.toInt) (b := 0) rfl rfl
            refine zv_aload_n (j := 2) G dX9_cutPeriod_138 rfl rfl ?_
            refine zg_X9_40 G dX9_cutPeriod_139 ?_
            refine zv_iload (j := 6) G dX9_cutPeriod_142 rfl ?_
            refine zv_i2l G dX9_cutPeriod_144 ?_
            refine zv_iload (j := 1) G dX9_cutPeriod_145 rfl ?_
            refine zv_i2l G dX9_cutPeriod_147 ?_
            refine zv_callVNv (as := [za_L r_48.toInt64, za_L ((0 : Int32).toInt64)]) G (by decide) rfl rfl (zc_X8_tell__atx l E r_48.toInt64 ((0 : Int32).toInt64) σ ) zk_X8_tell_ zm_608 rfl ⟨(Nat.le_of_ble_eq_true rfl), (Nat.le_of_ble_eq_true rfl)⟩ ⟨Nat.zero_le _, Nat.zero_le _⟩ (Nat.le_of_ble_eq_true rfl) dX9_cutPeriod_148 (fun σ h_148 => ?_)
            have hz := wzdn_l hz h_148
            refine zv_iload (j := 0) G dX9_cutPeriod_151 rfl ?_
            exact zv_iret G hr dX9_cutPeriod_153 (by first | exact wzcut_0 hN hV0 e111 (wzal_yes h_29.2 (fun e => c_36 (Int32.toInt_inj.mp e))) hz | exact wzcut_1 hN hV1 hVp e111 (wzal_yes h_29.2 (fun e => c_36 (Int32.toInt_inj.mp e))) hh hz)
        · have k_111 := z_ceq c_111 (a := t.toInt) (b := 1) rfl rfl
          obtain ⟨e111, hh, hz⟩ := hz.resolve_left (fun q => absurd (q.1.symm.trans c_111) (by decide))
          refine zv_aload_n (j := 0) G dX9_cutPeriod_114 rfl rfl ?_
          refine zv_iload_n (j := 2) G dX9_cutPeriod_115 rfl rfl ?_
          refine zv_callVi (as := [za_I k]) G (by decide) rfl rfl (zc_X9_followWay_atx l E k P.1 (P.2.flatMap (wzfk k.toInt fd.toInt td.toInt)) σ hz.1.2.1.1 hz.2.1.2 hN.2.2.1.1 hN.2.2.2.1 (wzVs_ok hV1) (wzhd_c hN.2.2.1.1 hV1 (by have h8 := hN.2.2.2.1; omega) hk.2 hh)) zk_X9_followWay zm_573 rfl ⟨(Nat.le_of_ble_eq_true rfl), (Nat.le_of_ble_eq_true rfl)⟩ ⟨Nat.zero_le _, Nat.zero_le _⟩ (Nat.le_of_ble_eq_true rfl) dX9_cutPeriod_116 (fun r_116 σ h_116 => ?_)
          have hz : wzdr P (P.1.flatMap (fun r => wzpt r 0 100), P.2.flatMap (wzfk k.toInt fd.toInt td.toInt)) σ0 σ := wzcu_f hz h_116
          refine zv_goto (tgt := 123) G dX9_cutPeriod_119 (by decide) ?_
          refine zv_istore (lv' := [(8, za_I r_116), (0, za_O 0 0), (1, za_I t), (2, za_I k), (6, za_I r_29), (7, za_I r_48)]) G dX9_cutPeriod_123 (by decide) rfl ?_
          refine zv_aload_n (j := 1) G dX9_cutPeriod_125 rfl rfl ?_
          refine zv_iload (j := 4) G dX9_cutPeriod_126 rfl ?_
          refine zv_callVi (as := [za_I r_29]) G (by decide) rfl rfl (zc_X9_taken_atx l E r_29 _ σ hz.2.1) zk_X9_taken zm_489 rfl ⟨(Nat.le_of_ble_eq_true rfl), (Nat.le_of_ble_eq_true rfl)⟩ ⟨Nat.zero_le _, Nat.zero_le _⟩ (Nat.le_of_ble_eq_true rfl) dX9_cutPeriod_128 (fun r_128 σ h_128 => ?_)
          have hz := wzdr_t hz h_128
          refine zv_istore (lv' := [(9, za_I r_128), (8, za_I r_116), (0, za_O 0 0), (1, za_I t), (2, za_I k), (6, za_I r_29), (7, za_I r_48)]) G dX9_cutPeriod_131 (by decide) rfl ?_
          refine zv_iload (j := 0) G dX9_cutPeriod_133 rfl ?_
          refine zv_if_lt (tgt := 151) G dX9_cutPeriod_135 (by decide) (fun c_135 => ?_) (fun c_135 => ?_)
          · have k_135 := z_clt c_135 (a := r_128.toInt) (b := 0) rfl rfl
            refine zv_iload (j := 0) G dX9_cutPeriod_151 rfl ?_
            exact zv_iret G hr dX9_cutPeriod_153 (by first | exact wzcut_0 hN hV0 e111 (wzal_yes h_29.2 (fun e => c_36 (Int32.toInt_inj.mp e))) hz | exact wzcut_1 hN hV1 hVp e111 (wzal_yes h_29.2 (fun e => c_36 (Int32.toInt_inj.mp e))) hh hz)
          · have k_135 := z_cnlt c_135 (a := r_128.toInt) (b := 0) rfl rfl
            refine zv_aload_n (j := 2) G dX9_cutPeriod_138 rfl rfl ?_
            refine zg_X9_40 G dX9_cutPeriod_139 ?_
            refine zv_iload (j := 6) G dX9_cutPeriod_142 rfl ?_
            refine zv_i2l G dX9_cutPeriod_144 ?_
            refine zv_iload (j := 1) G dX9_cutPeriod_145 rfl ?_
            refine zv_i2l G dX9_cutPeriod_147 ?_
            refine zv_callVNv (as := [za_L r_48.toInt64, za_L r_116.toInt64]) G (by decide) rfl rfl (zc_X8_tell__atx l E r_48.toInt64 r_116.toInt64 σ ) zk_X8_tell_ zm_608 rfl ⟨(Nat.le_of_ble_eq_true rfl), (Nat.le_of_ble_eq_true rfl)⟩ ⟨Nat.zero_le _, Nat.zero_le _⟩ (Nat.le_of_ble_eq_true rfl) dX9_cutPeriod_148 (fun σ h_148 => ?_)
            have hz := wzdn_l hz h_148
            refine zv_iload (j := 0) G dX9_cutPeriod_151 rfl ?_
            exact zv_iret G hr dX9_cutPeriod_153 (by first | exact wzcut_0 hN hV0 e111 (wzal_yes h_29.2 (fun e => c_36 (Int32.toInt_inj.mp e))) hz | exact wzcut_1 hN hV1 hVp e111 (wzal_yes h_29.2 (fun e => c_36 (Int32.toInt_inj.mp e))) hh hz)
      refine zv_icmp_ne (tgt := 109) G dX9_cutPeriod_83 (by decide) (fun c_83 => ?_) (fun c_83 => ?_)
      · have k_83 := z_cne c_83 (a := t.toInt) (b := 1) rfl rfl
        have hz : wzdr P (P.1.flatMap (wzfk k.toInt fd.toInt td.toInt), P.2) σ0 σ := wzcu_0 (ht.resolve_right c_83) hz
        refine zv_sub [3, 4, 5, 1, 0] (lv' := [(0, za_O 0 0), (1, za_I t), (2, za_I k), (6, za_I r_29), (7, za_I r_48)]) rfl ?_
        exact J_109 σ (by first | exact Or.inl ⟨ht.resolve_right c_83, hz⟩ | exact Or.inr ⟨c_83, t_100, hz⟩)
      · have k_83 := z_ceq c_83 (a := t.toInt) (b := 1) rfl rfl
        have hz : wzdr P (P.1, P.2.flatMap (wzfk k.toInt fd.toInt td.toInt)) σ0 σ := wzcu_1 c_83 hz
        refine zv_aload_n (j := 3) G dX9_cutPeriod_86 rfl rfl ?_
        refine zg_X9_10 G dX9_cutPeriod_87 ?_
        refine zg_X9_238 G dX9_cutPeriod_90 ?_
        refine zv_if_ne (tgt := 109) G dX9_cutPeriod_93 (by decide) (fun c_93 => ?_) (fun c_93 => ?_)
        · exact absurd hz.1.2.2 c_93
        · have k_93 := z_ceq c_93 (a := (σ.1 1 2).toInt) (b := 0) rfl rfl
          refine zv_aload_n (j := 3) G dX9_cutPeriod_96 rfl rfl ?_
          refine zg_X9_16 G dX9_cutPeriod_97 ?_
          refine zv_callVNi (as := []) G (by decide) rfl rfl (zc_X4_isHeld_atx l E 6 P.1 (P.2.flatMap (wzfk k.toInt fd.toInt td.toInt)) σ hz.2.1.1 hz.2.1.2 (wzVs_ok hN.2.2.1.1) (wzVs_ok hV1)) zk_X4_isHeld zm_547 rfl ⟨(Nat.le_of_ble_eq_true rfl), (Nat.le_of_ble_eq_true rfl)⟩ ⟨Nat.zero_le _, Nat.zero_le _⟩ (Nat.le_of_ble_eq_true rfl) dX9_cutPeriod_100 (fun r_100 σ h_100 => ?_)
          obtain ⟨h_100, rfl⟩ := h_100
          refine zv_if_ne (tgt := 109) G dX9_cutPeriod_103 (by decide) (fun c_103 => ?_) (fun c_103 => ?_)
          · have t_100 := h_100.2.mp c_103
            refine zv_sub [3, 4, 5, 1, 0] (lv' := [(0, za_O 0 0), (1, za_I t), (2, za_I k), (6, za_I r_29), (7, za_I r_48)]) rfl ?_
            exact J_109 σ (by first | exact Or.inl ⟨ht.resolve_right c_83, hz⟩ | exact Or.inr ⟨c_83, t_100, hz⟩)
          · have f_100 := fun q9 => (h_100.2.mpr q9) c_103
            refine zv_bipush (v := (-3)) G dX9_cutPeriod_106 (by decide) ?_
            exact zv_iret G hr dX9_cutPeriod_108 (wzpo_n hN hz.1 (Or.inr ⟨(wzal_yes h_29.2 (fun e => c_36 (Int32.toInt_inj.mp e))), Or.inr ⟨by rw [c_83]; rfl, Or.inl ⟨f_100, rfl⟩⟩⟩))
    · refine zv_bipush (v := (-2)) G dX9_cutPeriod_39 (by decide) ?_
      exact zv_iret G hr dX9_cutPeriod_41 (wzpo_n hN hz (Or.inl ⟨wzal_no h_29.2 (by rw [c_36]; rfl), rfl⟩))
  · exact ((h_5.2.mpr ⟨ht, by omega, hp⟩) c_8).elim
