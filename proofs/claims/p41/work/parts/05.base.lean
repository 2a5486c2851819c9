def za_kds : List Nat := [0, 1, 2, 3, 2, 3, 1, 2, 3, 2, 3, 4, 5, 1, 2, 3, 2, 3, 1, 2, 3, 2, 3, 1, 2, 3, 2, 3, 1, 2, 3, 2, 3, 1, 2, 3, 2, 3, 1, 2, 3, 2, 3, 1, 2, 3, 2, 3, 1, 2, 3, 2, 3, 1, 2, 3, 2, 3, 1, 2, 3, 2, 3, 1, 2, 3, 2, 3, 6, 1, 2, 3, 2, 3, 1, 2, 3, 2, 3, 7, 8, 9, 10, 11, 12, 13, 14, 13, 14, 15, 16, 17, 18, 19, 20, 21, 21, 21, 32, 22, 22, 22, 23, 21, 24, 25, 25, 25, 25, 25, 25, 25, 25, 25, 25, 25, 25, 25, 25, 25, 25, 25, 25, 25, 25, 25, 25, 25, 25, 25, 25, 25, 25, 25, 25, 25, 25, 25, 25, 25, 25, 25, 25, 25, 25, 25, 25, 25, 25, 25, 25, 25, 25, 25, 25, 25, 25, 25, 25, 25, 25, 25, 25, 25, 25, 25, 25, 25, 25, 25, 25, 25, 25, 25, 25, 25, 25, 25, 25, 25, 25, 25, 25, 25, 25, 31, 26, 26, 26, 27, 28, 30, 30, 29]
def za_e (E : Nat × va_G × (Nat → ClassId) × (Nat → Nat) × (Nat → Nat)) (f : Nat → Int32) (g : Nat → Int64) (k w : Nat) : va_E := match k with
  | 0 => .inr (9, [.ref (E.1 + 1), .ref (E.1 + 6), .ref (E.1 + 11), .ref (E.1 + 68), .ref (E.1 + 79), .ref (E.1 + 81), .ref (E.1 + 83), .ref (E.1 + 85), .ref (E.1 + 87), .ref (E.1 + 89), .ref (E.1 + 90), .int (f 11)])
  | 1 => .inr (4, [.ref (E.1 + (w + 1)), .ref (E.1 + (w + 3)), .int (f 2), .int (f 3)])
  | 2 => .inr (6, [.ref (E.1 + (w + 1)), .int (f 1)])
  | 3 => .inl (E.2.2.1 0, 120, .inl f)
  | 4 => .inr (2, [.ref (E.1 + 12), .int (f 1), .int (f 2)])
  | 5 => .inl (E.2.2.1 4, 11, .inr (.inr (.inr (.inr (fun i => some (E.1 + (13 + 5 * i)))))))
  | 6 => .inl (E.2.2.1 4, 2, .inr (.inr (.inr (.inr (fun i => some (E.1 + (69 + 5 * i)))))))
  | 7 => .inr (7, [.ref (E.1 + 80), .int (f 1)])
  | 8 => .inl (E.2.2.1 1, 80, .inl f)
  | 9 => .inr (8, [.ref (E.1 + 82), .int (f 1)])
  | 10 => .inl (E.2.2.1 2, 12, .inr (.inl g))
  | 11 => .inr (3, [.ref (E.1 + 84), .int (f 1)])
  | 12 => .inl (E.2.2.1 0, 12, .inl f)
  | 13 => .inr (1, [.ref (E.1 + (w + 1))])
  | 14 => .inl (E.2.2.1 0, 100, .inl f)
  | 15 => .inr (5, [.int (f 0), .int (f 1), .int (f 2), .int (f 3), .int (f 4), .int (f 5), .int (f 6), .int (f 7)])
  | 16 => .inr (0, [.ref (E.1 + 91), .ref (E.1 + 92), .int (f 2), .int (f 3), .int (f 4)])
  | 17 => .inl (E.2.2.1 1, 40, .inl f)
  | 18 => .inl (E.2.2.1 0, 7, .inl f)
  | 19 => .inr (10, [.int (f 0), .int (f 1), .ref (E.1 + 94), .ref (E.1 + 95), .int (f 4), .int (f 5), .int (f 6), .int (f 7), .ref (E.1 + 96), .int (f 9), .ref (E.1 + 97), .ref (E.1 + 98), .ref (E.1 + 99), .ref (E.1 + 100), .ref (E.1 + 101), .int (f 15), .int (f 16), .int (f 17), .ref (E.1 + 102), .int (f 19), .int (f 20), .ref (E.1 + 103), .ref (E.1 + 104), .int (f 23), .ref (E.1 + 185), .int (f 25), .int (f 26), .ref (E.1 + 186), .ref (E.1 + 187), .ref (E.1 + 188), .ref (E.1 + 189), .ref (E.1 + 190), .int (f 32), .ref (E.1 + 191), .ref (E.1 + 192), .int (f 35)])
  | 20 => .inl (E.2.2.1 2, 24, .inr (.inl g))
  | 21 => .inl (E.2.2.1 0, 80, .inl f)
  | 22 => .inl (E.2.2.1 0, 2001, .inl f)
  | 23 => .inl (E.2.2.1 0, 22011, .inl f)
  | 24 => .inl (E.2.2.1 5, 80, .inr (.inr (.inr (.inr (fun i => some (E.1 + (105 + 1 * i)))))))
  | 25 => .inl (E.2.2.1 0, 5, .inl f)
  | 26 => .inl (E.2.2.1 0, 20, .inl f)
  | 27 => .inl (E.2.2.1 3, 2, .inl f)
  | 28 => .inl (E.2.2.1 0, 4002, .inl f)
  | 29 => .inl (E.2.2.1 2, 1, .inr (.inl g))
  | 30 => .inl (E.2.2.1 0, 12, .inl f)
  | 31 => .inl (E.2.2.1 0, 100, .inl f)
  | 32 => .inl (E.2.2.1 0, 7, .inl f)
  | _ => .inr (0, [])
def za_len : List Nat := [8, 7, 6, 1, 1, 0, 7, 6, 5, 4, 4, 1, 1, 2, 3, 7, 3, 2, 2]
def za_byt : List (List Int32) := [[49, 57, 57, 57, 57, 57, 57, 57], [57, 57, 57, 57, 57, 57, 57], [49, 57, 57, 57, 57, 57], [49], [50], [], [107, 118, 102, 116, 114, 108, 105], [97, 115, 114, 99, 106, 119], [116, 100, 110, 110, 101], [100, 110, 110, 101], [116, 100, 110, 101], [116], [119], [48, 49], [48, 49, 50], [107, 118, 114, 102, 116, 108, 105], [60, 62, 61], [43, 45], [42, 47]]
def za_str : List (String × Nat × String × Nat) := [("PeriodTables$Text", 29, "19999999", 0), ("PeriodTables$Text", 31, "9999999", 1), ("PeriodTables$Text", 33, "199999", 2), ("PeriodTables$Text", 35, "1", 3), ("PeriodTables$Text", 37, "2", 4), ("PeriodTables$Text", 39, "", 5), ("PeriodTables$Formula", 78, "kvftrli", 6), ("PeriodTablesModel", 335, "asrcjw", 7), ("PeriodTablesModel", 322, "tdnne", 8), ("PeriodTablesModel", 324, "dnne", 9), ("PeriodTablesModel", 326, "tdne", 10), ("PeriodTablesModel", 328, "t", 11), ("PeriodTablesModel", 330, "w", 12), ("PeriodTablesModel", 315, "01", 13), ("PeriodTablesModel", 317, "012", 14), ("PeriodTablesModel", 87, "kvrftli", 15), ("PeriodTablesModel", 96, "<>=", 16), ("PeriodTablesModel", 98, "+-", 17), ("PeriodTablesModel", 100, "*/", 18)]
/-! ===== the world of the law's two objects: its cells at places 0 .. 193 from an address on; what they hold, as numbers ===== -/
abbrev za_V : Type := Int32 ⊕ Int64 ⊕ (Nat × Nat)
abbrev za_I (x : Int32) : za_V := Sum.inl x
abbrev za_L (x : Int64) : za_V := Sum.inr (Sum.inl x)
/-- a cell of kind k at place w (50: a text's object, 51: its bytes) -/
abbrev za_O (k w : Nat) : za_V := Sum.inr (Sum.inr (k, w))
abbrev za_S : Type := (Nat → Nat → Int32) × (Nat → Nat → Int64)
/-- first address, class ids and slots, array classes, the texts' addresses, their bytes' -/
abbrev za_E : Type := Nat × va_G × (Nat → ClassId) × (Nat → Nat) × (Nat → Nat)
def za_kd (w : Nat) : Nat := za_kds.getD w 99
theorem za_kd_lt {w k : Nat} (h : za_kd w = k) (hk : k < 99) : w < 194 := by
  rcases Nat.lt_or_ge w 194 with q | q
  · exact q
  · have h9 : za_kd w = 99 := by
      unfold za_kd
      rw [List.getD_eq_getElem?_getD, List.getElem?_eq_none (show za_kds.length ≤ w from q)]
      rfl
    omega
def za_c (E : za_E) (v : za_V) : Value := match v with
  | .inl x => .int x
  | .inr (.inl x) => .long x
  | .inr (.inr (k, w)) => if k = 50 then .ref (E.2.2.2.1 w) else if k = 51 then .ref (E.2.2.2.2 w) else if k = 52 then (if w = 0 then .null else .ref (w - 1)) else .ref (E.1 + w)
def za_cat (v : za_V) : Nat := match v with
  | .inr (.inl _) => 2
  | _ => 1
theorem za_c_cat (E : za_E) (v : za_V) : (za_c E v).category = za_cat v := by
  rcases v with x | x | ⟨k, w⟩
  · rfl
  · rfl
  · show (if k = 50 then Value.ref (E.2.2.2.1 w) else if k = 51 then .ref (E.2.2.2.2 w) else if k = 52 then (if w = 0 then .null else .ref (w - 1)) else .ref (E.1 + w)).category = 1
    split
    · rfl
    · split
      · rfl
      · split
        · split <;> rfl
        · rfl
theorem za_cO {E : za_E} {kd w : Nat} (hk : kd < 50) : za_c E (za_O kd w) = .ref (E.1 + w) := by
  show (if kd = 50 then Value.ref (E.2.2.2.1 w) else if kd = 51 then .ref (E.2.2.2.2 w) else if kd = 52 then (if w = 0 then .null else .ref (w - 1)) else .ref (E.1 + w)) = _
  rw [if_neg (by omega), if_neg (by omega), if_neg (by omega)]
def za_ok (v : za_V) : Prop := match v with
  | .inr (.inr (k, w)) => if k = 50 ∨ k = 51 then w < 19 else if k = 52 then True else za_kd w = k
  | _ => True
theorem za_okO {kd w : Nat} (hk : kd < 50) (h : za_ok (za_O kd w)) : za_kd w = kd := by
  have h9 : (if kd = 50 ∨ kd = 51 then w < 19 else if kd = 52 then True else za_kd w = kd) := h
  rw [if_neg (by omega), if_neg (by omega)] at h9
  exact h9
theorem za_okM {kd w : Nat} (hk : kd < 50) (h : za_kd w = kd) : za_ok (za_O kd w) := by
  show (if kd = 50 ∨ kd = 51 then w < 19 else if kd = 52 then True else za_kd w = kd)
  rw [if_neg (by omega), if_neg (by omega)]
  exact h
def za_w (E : za_E) (σ : za_S) : va_W := (List.range 194).map fun w => (E.1 + w, za_e E (σ.1 w) (σ.2 w) (za_kd w) w)
theorem za_w_at {E : za_E} {σ : za_S} {w : Nat} (h : w < 194) : (za_w E σ)[w]? = some (E.1 + w, za_e E (σ.1 w) (σ.2 w) (za_kd w) w) := by
  unfold za_w
  rw [List.getElem?_map, List.getElem?_range h]
  rfl
theorem za_w_len (E : za_E) (σ : za_S) : (za_w E σ).length = 194 := by
  unfold za_w
  rw [List.length_map, List.length_range]
theorem za_w_some {E : za_E} {σ : za_S} {w : Nat} {q : Nat × va_E} (h : (za_w E σ)[w]? = some q) : w < 194 ∧ q.1 = E.1 + w := by
  have h1 : w < 194 := by rw [← za_w_len E σ]; exact (List.getElem?_eq_some_iff.mp h).1
  rw [za_w_at h1] at h
  cases h
  exact ⟨h1, rfl⟩
def za_A (E : za_E) : Nat → Prop := fun q => E.1 ≤ q ∧ q < E.1 + 194
theorem za_D {E : za_E} {σ : za_S} {A : Nat → Prop} (hA : ∀ q, za_A E q → A q) : va_D A (za_w E σ) := by
  refine ⟨fun i j p q hi hj e => ?_, fun k q hk => ?_⟩
  · have h1 := (za_w_some hi).2
    have h2 := (za_w_some hj).2
    omega
  · have h1 := za_w_some hk
    exact hA _ ⟨by omega, by omega⟩
/-- one number is another -/
def za_si (σ : za_S) (w j : Nat) (x : Int32) : za_S := (fun w' => if w' = w then upd (σ.1 w) j x else σ.1 w', σ.2)
def za_sl (σ : za_S) (w j : Nat) (x : Int64) : za_S := (σ.1, fun w' => if w' = w then vp_updL (σ.2 w) j x else σ.2 w')
/-- a whole row of numbers is another -/
def za_sr (σ : za_S) (w : Nat) (f : Nat → Int32) : za_S := (fun w' => if w' = w then f else σ.1 w', σ.2)
theorem za_si_w (σ : za_S) (w j : Nat) (x : Int32) : (za_si σ w j x).1 w = upd (σ.1 w) j x := if_pos rfl
theorem za_si_same (σ : za_S) (w j : Nat) (x : Int32) : (za_si σ w j x).1 w j = x := by rw [za_si_w]; exact if_pos rfl
theorem za_si_ne (σ : za_S) {w j w' j' : Nat} (x : Int32) (h : w' ≠ w ∨ j' ≠ j) : (za_si σ w j x).1 w' j' = σ.1 w' j' := by
  by_cases hw : w' = w
  · subst hw
    rw [za_si_w]
    rcases h with h | h
    · exact absurd rfl h
    · exact if_neg h
  · show (if w' = w then upd (σ.1 w) j x else σ.1 w') j' = _
    rw [if_neg hw]
theorem za_si_2 (σ : za_S) (w j : Nat) (x : Int32) : (za_si σ w j x).2 = σ.2 := rfl
theorem za_sl_1 (σ : za_S) (w j : Nat) (x : Int64) : (za_sl σ w j x).1 = σ.1 := rfl
theorem za_sr_w (σ : za_S) (w : Nat) (f : Nat → Int32) : (za_sr σ w f).1 w = f := if_pos rfl
theorem za_sr_ne (σ : za_S) {w w' : Nat} (f : Nat → Int32) (h : w' ≠ w) : (za_sr σ w f).1 w' = σ.1 w' := if_neg h
theorem za_w_set {E : za_E} {σ σ' : za_S} {w : Nat} {e : va_E} (h1 : ∀ w', w' ≠ w → σ'.1 w' = σ.1 w' ∧ σ'.2 w' = σ.2 w') (he : za_e E (σ'.1 w) (σ'.2 w) (za_kd w) w = e) : (za_w E σ).set w (E.1 + w, e) = za_w E σ' := by
  apply List.ext_getElem?
  intro k
  rw [List.getElem?_set]
  by_cases hk : w = k
  · subst hk
    rw [if_pos rfl, za_w_len]
    by_cases hl : w < 194
    · rw [if_pos hl, za_w_at hl, he]
    · rw [if_neg hl, List.getElem?_eq_none (by rw [za_w_len]; omega)]
  · rw [if_neg hk]
    by_cases hl : k < 194
    · rw [za_w_at hl, za_w_at hl, (h1 k (Ne.symm hk)).1, (h1 k (Ne.symm hk)).2]
    · rw [List.getElem?_eq_none (by rw [za_w_len]; omega), List.getElem?_eq_none (by rw [za_w_len]; omega)]
theorem za_si_off {σ : za_S} {w j : Nat} {x : Int32} : ∀ w', w' ≠ w → (za_si σ w j x).1 w' = σ.1 w' ∧ (za_si σ w j x).2 w' = σ.2 w' := fun _ h => ⟨if_neg h, rfl⟩
theorem za_sl_off {σ : za_S} {w j : Nat} {x : Int64} : ∀ w', w' ≠ w → (za_sl σ w j x).1 w' = σ.1 w' ∧ (za_sl σ w j x).2 w' = σ.2 w' := fun _ h => ⟨rfl, if_neg h⟩
theorem za_sr_off {σ : za_S} {w : Nat} {f : Nat → Int32} : ∀ w', w' ≠ w → (za_sr σ w f).1 w' = σ.1 w' ∧ (za_sr σ w f).2 w' = σ.2 w' := fun _ h => ⟨if_neg h, rfl⟩
/-! what stands of the tables and of what nobody writes -/
def za_tys (E : za_E) : List (ClassId × FieldType) := [(E.2.2.1 0, .int), (E.2.2.1 1, .char), (E.2.2.1 2, .long), (E.2.2.1 3, .boolean), (E.2.2.1 4, .object "PeriodTables$State"), (E.2.2.1 5, .array .int)]
def za_Y (E : za_E) (U : State) (H : Heap) : Prop := va_K E.2.1 vwCl (za_tys E) U ∧ (∀ w ∈ zNN, va_Nw w U) ∧ vk_S 19 za_len za_byt E.2.2.2.1 E.2.2.2.2 (za_A E) U H ∧ (∀ q ∈ za_str, vk_R q.1 q.2.1 q.2.2.1 (E.2.2.2.1 q.2.2.2) U) ∧ va_Z "java/lang/String" "COMPACT_STRINGS" "Z" (.int 1) (za_A E) U H ∧ ∃ f : Nat, va_Z "jdk/internal/util/Preconditions" "SIOOBE_FORMATTER" "Ljava/util/function/BiFunction;" (if f = 0 then .null else .ref (f - 1)) (za_A E) U H
theorem za_Nw_warm {w : Cond} (hw : zNest w = true) {s U : State} (hW : s.WarmedH U.vm) (h : va_Nw w s) : va_Nw w U := by
  cases w <;> first
    | exact va_Nw.warmF hW h
    | exact va_Nw.warmM hW h
    | cases hw
theorem za_Nw_same {w : Cond} (hw : zNest w = true) {s U : State} (hv : s.vm = U.vm) (h : va_Nw w s) : va_Nw w U := by
  cases w <;> first
    | exact va_Nw.same rfl hv h
    | cases hw
theorem za_Y_warm {E : za_E} {s U : State} {H0 H : Heap} (hW : s.WarmedH U.vm) (hk : ∀ a : Nat, a < H0.size → ¬ za_A E a → H[a]? = H0[a]?) (h : za_Y E s H0) : za_Y E U H :=
  ⟨va_K.moved hW.alike h.1, fun w hw => za_Nw_warm (List.mem_filter.mp hw).2 hW (h.2.1 w hw), (vk_S.moved hW.alike h.2.2.1).kept hk, fun q hq => vk_R.warm hW (h.2.2.2.1 q hq), (va_Z.moved hW.alike h.2.2.2.2.1).kept hk, h.2.2.2.2.2.elim fun f hf => ⟨f, (va_Z.moved hW.alike hf).kept hk⟩⟩
theorem za_Y_calling {E : za_E} {U : State} {g : JFrame} {mk : MethodId} {a : Array Value} (h : za_Y E U U.heap) : za_Y E (U.calling g mk a) (U.calling g mk a).heap :=
  ⟨va_K.moved (u := U) (U := U.calling g mk a) (Vm.Alike.refl U.vm) h.1, fun w hw => za_Nw_same (s := U) (U := U.calling g mk a) (List.mem_filter.mp hw).2 rfl (h.2.1 w hw), vk_S.moved (u := U) (U := U.calling g mk a) (Vm.Alike.refl U.vm) h.2.2.1, fun q hq => vk_R.same (u := U) (U := U.calling g mk a) rfl (h.2.2.2.1 q hq), va_Z.moved (u := U) (U := U.calling g mk a) (Vm.Alike.refl U.vm) h.2.2.2.2.1, h.2.2.2.2.2.elim fun f hf => ⟨f, va_Z.moved (u := U) (U := U.calling g mk a) (Vm.Alike.refl U.vm) hf⟩⟩
section ZV
variable {p : Program} {l : Launch} {e : Env} {R : Room} {s : State} {m : MethodId} {args : Array Value} {below : List Frame} {meth : Method} {c : Code} {cells slots : Nat} {Q : State → Prop}
variable {E : za_E} {A : Nat → Prop} {nL : Nat} {cc : ByteArray} {own : String}
/-- at pc, with these locals, this stack, these numbers in the world, the method comes to Q -/
def zV (p : Program) (l : Launch) (e : Env) (R : Room) (s : State) (m : MethodId) (args : Array Value) (below : List Frame) (meth : Method) (c : Code) (E : za_E) (A : Nat → Prop) (nL cells slots : Nat) (Q : State → Prop) (pc : Nat) (lv : List (Nat × za_V)) (st : List za_V) (σ : za_S) : Prop :=
  ∀ (H : Heap) (locs : List Loc) (ls : Array Slot), (∀ q ∈ lv, za_ok q.2) → (∀ v ∈ st, za_ok v) → va_P E.2.1 vwCl (za_w E σ) H → va_S A s.heap H locs → lv_has ls nL (lv.map fun q => (q.1, za_c E q.2)) →
    W p l e R s m args below meth c H locs cells slots Q (F0 m pc ls (st.map (za_c E)))
/-- what holds all through a method -/
def zC (p : Program) (s : State) (m : MethodId) (args : Array Value) (meth : Method) (c : Code) (cc : ByteArray) (own : String) (nL : Nat) (E : za_E) (A : Nat → Prop) : Prop :=
  p.tables.exec = Jvm.exec ∧ c.code = cc ∧ c.maxLocals = nL ∧ s.vm.findClass own = some m.cls ∧ (∀ w ∈ zWW, w.before args s = true) ∧ za_Y E s s.heap ∧ (∀ q, za_A E q → A q) ∧ (∀ q, q < s.heap.size → A q → za_A E q) ∧ meth.locks = false
theorem za_fm {v : za_V} {st : List za_V} (h1 : za_ok v) (h2 : ∀ v ∈ st, za_ok v) : ∀ u ∈ v :: st, za_ok u := List.forall_mem_cons.mpr ⟨h1, h2⟩
theorem za_okI (x : Int32) : za_ok (za_I x) := trivial
theorem za_okL (x : Int64) : za_ok (za_L x) := trivial
theorem za_lat {ls : Array Slot} {lv : List (Nat × za_V)} {k i : Nat} {v : za_V} (hl : lv_has ls nL (lv.map fun q => (q.1, za_c E q.2))) (hq : lv[k]? = some (i, v)) : ls[i]? = some (.val (za_c E v)) := lv_at hl k (by rw [List.getElem?_map, hq]; rfl)
theorem za_lst {lv lv' : List (Nat × za_V)} {i : Nat} {v : za_V} (h : (i, v) :: lv.filter (fun q => !(q.1 == i) && !(q.1 + 1 == i && za_cat q.2 == 2)) = lv') :
    ((i, za_c E v) :: (lv.map fun q => (q.1, za_c E q.2)).filter (fun q => !(q.1 == i) && !(q.1 + 1 == i && q.2.category == 2))) = lv'.map fun q => (q.1, za_c E q.2) := by
  subst h
  rw [List.map_cons, List.filter_map]
  congr 2
  apply List.filter_congr
  intro q _
  simp only [Function.comp, za_c_cat]
theorem za_lst2 {lv lv' : List (Nat × za_V)} {i : Nat} {v : za_V} (h : (i, v) :: lv.filter (fun q => !(q.1 == i) && (!(q.1 == i + 1) && !(q.1 + 1 == i && za_cat q.2 == 2))) = lv') :
    ((i, za_c E v) :: (lv.map fun q => (q.1, za_c E q.2)).filter (fun q => !(q.1 == i) && (!(q.1 == i + 1) && !(q.1 + 1 == i && q.2.category == 2)))) = lv'.map fun q => (q.1, za_c E q.2) := by
  subst h
  rw [List.map_cons, List.filter_map]
  congr 2
  apply List.filter_congr
  intro q _
  simp only [Function.comp, za_c_cat]
theorem za_lok {lv : List (Nat × za_V)} {i : Nat} {v : za_V} {f : Nat × za_V → Bool} {lv' : List (Nat × za_V)} (h : (i, v) :: lv.filter f = lv') (h1 : ∀ q ∈ lv, za_ok q.2) (h2 : za_ok v) : ∀ q ∈ lv', za_ok q.2 := by
  subst h
  intro q hq
  rcases List.mem_cons.mp hq with rfl | hq
  · exact h2
  · exact h1 q (List.mem_filter.mp hq).1
theorem za_lget {lv : List (Nat × za_V)} {k i : Nat} {v : za_V} (h1 : ∀ q ∈ lv, za_ok q.2) (hq : lv[k]? = some (i, v)) : za_ok v := h1 (i, v) (List.mem_of_getElem? hq)
variable {pc : Nat} {lv lv' : List (Nat × za_V)} {st : List za_V} {σ : za_S}
theorem zv_iconst (G : zC p s m args meth c cc own nL E A) {n : Int} {v : Int32} (hd : decode cc pc = .ok (.iconst n, 1)) (hv : Int32.ofInt n = v) (k : zV p l e R s m args below meth c E A nL cells slots Q (pc + 1) lv (za_I v :: st) σ) : zV p l e R s m args below meth c E A nL cells slots Q pc lv st σ := by
  intro H locs ls ho hs hP hS hl
  exact lv_iconst G.1 G.2.1 hd hv (k H locs ls ho (za_fm (za_okI v) hs) hP hS hl)
theorem zv_bipush (G : zC p s m args meth c cc own nL E A) {n : Int} {v : Int32} (hd : decode cc pc = .ok (.bipush n, 2)) (hv : (Int8.ofInt n).toInt32 = v) (k : zV p l e R s m args below meth c E A nL cells slots Q (pc + 2) lv (za_I v :: st) σ) : zV p l e R s m args below meth c E A nL cells slots Q pc lv st σ := by
  intro H locs ls ho hs hP hS hl
  exact lv_bipush G.1 G.2.1 hd hv (k H locs ls ho (za_fm (za_okI v) hs) hP hS hl)
theorem zv_sipush (G : zC p s m args meth c cc own nL E A) {n : Int} {v : Int32} (hd : decode cc pc = .ok (.sipush n, 3)) (hv : (Int16.ofInt n).toInt32 = v) (k : zV p l e R s m args below meth c E A nL cells slots Q (pc + 3) lv (za_I v :: st) σ) : zV p l e R s m args below meth c E A nL cells slots Q pc lv st σ := by
  intro H locs ls ho hs hP hS hl
  exact lv_sipush G.1 G.2.1 hd hv (k H locs ls ho (za_fm (za_okI v) hs) hP hS hl)
theorem zv_lconst (G : zC p s m args meth c cc own nL E A) {n : Fin 2} {v : Int64} (hd : decode cc pc = .ok (.lconst n, 1)) (hv : Int64.ofNat (n : Nat) = v) (k : zV p l e R s m args below meth c E A nL cells slots Q (pc + 1) lv (za_L v :: st) σ) : zV p l e R s m args below meth c E A nL cells slots Q pc lv st σ := by
  intro H locs ls ho hs hP hS hl
  exact lv_lconst G.1 G.2.1 hd hv (k H locs ls ho (za_fm (za_okL v) hs) hP hS hl)
theorem zv_ldc (G : zC p s m args meth c cc own nL E A) {i : Nat} {v : Int32} (hd : decode cc pc = .ok (.ldc i, 2)) (hv : Cond.constant own i v ∈ zWW) (k : zV p l e R s m args below meth c E A nL cells slots Q (pc + 2) lv (za_I v :: st) σ) : zV p l e R s m args below meth c E A nL cells slots Q pc lv st σ := by
  intro H locs ls ho hs hP hS hl
  exact lv_ldc G.1 G.2.1 G.2.2.2.1 (G.2.2.2.2.1 _ hv) hd (k H locs ls ho (za_fm (za_okI v) hs) hP hS hl)
theorem zv_ldc2 (G : zC p s m args meth c cc own nL E A) {i : Nat} {v : Int64} (hd : decode cc pc = .ok (.ldc2_w i, 3)) (hv : Cond.constantLong own i v ∈ zWW) (k : zV p l e R s m args below meth c E A nL cells slots Q (pc + 3) lv (za_L v :: st) σ) : zV p l e R s m args below meth c E A nL cells slots Q pc lv st σ := by
  intro H locs ls ho hs hP hS hl
  exact lv_ldc2 G.1 G.2.1 G.2.2.2.1 (G.2.2.2.2.1 _ hv) hd (k H locs ls ho (za_fm (za_okL v) hs) hP hS hl)
theorem zv_iload_n (G : zC p s m args meth c cc own nL E A) {k9 : Fin 4} {j i : Nat} {x : Int32} (hd : decode cc pc = .ok (.iload_n k9, 1)) (hi : (k9 : Nat) = i) (hq : lv[j]? = some (i, za_I x)) (k : zV p l e R s m args below meth c E A nL cells slots Q (pc + 1) lv (za_I x :: st) σ) : zV p l e R s m args below meth c E A nL cells slots Q pc lv st σ := by
  intro H locs ls ho hs hP hS hl
  exact lv_iload_n G.1 G.2.1 hd hi (za_lat hl hq) (k H locs ls ho (za_fm (za_okI x) hs) hP hS hl)
theorem zv_iload (G : zC p s m args meth c cc own nL E A) {j i : Nat} {x : Int32} (hd : decode cc pc = .ok (.iload i, 2)) (hq : lv[j]? = some (i, za_I x)) (k : zV p l e R s m args below meth c E A nL cells slots Q (pc + 2) lv (za_I x :: st) σ) : zV p l e R s m args below meth c E A nL cells slots Q pc lv st σ := by
  intro H locs ls ho hs hP hS hl
  exact lv_iload G.1 G.2.1 hd (za_lat hl hq) (k H locs ls ho (za_fm (za_okI x) hs) hP hS hl)
theorem zv_lload_n (G : zC p s m args meth c cc own nL E A) {k9 : Fin 4} {j i : Nat} {x : Int64} (hd : decode cc pc = .ok (.lload_n k9, 1)) (hi : (k9 : Nat) = i) (hq : lv[j]? = some (i, za_L x)) (k : zV p l e R s m args below meth c E A nL cells slots Q (pc + 1) lv (za_L x :: st) σ) : zV p l e R s m args below meth c E A nL cells slots Q pc lv st σ := by
  intro H locs ls ho hs hP hS hl
  exact lv_lload_n G.1 G.2.1 hd hi (za_lat hl hq) (k H locs ls ho (za_fm (za_okL x) hs) hP hS hl)
theorem zv_lload (G : zC p s m args meth c cc own nL E A) {j i : Nat} {x : Int64} (hd : decode cc pc = .ok (.lload i, 2)) (hq : lv[j]? = some (i, za_L x)) (k : zV p l e R s m args below meth c E A nL cells slots Q (pc + 2) lv (za_L x :: st) σ) : zV p l e R s m args below meth c E A nL cells slots Q pc lv st σ := by
  intro H locs ls ho hs hP hS hl
  exact lv_lload G.1 G.2.1 hd (za_lat hl hq) (k H locs ls ho (za_fm (za_okL x) hs) hP hS hl)
theorem za_c_O (E : za_E) (k w : Nat) (h : k ≠ 52) : ∃ a : Nat, za_c E (za_O k w) = .ref a := by
  show ∃ a : Nat, (if k = 50 then Value.ref (E.2.2.2.1 w) else if k = 51 then .ref (E.2.2.2.2 w) else if k = 52 then (if w = 0 then .null else .ref (w - 1)) else .ref (E.1 + w)) = .ref a
  split
  · exact ⟨_, rfl⟩
  · split
    · exact ⟨_, rfl⟩
    · exact ⟨_, rfl⟩
theorem zv_aload_n (G : zC p s m args meth c cc own nL E A) {k9 : Fin 4} {j i q w : Nat} (hd : decode cc pc = .ok (.aload_n k9, 1)) (hi : (k9 : Nat) = i) (hq : lv[j]? = some (i, za_O q w)) (k : zV p l e R s m args below meth c E A nL cells slots Q (pc + 1) lv (za_O q w :: st) σ) (h52 : q ≠ 52 := by decide) : zV p l e R s m args below meth c E A nL cells slots Q pc lv st σ := by
  intro H locs ls ho hs hP hS hl
  obtain ⟨a, ha⟩ := za_c_O E q w h52
  have h1 := za_lat hl hq
  rw [ha] at h1
  have h2 := k H locs ls ho (za_fm (za_lget ho hq) hs) hP hS hl
  rw [List.map_cons, ha] at h2
  exact lv_aload_n G.1 G.2.1 hd hi h1 h2
theorem zv_aload (G : zC p s m args meth c cc own nL E A) {j i q w : Nat} (hd : decode cc pc = .ok (.aload i, 2)) (hq : lv[j]? = some (i, za_O q w)) (k : zV p l e R s m args below meth c E A nL cells slots Q (pc + 2) lv (za_O q w :: st) σ) (h52 : q ≠ 52 := by decide) : zV p l e R s m args below meth c E A nL cells slots Q pc lv st σ := by
  intro H locs ls ho hs hP hS hl
  obtain ⟨a, ha⟩ := za_c_O E q w h52
  have h1 := za_lat hl hq
  rw [ha] at h1
  have h2 := k H locs ls ho (za_fm (za_lget ho hq) hs) hP hS hl
  rw [List.map_cons, ha] at h2
  exact lv_aload G.1 G.2.1 hd h1 h2
theorem zv_istore_n (G : zC p s m args meth c cc own nL E A) {k9 : Fin 4} {i : Nat} {x : Int32} (hd : decode cc pc = .ok (.istore_n k9, 1)) (hi : (k9 : Nat) = i) (hn : i < nL) (h9 : (i, za_I x) :: lv.filter (fun q => !(q.1 == i) && !(q.1 + 1 == i && za_cat q.2 == 2)) = lv') (k : zV p l e R s m args below meth c E A nL cells slots Q (pc + 1) lv' st σ) : zV p l e R s m args below meth c E A nL cells slots Q pc lv (za_I x :: st) σ := by
  intro H locs ls ho hs hP hS hl
  exact lv_istore_n G.1 G.2.1 hd hi hl hn (za_lst h9) (fun ls hl => k H locs ls (za_lok h9 ho (za_okI x)) (List.forall_mem_cons.mp hs).2 hP hS hl)
theorem zv_istore (G : zC p s m args meth c cc own nL E A) {i : Nat} {x : Int32} (hd : decode cc pc = .ok (.istore i, 2)) (hn : i < nL) (h9 : (i, za_I x) :: lv.filter (fun q => !(q.1 == i) && !(q.1 + 1 == i && za_cat q.2 == 2)) = lv') (k : zV p l e R s m args below meth c E A nL cells slots Q (pc + 2) lv' st σ) : zV p l e R s m args below meth c E A nL cells slots Q pc lv (za_I x :: st) σ := by
  intro H locs ls ho hs hP hS hl
  exact lv_istore G.1 G.2.1 hd hl hn (za_lst h9) (fun ls hl => k H locs ls (za_lok h9 ho (za_okI x)) (List.forall_mem_cons.mp hs).2 hP hS hl)
theorem zv_lstore_n (G : zC p s m args meth c cc own nL E A) {k9 : Fin 4} {i : Nat} {x : Int64} (hd : decode cc pc = .ok (.lstore_n k9, 1)) (hi : (k9 : Nat) = i) (hn : i + 1 < nL) (h9 : (i, za_L x) :: lv.filter (fun q => !(q.1 == i) && (!(q.1 == i + 1) && !(q.1 + 1 == i && za_cat q.2 == 2))) = lv') (k : zV p l e R s m args below meth c E A nL cells slots Q (pc + 1) lv' st σ) : zV p l e R s m args below meth c E A nL cells slots Q pc lv (za_L x :: st) σ := by
  intro H locs ls ho hs hP hS hl
  exact lv_lstore_n G.1 G.2.1 hd hi hl hn (za_lst2 h9) (fun ls hl => k H locs ls (za_lok h9 ho (za_okL x)) (List.forall_mem_cons.mp hs).2 hP hS hl)
theorem zv_lstore (G : zC p s m args meth c cc own nL E A) {i : Nat} {x : Int64} (hd : decode cc pc = .ok (.lstore i, 2)) (hn : i + 1 < nL) (h9 : (i, za_L x) :: lv.filter (fun q => !(q.1 == i) && (!(q.1 == i + 1) && !(q.1 + 1 == i && za_cat q.2 == 2))) = lv') (k : zV p l e R s m args below meth c E A nL cells slots Q (pc + 2) lv' st σ) : zV p l e R s m args below meth c E A nL cells slots Q pc lv (za_L x :: st) σ := by
  intro H locs ls ho hs hP hS hl
  exact lv_lstore G.1 G.2.1 hd hl hn (za_lst2 h9) (fun ls hl => k H locs ls (za_lok h9 ho (za_okL x)) (List.forall_mem_cons.mp hs).2 hP hS hl)
theorem zv_astore_n (G : zC p s m args meth c cc own nL E A) {k9 : Fin 4} {i q w : Nat} (hd : decode cc pc = .ok (.astore_n k9, 1)) (hi : (k9 : Nat) = i) (hn : i < nL) (h9 : (i, za_O q w) :: lv.filter (fun q => !(q.1 == i) && !(q.1 + 1 == i && za_cat q.2 == 2)) = lv') (k : zV p l e R s m args below meth c E A nL cells slots Q (pc + 1) lv' st σ) (h52 : q ≠ 52 := by decide) : zV p l e R s m args below meth c E A nL cells slots Q pc lv (za_O q w :: st) σ := by
  intro H locs ls ho hs hP hS hl
  obtain ⟨a, ha⟩ := za_c_O E q w h52
  have h1 := za_lst (E := E) h9
  rw [ha] at h1
  rw [List.map_cons, ha]
  exact lv_astore_n G.1 G.2.1 hd hi hl hn h1 (fun ls hl => k H locs ls (za_lok h9 ho (List.forall_mem_cons.mp hs).1) (List.forall_mem_cons.mp hs).2 hP hS hl)
theorem zv_astore (G : zC p s m args meth c cc own nL E A) {i q w : Nat} (hd : decode cc pc = .ok (.astore i, 2)) (hn : i < nL) (h9 : (i, za_O q w) :: lv.filter (fun q => !(q.1 == i) && !(q.1 + 1 == i && za_cat q.2 == 2)) = lv') (k : zV p l e R s m args below meth c E A nL cells slots Q (pc + 2) lv' st σ) (h52 : q ≠ 52 := by decide) : zV p l e R s m args below meth c E A nL cells slots Q pc lv (za_O q w :: st) σ := by
  intro H locs ls ho hs hP hS hl
  obtain ⟨a, ha⟩ := za_c_O E q w h52
  have h1 := za_lst (E := E) h9
  rw [ha] at h1
  rw [List.map_cons, ha]
  exact lv_astore G.1 G.2.1 hd hl hn h1 (fun ls hl => k H locs ls (za_lok h9 ho (List.forall_mem_cons.mp hs).1) (List.forall_mem_cons.mp hs).2 hP hS hl)
theorem zv_iinc (G : zC p s m args meth c cc own nL E A) {i j : Nat} {n : Int} {x v : Int32} (hd : decode cc pc = .ok (.iinc i n, 3)) (hq : lv[j]? = some (i, za_I x)) (hv : x + Int32.ofInt n = v) (hn : i < nL) (h9 : (i, za_I v) :: lv.filter (fun q => !(q.1 == i) && !(q.1 + 1 == i && za_cat q.2 == 2)) = lv') (k : zV p l e R s m args below meth c E A nL cells slots Q (pc + 3) lv' st σ) : zV p l e R s m args below meth c E A nL cells slots Q pc lv st σ := by
  intro H locs ls ho hs hP hS hl
  exact lv_iinc G.1 G.2.1 hd hl (k := j) (by rw [List.getElem?_map, hq]; rfl) hv hn (za_lst h9) (fun ls hl => k H locs ls (za_lok h9 ho (za_okI v)) hs hP hS hl)
theorem zv_iadd (G : zC p s m args meth c cc own nL E A) {x y : Int32} (hd : decode cc pc = .ok (.iadd, 1)) (k : zV p l e R s m args below meth c E A nL cells slots Q (pc + 1) lv (za_I (x + y) :: st) σ) : zV p l e R s m args below meth c E A nL cells slots Q pc lv (za_I y :: za_I x :: st) σ := by
  intro H locs ls ho hs hP hS hl
  exact lv_iadd G.1 G.2.1 hd (k H locs ls ho (za_fm (za_okI _) (List.forall_mem_cons.mp (List.forall_mem_cons.mp hs).2).2) hP hS hl)
theorem zv_isub (G : zC p s m args meth c cc own nL E A) {x y : Int32} (hd : decode cc pc = .ok (.isub, 1)) (k : zV p l e R s m args below meth c E A nL cells slots Q (pc + 1) lv (za_I (x - y) :: st) σ) : zV p l e R s m args below meth c E A nL cells slots Q pc lv (za_I y :: za_I x :: st) σ := by
  intro H locs ls ho hs hP hS hl
  exact lv_isub G.1 G.2.1 hd (k H locs ls ho (za_fm (za_okI _) (List.forall_mem_cons.mp (List.forall_mem_cons.mp hs).2).2) hP hS hl)
theorem zv_imul (G : zC p s m args meth c cc own nL E A) {x y : Int32} (hd : decode cc pc = .ok (.imul, 1)) (k : zV p l e R s m args below meth c E A nL cells slots Q (pc + 1) lv (za_I (x * y) :: st) σ) : zV p l e R s m args below meth c E A nL cells slots Q pc lv (za_I y :: za_I x :: st) σ := by
  intro H locs ls ho hs hP hS hl
  exact lv_imul G.1 G.2.1 hd (k H locs ls ho (za_fm (za_okI _) (List.forall_mem_cons.mp (List.forall_mem_cons.mp hs).2).2) hP hS hl)
theorem zv_iand (G : zC p s m args meth c cc own nL E A) {x y : Int32} (hd : decode cc pc = .ok (.iand, 1)) (k : zV p l e R s m args below meth c E A nL cells slots Q (pc + 1) lv (za_I (x &&& y) :: st) σ) : zV p l e R s m args below meth c E A nL cells slots Q pc lv (za_I y :: za_I x :: st) σ := by
  intro H locs ls ho hs hP hS hl
  exact lv_iand G.1 G.2.1 hd (k H locs ls ho (za_fm (za_okI _) (List.forall_mem_cons.mp (List.forall_mem_cons.mp hs).2).2) hP hS hl)
theorem zv_ior (G : zC p s m args meth c cc own nL E A) {x y : Int32} (hd : decode cc pc = .ok (.ior, 1)) (k : zV p l e R s m args below meth c E A nL cells slots Q (pc + 1) lv (za_I (x ||| y) :: st) σ) : zV p l e R s m args below meth c E A nL cells slots Q pc lv (za_I y :: za_I x :: st) σ := by
  intro H locs ls ho hs hP hS hl
  exact lv_ior G.1 G.2.1 hd (k H locs ls ho (za_fm (za_okI _) (List.forall_mem_cons.mp (List.forall_mem_cons.mp hs).2).2) hP hS hl)
theorem zv_ixor (G : zC p s m args meth c cc own nL E A) {x y : Int32} (hd : decode cc pc = .ok (.ixor, 1)) (k : zV p l e R s m args below meth c E A nL cells slots Q (pc + 1) lv (za_I (x ^^^ y) :: st) σ) : zV p l e R s m args below meth c E A nL cells slots Q pc lv (za_I y :: za_I x :: st) σ := by
  intro H locs ls ho hs hP hS hl
  exact lv_ixor G.1 G.2.1 hd (k H locs ls ho (za_fm (za_okI _) (List.forall_mem_cons.mp (List.forall_mem_cons.mp hs).2).2) hP hS hl)
theorem zv_ishl (G : zC p s m args meth c cc own nL E A) {x y : Int32} (hd : decode cc pc = .ok (.ishl, 1)) (k : zV p l e R s m args below meth c E A nL cells slots Q (pc + 1) lv (za_I (x <<< (y &&& 31)) :: st) σ) : zV p l e R s m args below meth c E A nL cells slots Q pc lv (za_I y :: za_I x :: st) σ := by
  intro H locs ls ho hs hP hS hl
  exact lv_ishl G.1 G.2.1 hd (k H locs ls ho (za_fm (za_okI _) (List.forall_mem_cons.mp (List.forall_mem_cons.mp hs).2).2) hP hS hl)
theorem zv_ishr (G : zC p s m args meth c cc own nL E A) {x y : Int32} (hd : decode cc pc = .ok (.ishr, 1)) (k : zV p l e R s m args below meth c E A nL cells slots Q (pc + 1) lv (za_I (x >>> (y &&& 31)) :: st) σ) : zV p l e R s m args below meth c E A nL cells slots Q pc lv (za_I y :: za_I x :: st) σ := by
  intro H locs ls ho hs hP hS hl
  exact lv_ishr G.1 G.2.1 hd (k H locs ls ho (za_fm (za_okI _) (List.forall_mem_cons.mp (List.forall_mem_cons.mp hs).2).2) hP hS hl)
theorem zv_iushr (G : zC p s m args meth c cc own nL E A) {x y : Int32} (hd : decode cc pc = .ok (.iushr, 1)) (k : zV p l e R s m args below meth c E A nL cells slots Q (pc + 1) lv (za_I ((x.toUInt32 >>> (y.toUInt32 &&& Int32.toUInt32 31)).toInt32) :: st) σ) : zV p l e R s m args below meth c E A nL cells slots Q pc lv (za_I y :: za_I x :: st) σ := by
  intro H locs ls ho hs hP hS hl
  exact lv_iushr G.1 G.2.1 hd rfl (k H locs ls ho (za_fm (za_okI _) (List.forall_mem_cons.mp (List.forall_mem_cons.mp hs).2).2) hP hS hl)
theorem zv_idiv (G : zC p s m args meth c cc own nL E A) {x y : Int32} (hd : decode cc pc = .ok (.idiv, 1)) (hne : ¬ y = 0) (k : zV p l e R s m args below meth c E A nL cells slots Q (pc + 1) lv (za_I (x / y) :: st) σ) : zV p l e R s m args below meth c E A nL cells slots Q pc lv (za_I y :: za_I x :: st) σ := by
  intro H locs ls ho hs hP hS hl
  exact lv_idiv G.1 G.2.1 hd hne (k H locs ls ho (za_fm (za_okI _) (List.forall_mem_cons.mp (List.forall_mem_cons.mp hs).2).2) hP hS hl)
theorem zv_irem (G : zC p s m args meth c cc own nL E A) {x y : Int32} (hd : decode cc pc = .ok (.irem, 1)) (hne : ¬ y = 0) (k : zV p l e R s m args below meth c E A nL cells slots Q (pc + 1) lv (za_I (x - x / y * y) :: st) σ) : zV p l e R s m args below meth c E A nL cells slots Q pc lv (za_I y :: za_I x :: st) σ := by
  intro H locs ls ho hs hP hS hl
  exact lv_irem G.1 G.2.1 hd hne (k H locs ls ho (za_fm (za_okI _) (List.forall_mem_cons.mp (List.forall_mem_cons.mp hs).2).2) hP hS hl)
theorem zv_ldiv (G : zC p s m args meth c cc own nL E A) {x y : Int64} (hd : decode cc pc = .ok (.ldiv, 1)) (hne : ¬ y = 0) (k : zV p l e R s m args below meth c E A nL cells slots Q (pc + 1) lv (za_L (x / y) :: st) σ) : zV p l e R s m args below meth c E A nL cells slots Q pc lv (za_L y :: za_L x :: st) σ := by
  intro H locs ls ho hs hP hS hl
  exact lv_ldiv G.1 G.2.1 hd hne (k H locs ls ho (za_fm (za_okL _) (List.forall_mem_cons.mp (List.forall_mem_cons.mp hs).2).2) hP hS hl)
theorem zv_lrem (G : zC p s m args meth c cc own nL E A) {x y : Int64} (hd : decode cc pc = .ok (.lrem, 1)) (hne : ¬ y = 0) (k : zV p l e R s m args below meth c E A nL cells slots Q (pc + 1) lv (za_L (x - x / y * y) :: st) σ) : zV p l e R s m args below meth c E A nL cells slots Q pc lv (za_L y :: za_L x :: st) σ := by
  intro H locs ls ho hs hP hS hl
  exact lv_lrem G.1 G.2.1 hd hne (k H locs ls ho (za_fm (za_okL _) (List.forall_mem_cons.mp (List.forall_mem_cons.mp hs).2).2) hP hS hl)
theorem zv_ladd (G : zC p s m args meth c cc own nL E A) {x y : Int64} (hd : decode cc pc = .ok (.ladd, 1)) (k : zV p l e R s m args below meth c E A nL cells slots Q (pc + 1) lv (za_L (x + y) :: st) σ) : zV p l e R s m args below meth c E A nL cells slots Q pc lv (za_L y :: za_L x :: st) σ := by
  intro H locs ls ho hs hP hS hl
  exact lv_ladd G.1 G.2.1 hd (k H locs ls ho (za_fm (za_okL _) (List.forall_mem_cons.mp (List.forall_mem_cons.mp hs).2).2) hP hS hl)
theorem zv_lcmp (G : zC p s m args meth c cc own nL E A) {x y : Int64} (hd : decode cc pc = .ok (.lcmp, 1)) (k : zV p l e R s m args below meth c E A nL cells slots Q (pc + 1) lv (za_I (lg_cmp x y) :: st) σ) : zV p l e R s m args below meth c E A nL cells slots Q pc lv (za_L y :: za_L x :: st) σ := by
  intro H locs ls ho hs hP hS hl
  exact W.lcmp G.1 G.2.1 hd (k H locs ls ho (za_fm (za_okI _) (List.forall_mem_cons.mp (List.forall_mem_cons.mp hs).2).2) hP hS hl)
theorem zv_ineg (G : zC p s m args meth c cc own nL E A) {x : Int32} (hd : decode cc pc = .ok (.ineg, 1)) (k : zV p l e R s m args below meth c E A nL cells slots Q (pc + 1) lv (za_I (-x) :: st) σ) : zV p l e R s m args below meth c E A nL cells slots Q pc lv (za_I x :: st) σ := by
  intro H locs ls ho hs hP hS hl
  exact lv_ineg G.1 G.2.1 hd (k H locs ls ho (za_fm (za_okI _) (List.forall_mem_cons.mp hs).2) hP hS hl)
theorem zv_i2b (G : zC p s m args meth c cc own nL E A) {x : Int32} (hd : decode cc pc = .ok (.i2b, 1)) (k : zV p l e R s m args below meth c E A nL cells slots Q (pc + 1) lv (za_I (x.toInt8.toInt32) :: st) σ) : zV p l e R s m args below meth c E A nL cells slots Q pc lv (za_I x :: st) σ := by
  intro H locs ls ho hs hP hS hl
  exact lv_i2b G.1 G.2.1 hd rfl (k H locs ls ho (za_fm (za_okI _) (List.forall_mem_cons.mp hs).2) hP hS hl)
theorem zv_i2s (G : zC p s m args meth c cc own nL E A) {x : Int32} (hd : decode cc pc = .ok (.i2s, 1)) (k : zV p l e R s m args below meth c E A nL cells slots Q (pc + 1) lv (za_I (x.toInt16.toInt32) :: st) σ) : zV p l e R s m args below meth c E A nL cells slots Q pc lv (za_I x :: st) σ := by
  intro H locs ls ho hs hP hS hl
  exact lv_i2s G.1 G.2.1 hd rfl (k H locs ls ho (za_fm (za_okI _) (List.forall_mem_cons.mp hs).2) hP hS hl)
theorem zv_i2c (G : zC p s m args meth c cc own nL E A) {x : Int32} (hd : decode cc pc = .ok (.i2c, 1)) (k : zV p l e R s m args below meth c E A nL cells slots Q (pc + 1) lv (za_I ((x.toUInt32 % 65536).toInt32) :: st) σ) : zV p l e R s m args below meth c E A nL cells slots Q pc lv (za_I x :: st) σ := by
  intro H locs ls ho hs hP hS hl
  exact lv_i2c G.1 G.2.1 hd rfl (k H locs ls ho (za_fm (za_okI _) (List.forall_mem_cons.mp hs).2) hP hS hl)
theorem zv_i2l (G : zC p s m args meth c cc own nL E A) {x : Int32} (hd : decode cc pc = .ok (.i2l, 1)) (k : zV p l e R s m args below meth c E A nL cells slots Q (pc + 1) lv (za_L x.toInt64 :: st) σ) : zV p l e R s m args below meth c E A nL cells slots Q pc lv (za_I x :: st) σ := by
  intro H locs ls ho hs hP hS hl
  exact lv_i2l G.1 G.2.1 hd rfl (k H locs ls ho (za_fm (za_okL _) (List.forall_mem_cons.mp hs).2) hP hS hl)
theorem zv_top {x : Int32} (k : ∀ y : Int32, y = x → zV p l e R s m args below meth c E A nL cells slots Q pc lv (za_I y :: st) σ) : zV p l e R s m args below meth c E A nL cells slots Q pc lv (za_I x :: st) σ := k x rfl
theorem zv_topl {x : Int64} (k : ∀ y : Int64, y = x → zV p l e R s m args below meth c E A nL cells slots Q pc lv (za_L y :: st) σ) : zV p l e R s m args below meth c E A nL cells slots Q pc lv (za_L x :: st) σ := k x rfl
theorem zv_sig {σ' : za_S} (h : σ = σ') (k : zV p l e R s m args below meth c E A nL cells slots Q pc lv st σ') : zV p l e R s m args below meth c E A nL cells slots Q pc lv st σ := h ▸ k
theorem zv_dupI (G : zC p s m args meth c cc own nL E A) {x : Int32} (hd : decode cc pc = .ok (.dup, 1)) (k : zV p l e R s m args below meth c E A nL cells slots Q (pc + 1) lv (za_I x :: za_I x :: st) σ) : zV p l e R s m args below meth c E A nL cells slots Q pc lv (za_I x :: st) σ := by
  intro H locs ls ho hs hP hS hl
  exact lv_dup G.1 G.2.1 hd (za_c_cat E (za_I x)) (k H locs ls ho (za_fm (List.forall_mem_cons.mp hs).1 hs) hP hS hl)
theorem zv_popI (G : zC p s m args meth c cc own nL E A) {x : Int32} (hd : decode cc pc = .ok (.pop, 1)) (k : zV p l e R s m args below meth c E A nL cells slots Q (pc + 1) lv st σ) : zV p l e R s m args below meth c E A nL cells slots Q pc lv (za_I x :: st) σ := by
  intro H locs ls ho hs hP hS hl
  exact lv_pop G.1 G.2.1 hd (za_c_cat E (za_I x)) (k H locs ls ho (List.forall_mem_cons.mp hs).2 hP hS hl)
theorem zv_dupO (G : zC p s m args meth c cc own nL E A) {q w : Nat} (hd : decode cc pc = .ok (.dup, 1)) (k : zV p l e R s m args below meth c E A nL cells slots Q (pc + 1) lv (za_O q w :: za_O q w :: st) σ) : zV p l e R s m args below meth c E A nL cells slots Q pc lv (za_O q w :: st) σ := by
  intro H locs ls ho hs hP hS hl
  exact lv_dup G.1 G.2.1 hd (za_c_cat E (za_O q w)) (k H locs ls ho (za_fm (List.forall_mem_cons.mp hs).1 hs) hP hS hl)
theorem zv_popO (G : zC p s m args meth c cc own nL E A) {q w : Nat} (hd : decode cc pc = .ok (.pop, 1)) (k : zV p l e R s m args below meth c E A nL cells slots Q (pc + 1) lv st σ) : zV p l e R s m args below meth c E A nL cells slots Q pc lv (za_O q w :: st) σ := by
  intro H locs ls ho hs hP hS hl
  exact lv_pop G.1 G.2.1 hd (za_c_cat E (za_O q w)) (k H locs ls ho (List.forall_mem_cons.mp hs).2 hP hS hl)
theorem zv_dup2 (G : zC p s m args meth c cc own nL E A) {q w : Nat} {x : Int32} (hd : decode cc pc = .ok (.dup2, 1)) (k : zV p l e R s m args below meth c E A nL cells slots Q (pc + 1) lv (za_I x :: za_O q w :: za_I x :: za_O q w :: st) σ) : zV p l e R s m args below meth c E A nL cells slots Q pc lv (za_I x :: za_O q w :: st) σ := by
  intro H locs ls ho hs hP hS hl
  exact lv_dup2_11 G.1 G.2.1 hd (za_c_cat E (za_I x)) (za_c_cat E (za_O q w)) (k H locs ls ho (za_fm (za_okI x) (za_fm (List.forall_mem_cons.mp (List.forall_mem_cons.mp hs).2).1 hs)) hP hS hl)
theorem zv_if_eq (G : zC p s m args meth c cc own nL E A) {x : Int32} {off : Int} {tgt : Nat} (hd : decode cc pc = .ok (.ifCond .eq off, 3)) (ht : (pc : Int) + off = (tgt : Int)) (kt : x = 0 → zV p l e R s m args below meth c E A nL cells slots Q tgt lv st σ) (kf : ¬ (x = 0) → zV p l e R s m args below meth c E A nL cells slots Q (pc + 3) lv st σ) : zV p l e R s m args below meth c E A nL cells slots Q pc lv (za_I x :: st) σ := by
  intro H locs ls ho hs hP hS hl
  exact lv_if_eq G.1 G.2.1 hd ht (fun q => kt q H locs ls ho (List.forall_mem_cons.mp hs).2 hP hS hl) (fun q => kf q H locs ls ho (List.forall_mem_cons.mp hs).2 hP hS hl)
theorem zv_if_ne (G : zC p s m args meth c cc own nL E A) {x : Int32} {off : Int} {tgt : Nat} (hd : decode cc pc = .ok (.ifCond .ne off, 3)) (ht : (pc : Int) + off = (tgt : Int)) (kt : ¬ x = 0 → zV p l e R s m args below meth c E A nL cells slots Q tgt lv st σ) (kf : x = 0 → zV p l e R s m args below meth c E A nL cells slots Q (pc + 3) lv st σ) : zV p l e R s m args below meth c E A nL cells slots Q pc lv (za_I x :: st) σ := by
  intro H locs ls ho hs hP hS hl
  exact lv_if_ne G.1 G.2.1 hd ht (fun q => kt q H locs ls ho (List.forall_mem_cons.mp hs).2 hP hS hl) (fun q => kf q H locs ls ho (List.forall_mem_cons.mp hs).2 hP hS hl)
theorem zv_if_lt (G : zC p s m args meth c cc own nL E A) {x : Int32} {off : Int} {tgt : Nat} (hd : decode cc pc = .ok (.ifCond .lt off, 3)) (ht : (pc : Int) + off = (tgt : Int)) (kt : x < 0 → zV p l e R s m args below meth c E A nL cells slots Q tgt lv st σ) (kf : ¬ (x < 0) → zV p l e R s m args below meth c E A nL cells slots Q (pc + 3) lv st σ) : zV p l e R s m args below meth c E A nL cells slots Q pc lv (za_I x :: st) σ := by
  intro H locs ls ho hs hP hS hl
  exact lv_if_lt G.1 G.2.1 hd ht (fun q => kt q H locs ls ho (List.forall_mem_cons.mp hs).2 hP hS hl) (fun q => kf q H locs ls ho (List.forall_mem_cons.mp hs).2 hP hS hl)
theorem zv_if_ge (G : zC p s m args meth c cc own nL E A) {x : Int32} {off : Int} {tgt : Nat} (hd : decode cc pc = .ok (.ifCond .ge off, 3)) (ht : (pc : Int) + off = (tgt : Int)) (kt : 0 ≤ x → zV p l e R s m args below meth c E A nL cells slots Q tgt lv st σ) (kf : ¬ (0 ≤ x) → zV p l e R s m args below meth c E A nL cells slots Q (pc + 3) lv st σ) : zV p l e R s m args below meth c E A nL cells slots Q pc lv (za_I x :: st) σ := by
  intro H locs ls ho hs hP hS hl
  exact lv_if_ge G.1 G.2.1 hd ht (fun q => kt q H locs ls ho (List.forall_mem_cons.mp hs).2 hP hS hl) (fun q => kf q H locs ls ho (List.forall_mem_cons.mp hs).2 hP hS hl)
theorem zv_if_gt (G : zC p s m args meth c cc own nL E A) {x : Int32} {off : Int} {tgt : Nat} (hd : decode cc pc = .ok (.ifCond .gt off, 3)) (ht : (pc : Int) + off = (tgt : Int)) (kt : 0 < x → zV p l e R s m args below meth c E A nL cells slots Q tgt lv st σ) (kf : ¬ (0 < x) → zV p l e R s m args below meth c E A nL cells slots Q (pc + 3) lv st σ) : zV p l e R s m args below meth c E A nL cells slots Q pc lv (za_I x :: st) σ := by
  intro H locs ls ho hs hP hS hl
  exact lv_if_gt G.1 G.2.1 hd ht (fun q => kt q H locs ls ho (List.forall_mem_cons.mp hs).2 hP hS hl) (fun q => kf q H locs ls ho (List.forall_mem_cons.mp hs).2 hP hS hl)
theorem zv_if_le (G : zC p s m args meth c cc own nL E A) {x : Int32} {off : Int} {tgt : Nat} (hd : decode cc pc = .ok (.ifCond .le off, 3)) (ht : (pc : Int) + off = (tgt : Int)) (kt : x ≤ 0 → zV p l e R s m args below meth c E A nL cells slots Q tgt lv st σ) (kf : ¬ (x ≤ 0) → zV p l e R s m args below meth c E A nL cells slots Q (pc + 3) lv st σ) : zV p l e R s m args below meth c E A nL cells slots Q pc lv (za_I x :: st) σ := by
  intro H locs ls ho hs hP hS hl
  exact lv_if_le G.1 G.2.1 hd ht (fun q => kt q H locs ls ho (List.forall_mem_cons.mp hs).2 hP hS hl) (fun q => kf q H locs ls ho (List.forall_mem_cons.mp hs).2 hP hS hl)
theorem zv_icmp_eq (G : zC p s m args meth c cc own nL E A) {x y : Int32} {off : Int} {tgt : Nat} (hd : decode cc pc = .ok (.if_icmp .eq off, 3)) (ht : (pc : Int) + off = (tgt : Int)) (kt : x = y → zV p l e R s m args below meth c E A nL cells slots Q tgt lv st σ) (kf : ¬ (x = y) → zV p l e R s m args below meth c E A nL cells slots Q (pc + 3) lv st σ) : zV p l e R s m args below meth c E A nL cells slots Q pc lv (za_I y :: za_I x :: st) σ := by
  intro H locs ls ho hs hP hS hl
  exact lv_icmp_eq G.1 G.2.1 hd ht (fun q => kt q H locs ls ho (List.forall_mem_cons.mp (List.forall_mem_cons.mp hs).2).2 hP hS hl) (fun q => kf q H locs ls ho (List.forall_mem_cons.mp (List.forall_mem_cons.mp hs).2).2 hP hS hl)
theorem zv_icmp_ne (G : zC p s m args meth c cc own nL E A) {x y : Int32} {off : Int} {tgt : Nat} (hd : decode cc pc = .ok (.if_icmp .ne off, 3)) (ht : (pc : Int) + off = (tgt : Int)) (kt : ¬ x = y → zV p l e R s m args below meth c E A nL cells slots Q tgt lv st σ) (kf : x = y → zV p l e R s m args below meth c E A nL cells slots Q (pc + 3) lv st σ) : zV p l e R s m args below meth c E A nL cells slots Q pc lv (za_I y :: za_I x :: st) σ := by
  intro H locs ls ho hs hP hS hl
  exact lv_icmp_ne G.1 G.2.1 hd ht (fun q => kt q H locs ls ho (List.forall_mem_cons.mp (List.forall_mem_cons.mp hs).2).2 hP hS hl) (fun q => kf q H locs ls ho (List.forall_mem_cons.mp (List.forall_mem_cons.mp hs).2).2 hP hS hl)
theorem zv_icmp_lt (G : zC p s m args meth c cc own nL E A) {x y : Int32} {off : Int} {tgt : Nat} (hd : decode cc pc = .ok (.if_icmp .lt off, 3)) (ht : (pc : Int) + off = (tgt : Int)) (kt : x < y → zV p l e R s m args below meth c E A nL cells slots Q tgt lv st σ) (kf : ¬ (x < y) → zV p l e R s m args below meth c E A nL cells slots Q (pc + 3) lv st σ) : zV p l e R s m args below meth c E A nL cells slots Q pc lv (za_I y :: za_I x :: st) σ := by
  intro H locs ls ho hs hP hS hl
  exact lv_icmp_lt G.1 G.2.1 hd ht (fun q => kt q H locs ls ho (List.forall_mem_cons.mp (List.forall_mem_cons.mp hs).2).2 hP hS hl) (fun q => kf q H locs ls ho (List.forall_mem_cons.mp (List.forall_mem_cons.mp hs).2).2 hP hS hl)
theorem zv_icmp_ge (G : zC p s m args meth c cc own nL E A) {x y : Int32} {off : Int} {tgt : Nat} (hd : decode cc pc = .ok (.if_icmp .ge off, 3)) (ht : (pc : Int) + off = (tgt : Int)) (kt : y ≤ x → zV p l e R s m args below meth c E A nL cells slots Q tgt lv st σ) (kf : ¬ (y ≤ x) → zV p l e R s m args below meth c E A nL cells slots Q (pc + 3) lv st σ) : zV p l e R s m args below meth c E A nL cells slots Q pc lv (za_I y :: za_I x :: st) σ := by
  intro H locs ls ho hs hP hS hl
  exact lv_icmp_ge G.1 G.2.1 hd ht (fun q => kt q H locs ls ho (List.forall_mem_cons.mp (List.forall_mem_cons.mp hs).2).2 hP hS hl) (fun q => kf q H locs ls ho (List.forall_mem_cons.mp (List.forall_mem_cons.mp hs).2).2 hP hS hl)
theorem zv_icmp_gt (G : zC p s m args meth c cc own nL E A) {x y : Int32} {off : Int} {tgt : Nat} (hd : decode cc pc = .ok (.if_icmp .gt off, 3)) (ht : (pc : Int) + off = (tgt : Int)) (kt : y < x → zV p l e R s m args below meth c E A nL cells slots Q tgt lv st σ) (kf : ¬ (y < x) → zV p l e R s m args below meth c E A nL cells slots Q (pc + 3) lv st σ) : zV p l e R s m args below meth c E A nL cells slots Q pc lv (za_I y :: za_I x :: st) σ := by
  intro H locs ls ho hs hP hS hl
  exact lv_icmp_gt G.1 G.2.1 hd ht (fun q => kt q H locs ls ho (List.forall_mem_cons.mp (List.forall_mem_cons.mp hs).2).2 hP hS hl) (fun q => kf q H locs ls ho (List.forall_mem_cons.mp (List.forall_mem_cons.mp hs).2).2 hP hS hl)
theorem zv_icmp_le (G : zC p s m args meth c cc own nL E A) {x y : Int32} {off : Int} {tgt : Nat} (hd : decode cc pc = .ok (.if_icmp .le off, 3)) (ht : (pc : Int) + off = (tgt : Int)) (kt : x ≤ y → zV p l e R s m args below meth c E A nL cells slots Q tgt lv st σ) (kf : ¬ (x ≤ y) → zV p l e R s m args below meth c E A nL cells slots Q (pc + 3) lv st σ) : zV p l e R s m args below meth c E A nL cells slots Q pc lv (za_I y :: za_I x :: st) σ := by
  intro H locs ls ho hs hP hS hl
  exact lv_icmp_le G.1 G.2.1 hd ht (fun q => kt q H locs ls ho (List.forall_mem_cons.mp (List.forall_mem_cons.mp hs).2).2 hP hS hl) (fun q => kf q H locs ls ho (List.forall_mem_cons.mp (List.forall_mem_cons.mp hs).2).2 hP hS hl)
theorem zv_goto (G : zC p s m args meth c cc own nL E A) {off : Int} {tgt : Nat} (hd : decode cc pc = .ok (.goto off, 3)) (ht : (pc : Int) + off = (tgt : Int)) (k : zV p l e R s m args below meth c E A nL cells slots Q tgt lv st σ) : zV p l e R s m args below meth c E A nL cells slots Q pc lv st σ := by
  intro H locs ls ho hs hP hS hl
  exact lv_goto G.1 G.2.1 hd ht (k H locs ls ho hs hP hS hl)
theorem zv_tabIn (G : zC p s m args meth c cc own nL E A) {dflt lo hi : Int} {offs : Array Int} {len : Nat} {x : Int32} {off : Int} {tgt : Nat} (hd : decode cc pc = .ok (.tableswitch dflt lo hi offs, len)) (h1 : ¬ x.toInt < lo) (h2 : ¬ hi < x.toInt) (h3 : offs[(x.toInt - lo).toNat]? = some off) (ht : (pc : Int) + off = (tgt : Int)) (k : zV p l e R s m args below meth c E A nL cells slots Q tgt lv st σ) : zV p l e R s m args below meth c E A nL cells slots Q pc lv (za_I x :: st) σ := by
  intro H locs ls ho hs hP hS hl
  exact lv_tableIn G.1 G.2.1 hd h1 h2 h3 ht (k H locs ls ho (List.forall_mem_cons.mp hs).2 hP hS hl)
theorem zv_tabOut (G : zC p s m args meth c cc own nL E A) {dflt lo hi : Int} {offs : Array Int} {len : Nat} {x : Int32} {tgt : Nat} (hd : decode cc pc = .ok (.tableswitch dflt lo hi offs, len)) (h : x.toInt < lo ∨ hi < x.toInt) (ht : (pc : Int) + dflt = (tgt : Int)) (k : zV p l e R s m args below meth c E A nL cells slots Q tgt lv st σ) : zV p l e R s m args below meth c E A nL cells slots Q pc lv (za_I x :: st) σ := by
  intro H locs ls ho hs hP hS hl
  exact lv_tableOut G.1 G.2.1 hd h ht (k H locs ls ho (List.forall_mem_cons.mp hs).2 hP hS hl)
theorem zv_look (G : zC p s m args meth c cc own nL E A) {dflt : Int} {ps : Array (Int × Int)} {len : Nat} {x : Int32} {off : Int} {tgt : Nat} (hd : decode cc pc = .ok (.lookupswitch dflt ps, len)) (hp : (ps.toList.zip (ps.toList.drop 1)).all (fun (a, next) => a.1 < next.1) = true) (h3 : Op.lookupswitch.offset ps.toList dflt x.toInt = off) (ht : (pc : Int) + off = (tgt : Int)) (k : zV p l e R s m args below meth c E A nL cells slots Q tgt lv st σ) : zV p l e R s m args below meth c E A nL cells slots Q pc lv (za_I x :: st) σ := by
  intro H locs ls ho hs hP hS hl
  exact lv_lookup G.1 G.2.1 hd hp h3 ht (k H locs ls ho (List.forall_mem_cons.mp hs).2 hP hS hl)
theorem zv_sub (ks : List Nat) (h9 : ks.filterMap (fun k => lv[k]?) = lv') (k : zV p l e R s m args below meth c E A nL cells slots Q pc lv' st σ) : zV p l e R s m args below meth c E A nL cells slots Q pc lv st σ := by
  intro H locs ls ho hs hP hS hl
  refine k H locs ls (fun q hq => ?_) hs hP hS ⟨hl.1, hl.2.1, fun q hq => ?_⟩
  · rw [← h9] at hq
    obtain ⟨j, -, hj⟩ := List.mem_filterMap.mp hq
    exact ho q (List.mem_of_getElem? hj)
  · rw [← h9] at hq
    obtain ⟨u, hu, rfl⟩ := List.mem_map.mp hq
    obtain ⟨j, -, hj⟩ := List.mem_filterMap.mp hu
    exact hl.2.2 _ (List.mem_map.mpr ⟨u, List.mem_of_getElem? hj, rfl⟩)
theorem zv_get (G : zC p s m args meth c cc own nL E A) {kd w ci N fi idx : Nat} {fs : List Value} {C : String} {T : u_T} (hk : kd < 50) (he : za_e E (σ.1 w) (σ.2 w) kd w = .inr (ci, fs)) (hc : vwCl[ci]? = some (C, T, N)) (hin : ∀ x ∈ u_ws C T N, x ∈ zWW) (hfi : fi < N) (hlink : Cond.fieldLink own idx (T fi).1 (T fi).2.1 (T fi).2.2.1 ∈ zWW) {v : za_V} (hv : fs[fi]? = some (za_c E v)) (hok : za_kd w = kd → za_ok v) (hd : decode cc pc = .ok (.getfield idx, 3)) (k : zV p l e R s m args below meth c E A nL cells slots Q (pc + 3) lv (v :: st) σ) : zV p l e R s m args below meth c E A nL cells slots Q pc lv (za_O kd w :: st) σ := by
  intro H locs ls ho hs hP hS hl
  have hw := (List.forall_mem_cons.mp hs).1
  have hw1 : za_kd w = kd := za_okO hk hw
  have hc9 : za_c E (za_O kd w) = .ref (E.1 + w) := za_cO hk
  have hat := za_w_at (E := E) (σ := σ) (za_kd_lt hw1 (by omega))
  rw [hw1, he] at hat
  rw [List.map_cons, hc9]
  exact va_get (D := E.2.1) G.1 G.2.1 G.2.2.2.2.1 hin G.2.2.2.1 G.2.2.2.2.2.1.1 hP w hat hc fi hfi (G.2.2.2.2.1 _ hlink) (fun _ h9 => h9) hv hd (k H locs ls ho (za_fm (hok hw1) (List.forall_mem_cons.mp hs).2) hP hS hl)
theorem zv_getN (G : zC p s m args meth c cc own nL E A) {kd w ci N fi idx : Nat} {fs : List Value} {C host : String} {T : u_T} (hk : kd < 50) (he : za_e E (σ.1 w) (σ.2 w) kd w = .inr (ci, fs)) (hc : vwCl[ci]? = some (C, T, N)) (hin : ∀ x ∈ u_ws C T N, x ∈ zWW) (hfi : fi < N) (hlink : Cond.fieldLinkNest own idx (T fi).1 (T fi).2.1 (T fi).2.2.1 host ∈ zNN) {v : za_V} (hv : fs[fi]? = some (za_c E v)) (hok : za_kd w = kd → za_ok v) (hd : decode cc pc = .ok (.getfield idx, 3)) (k : zV p l e R s m args below meth c E A nL cells slots Q (pc + 3) lv (v :: st) σ) : zV p l e R s m args below meth c E A nL cells slots Q pc lv (za_O kd w :: st) σ := by
  intro H locs ls ho hs hP hS hl
  have hw := (List.forall_mem_cons.mp hs).1
  have hw1 : za_kd w = kd := za_okO hk hw
  have hc9 : za_c E (za_O kd w) = .ref (E.1 + w) := za_cO hk
  have hat := za_w_at (E := E) (σ := σ) (za_kd_lt hw1 (by omega))
  rw [hw1, he] at hat
  rw [List.map_cons, hc9]
  exact va_getN (D := E.2.1) G.1 G.2.1 G.2.2.2.2.1 hin G.2.2.2.1 G.2.2.2.2.2.1.1 hP w hat hc fi hfi ((G.2.2.2.2.2.1.2.1 _ hlink).use rfl) (fun _ h9 => h9) hv hd (k H locs ls ho (za_fm (hok hw1) (List.forall_mem_cons.mp hs).2) hP hS hl)
theorem zv_put (G : zC p s m args meth c cc own nL E A) {kd w ci N fi idx : Nat} {fs : List Value} {C host : String} {T : u_T} {ty : FieldType} {x : Int32} (ty0 : Nat → FieldType) (hty : ∀ k, k < N → parseFieldDescriptor (T k).2.2.1 = some (ty0 k)) (hnm : ∀ a, a < N → ∀ b, b < N → a ≠ b → (T a).2.1 ≠ (T b).2.1) (hk : kd < 50) (he : za_e E (σ.1 w) (σ.2 w) kd w = .inr (ci, fs)) (he2 : za_e E (upd (σ.1 w) fi x) (σ.2 w) kd w = .inr (ci, fs.set fi (.int x))) (hc : vwCl[ci]? = some (C, T, N)) (hin : ∀ x ∈ u_ws C T N, x ∈ zWW) (hfi : fi < N) (hlink : Cond.fieldLink own idx (T fi).1 (T fi).2.1 (T fi).2.2.1 ∈ zWW) (hfin : (T fi).2.2.2 = false) (hdty : parseFieldDescriptor (T fi).2.2.1 = some ty) (hn : narrow ty (.int x) = .int x) (hfit : fits ty (.int x) = true) (hlen : fi < fs.length) (hd : decode cc pc = .ok (.putfield idx, 3)) (k : zV p l e R s m args below meth c E A nL cells slots Q (pc + 3) lv st (za_si σ w fi x)) : zV p l e R s m args below meth c E A nL cells slots Q pc lv (za_I x :: za_O kd w :: st) σ := by
  intro H locs ls ho hs hP hS hl
  have hw := (List.forall_mem_cons.mp (List.forall_mem_cons.mp hs).2).1
  have hw1 : za_kd w = kd := za_okO hk hw
  have hc9 : za_c E (za_O kd w) = .ref (E.1 + w) := za_cO hk
  have hat := za_w_at (E := E) (σ := σ) (za_kd_lt hw1 (by omega))
  rw [hw1, he] at hat
  rw [List.map_cons, List.map_cons, hc9]
  refine va_put (D := E.2.1) G.1 G.2.1 G.2.2.2.2.1 hin ty0 hty hnm G.2.2.2.1 G.2.2.2.2.2.1.1 hP (za_D G.2.2.2.2.2.2.1) hS w hat hc fi hfi (G.2.2.2.2.1 _ hlink) (fun _ h9 => h9) hfin hdty hn hfit hlen hd (fun H1 locs1 hP1 _ hS1 => ?_)
  rw [za_w_set (σ' := za_si σ w fi x) za_si_off (by rw [hw1, za_si_w]; exact he2)] at hP1
  exact k H1 locs1 ls ho (List.forall_mem_cons.mp (List.forall_mem_cons.mp hs).2).2 hP1 hS1 hl
theorem zv_putN (G : zC p s m args meth c cc own nL E A) {kd w ci N fi idx : Nat} {fs : List Value} {C host : String} {T : u_T} {ty : FieldType} {x : Int32} (ty0 : Nat → FieldType) (hty : ∀ k, k < N → parseFieldDescriptor (T k).2.2.1 = some (ty0 k)) (hnm : ∀ a, a < N → ∀ b, b < N → a ≠ b → (T a).2.1 ≠ (T b).2.1) (hk : kd < 50) (he : za_e E (σ.1 w) (σ.2 w) kd w = .inr (ci, fs)) (he2 : za_e E (upd (σ.1 w) fi x) (σ.2 w) kd w = .inr (ci, fs.set fi (.int x))) (hc : vwCl[ci]? = some (C, T, N)) (hin : ∀ x ∈ u_ws C T N, x ∈ zWW) (hfi : fi < N) (hlink : Cond.fieldLinkNest own idx (T fi).1 (T fi).2.1 (T fi).2.2.1 host ∈ zNN) (hfin : (T fi).2.2.2 = false) (hdty : parseFieldDescriptor (T fi).2.2.1 = some ty) (hn : narrow ty (.int x) = .int x) (hfit : fits ty (.int x) = true) (hlen : fi < fs.length) (hd : decode cc pc = .ok (.putfield idx, 3)) (k : zV p l e R s m args below meth c E A nL cells slots Q (pc + 3) lv st (za_si σ w fi x)) : zV p l e R s m args below meth c E A nL cells slots Q pc lv (za_I x :: za_O kd w :: st) σ := by
  intro H locs ls ho hs hP hS hl
  have hw := (List.forall_mem_cons.mp (List.forall_mem_cons.mp hs).2).1
  have hw1 : za_kd w = kd := za_okO hk hw
  have hc9 : za_c E (za_O kd w) = .ref (E.1 + w) := za_cO hk
  have hat := za_w_at (E := E) (σ := σ) (za_kd_lt hw1 (by omega))
  rw [hw1, he] at hat
  rw [List.map_cons, List.map_cons, hc9]
  refine va_putN (D := E.2.1) G.1 G.2.1 G.2.2.2.2.1 hin ty0 hty hnm G.2.2.2.1 G.2.2.2.2.2.1.1 hP (za_D G.2.2.2.2.2.2.1) hS w hat hc fi hfi ((G.2.2.2.2.2.1.2.1 _ hlink).use rfl) (fun _ h9 => h9) hfin hdty hn hfit hlen hd (fun H1 locs1 hP1 _ hS1 => ?_)
  rw [za_w_set (σ' := za_si σ w fi x) za_si_off (by rw [hw1, za_si_w]; exact he2)] at hP1
  exact k H1 locs1 ls ho (List.forall_mem_cons.mp (List.forall_mem_cons.mp hs).2).2 hP1 hS1 hl
theorem zv_iald (G : zC p s m args meth c cc own nL E A) {kd w n : Nat} {i : Int32} (hk : kd < 50) (he : za_e E (σ.1 w) (σ.2 w) kd w = .inl (E.2.2.1 0, n, .inl (σ.1 w))) (hi : vp_in i n) (hd : decode cc pc = .ok (.iaload, 1)) (k : zV p l e R s m args below meth c E A nL cells slots Q (pc + 1) lv (za_I (σ.1 w i.toNatClampNeg) :: st) σ) : zV p l e R s m args below meth c E A nL cells slots Q pc lv (za_I i :: za_O kd w :: st) σ := by
  intro H locs ls ho hs hP hS hl
  have hw := (List.forall_mem_cons.mp (List.forall_mem_cons.mp hs).2).1
  have hw1 : za_kd w = kd := za_okO hk hw
  have hc9 : za_c E (za_O kd w) = .ref (E.1 + w) := za_cO hk
  have hat := za_w_at (E := E) (σ := σ) (za_kd_lt hw1 (by omega))
  rw [hw1, he] at hat
  rw [List.map_cons, List.map_cons, hc9]
  exact va_iald (D := E.2.1) G.1 G.2.1 G.2.2.2.2.2.1.1 hP w 0 hat rfl hi hd (k H locs ls ho (za_fm (za_okI _) (List.forall_mem_cons.mp (List.forall_mem_cons.mp hs).2).2) hP hS hl)
theorem zv_cald (G : zC p s m args meth c cc own nL E A) {kd w n : Nat} {i : Int32} (hk : kd < 50) (he : za_e E (σ.1 w) (σ.2 w) kd w = .inl (E.2.2.1 1, n, .inl (σ.1 w))) (hi : vp_in i n) (hd : decode cc pc = .ok (.caload, 1)) (k : zV p l e R s m args below meth c E A nL cells slots Q (pc + 1) lv (za_I (σ.1 w i.toNatClampNeg) :: st) σ) : zV p l e R s m args below meth c E A nL cells slots Q pc lv (za_I i :: za_O kd w :: st) σ := by
  intro H locs ls ho hs hP hS hl
  have hw := (List.forall_mem_cons.mp (List.forall_mem_cons.mp hs).2).1
  have hw1 : za_kd w = kd := za_okO hk hw
  have hc9 : za_c E (za_O kd w) = .ref (E.1 + w) := za_cO hk
  have hat := za_w_at (E := E) (σ := σ) (za_kd_lt hw1 (by omega))
  rw [hw1, he] at hat
  rw [List.map_cons, List.map_cons, hc9]
  exact va_cald (D := E.2.1) G.1 G.2.1 G.2.2.2.2.2.1.1 hP w 1 hat rfl hi hd (k H locs ls ho (za_fm (za_okI _) (List.forall_mem_cons.mp (List.forall_mem_cons.mp hs).2).2) hP hS hl)
theorem zv_zald (G : zC p s m args meth c cc own nL E A) {kd w n : Nat} {i : Int32} (hk : kd < 50) (he : za_e E (σ.1 w) (σ.2 w) kd w = .inl (E.2.2.1 3, n, .inl (σ.1 w))) (hi : vp_in i n) (hd : decode cc pc = .ok (.baload, 1)) (k : zV p l e R s m args below meth c E A nL cells slots Q (pc + 1) lv (za_I (σ.1 w i.toNatClampNeg) :: st) σ) : zV p l e R s m args below meth c E A nL cells slots Q pc lv (za_I i :: za_O kd w :: st) σ := by
  intro H locs ls ho hs hP hS hl
  have hw := (List.forall_mem_cons.mp (List.forall_mem_cons.mp hs).2).1
  have hw1 : za_kd w = kd := za_okO hk hw
  have hc9 : za_c E (za_O kd w) = .ref (E.1 + w) := za_cO hk
  have hat := za_w_at (E := E) (σ := σ) (za_kd_lt hw1 (by omega))
  rw [hw1, he] at hat
  rw [List.map_cons, List.map_cons, hc9]
  exact va_zald (D := E.2.1) G.1 G.2.1 G.2.2.2.2.2.1.1 hP w 3 hat rfl hi hd (k H locs ls ho (za_fm (za_okI _) (List.forall_mem_cons.mp (List.forall_mem_cons.mp hs).2).2) hP hS hl)
theorem zv_lald (G : zC p s m args meth c cc own nL E A) {kd w n : Nat} {i : Int32} (hk : kd < 50) (he : za_e E (σ.1 w) (σ.2 w) kd w = .inl (E.2.2.1 2, n, .inr (.inl (σ.2 w)))) (hi : vp_in i n) (hd : decode cc pc = .ok (.laload, 1)) (k : zV p l e R s m args below meth c E A nL cells slots Q (pc + 1) lv (za_L (σ.2 w i.toNatClampNeg) :: st) σ) : zV p l e R s m args below meth c E A nL cells slots Q pc lv (za_I i :: za_O kd w :: st) σ := by
  intro H locs ls ho hs hP hS hl
  have hw := (List.forall_mem_cons.mp (List.forall_mem_cons.mp hs).2).1
  have hw1 : za_kd w = kd := za_okO hk hw
  have hc9 : za_c E (za_O kd w) = .ref (E.1 + w) := za_cO hk
  have hat := za_w_at (E := E) (σ := σ) (za_kd_lt hw1 (by omega))
  rw [hw1, he] at hat
  rw [List.map_cons, List.map_cons, hc9]
  exact va_lald (D := E.2.1) G.1 G.2.1 G.2.2.2.2.2.1.1 hP w 2 hat rfl hi hd (k H locs ls ho (za_fm (za_okL _) (List.forall_mem_cons.mp (List.forall_mem_cons.mp hs).2).2) hP hS hl)
theorem zv_iast (G : zC p s m args meth c cc own nL E A) {kd w n : Nat} {i x : Int32} (hk : kd < 50) (he : za_e E (σ.1 w) (σ.2 w) kd w = .inl (E.2.2.1 0, n, .inl (σ.1 w))) (he2 : ∀ y, za_e E (upd (σ.1 w) i.toNatClampNeg y) (σ.2 w) kd w = .inl (E.2.2.1 0, n, .inl (upd (σ.1 w) i.toNatClampNeg y))) (hi : vp_in i n) (hd : decode cc pc = .ok (.iastore, 1)) (k : zV p l e R s m args below meth c E A nL cells slots Q (pc + 1) lv st (za_si σ w i.toNatClampNeg x)) : zV p l e R s m args below meth c E A nL cells slots Q pc lv (za_I x :: za_I i :: za_O kd w :: st) σ := by
  intro H locs ls ho hs hP hS hl
  have hw := (List.forall_mem_cons.mp (List.forall_mem_cons.mp (List.forall_mem_cons.mp hs).2).2).1
  have hw1 : za_kd w = kd := za_okO hk hw
  have hc9 : za_c E (za_O kd w) = .ref (E.1 + w) := za_cO hk
  have hat := za_w_at (E := E) (σ := σ) (za_kd_lt hw1 (by omega))
  rw [hw1, he] at hat
  rw [List.map_cons, List.map_cons, List.map_cons, hc9]
  refine va_iast (D := E.2.1) G.1 G.2.1 G.2.2.2.2.2.1.1 hP (za_D G.2.2.2.2.2.2.1) hS w 0 hat rfl hi hd (fun H1 locs1 hP1 _ hS1 => ?_)
  rw [za_w_set (σ' := za_si σ w i.toNatClampNeg x) za_si_off (by rw [hw1, za_si_w]; exact he2 _)] at hP1
  exact k H1 locs1 ls ho (List.forall_mem_cons.mp (List.forall_mem_cons.mp (List.forall_mem_cons.mp hs).2).2).2 hP1 hS1 hl
theorem zv_cast (G : zC p s m args meth c cc own nL E A) {kd w n : Nat} {i x : Int32} (hk : kd < 50) (he : za_e E (σ.1 w) (σ.2 w) kd w = .inl (E.2.2.1 1, n, .inl (σ.1 w))) (he2 : ∀ y, za_e E (upd (σ.1 w) i.toNatClampNeg y) (σ.2 w) kd w = .inl (E.2.2.1 1, n, .inl (upd (σ.1 w) i.toNatClampNeg y))) (hi : vp_in i n) (hd : decode cc pc = .ok (.castore, 1)) (k : zV p l e R s m args below meth c E A nL cells slots Q (pc + 1) lv st (za_si σ w i.toNatClampNeg (vp_nar .char x))) : zV p l e R s m args below meth c E A nL cells slots Q pc lv (za_I x :: za_I i :: za_O kd w :: st) σ := by
  intro H locs ls ho hs hP hS hl
  have hw := (List.forall_mem_cons.mp (List.forall_mem_cons.mp (List.forall_mem_cons.mp hs).2).2).1
  have hw1 : za_kd w = kd := za_okO hk hw
  have hc9 : za_c E (za_O kd w) = .ref (E.1 + w) := za_cO hk
  have hat := za_w_at (E := E) (σ := σ) (za_kd_lt hw1 (by omega))
  rw [hw1, he] at hat
  rw [List.map_cons, List.map_cons, List.map_cons, hc9]
  refine va_cast (D := E.2.1) G.1 G.2.1 G.2.2.2.2.2.1.1 hP (za_D G.2.2.2.2.2.2.1) hS w 1 hat rfl hi hd (fun H1 locs1 hP1 _ hS1 => ?_)
  rw [za_w_set (σ' := za_si σ w i.toNatClampNeg (vp_nar .char x)) za_si_off (by rw [hw1, za_si_w]; exact he2 _)] at hP1
  exact k H1 locs1 ls ho (List.forall_mem_cons.mp (List.forall_mem_cons.mp (List.forall_mem_cons.mp hs).2).2).2 hP1 hS1 hl
theorem zv_zast (G : zC p s m args meth c cc own nL E A) {kd w n : Nat} {i x : Int32} (hk : kd < 50) (he : za_e E (σ.1 w) (σ.2 w) kd w = .inl (E.2.2.1 3, n, .inl (σ.1 w))) (he2 : ∀ y, za_e E (upd (σ.1 w) i.toNatClampNeg y) (σ.2 w) kd w = .inl (E.2.2.1 3, n, .inl (upd (σ.1 w) i.toNatClampNeg y))) (hi : vp_in i n) (hd : decode cc pc = .ok (.bastore, 1)) (k : zV p l e R s m args below meth c E A nL cells slots Q (pc + 1) lv st (za_si σ w i.toNatClampNeg (vp_nar .boolean x))) : zV p l e R s m args below meth c E A nL cells slots Q pc lv (za_I x :: za_I i :: za_O kd w :: st) σ := by
  intro H locs ls ho hs hP hS hl
  have hw := (List.forall_mem_cons.mp (List.forall_mem_cons.mp (List.forall_mem_cons.mp hs).2).2).1
  have hw1 : za_kd w = kd := za_okO hk hw
  have hc9 : za_c E (za_O kd w) = .ref (E.1 + w) := za_cO hk
  have hat := za_w_at (E := E) (σ := σ) (za_kd_lt hw1 (by omega))
  rw [hw1, he] at hat
  rw [List.map_cons, List.map_cons, List.map_cons, hc9]
  refine va_zast (D := E.2.1) G.1 G.2.1 G.2.2.2.2.2.1.1 hP (za_D G.2.2.2.2.2.2.1) hS w 3 hat rfl hi hd (fun H1 locs1 hP1 _ hS1 => ?_)
  rw [za_w_set (σ' := za_si σ w i.toNatClampNeg (vp_nar .boolean x)) za_si_off (by rw [hw1, za_si_w]; exact he2 _)] at hP1
  exact k H1 locs1 ls ho (List.forall_mem_cons.mp (List.forall_mem_cons.mp (List.forall_mem_cons.mp hs).2).2).2 hP1 hS1 hl
theorem za_sl_w (σ : za_S) (w j : Nat) (x : Int64) : (za_sl σ w j x).2 w = vp_updL (σ.2 w) j x := if_pos rfl
theorem zv_last (G : zC p s m args meth c cc own nL E A) {kd w n : Nat} {i : Int32} {x : Int64} (hk : kd < 50) (he : za_e E (σ.1 w) (σ.2 w) kd w = .inl (E.2.2.1 2, n, .inr (.inl (σ.2 w)))) (he2 : ∀ y, za_e E (σ.1 w) (vp_updL (σ.2 w) i.toNatClampNeg y) kd w = .inl (E.2.2.1 2, n, .inr (.inl (vp_updL (σ.2 w) i.toNatClampNeg y)))) (hi : vp_in i n) (hd : decode cc pc = .ok (.lastore, 1)) (k : zV p l e R s m args below meth c E A nL cells slots Q (pc + 1) lv st (za_sl σ w i.toNatClampNeg x)) : zV p l e R s m args below meth c E A nL cells slots Q pc lv (za_L x :: za_I i :: za_O kd w :: st) σ := by
  intro H locs ls ho hs hP hS hl
  have hw := (List.forall_mem_cons.mp (List.forall_mem_cons.mp (List.forall_mem_cons.mp hs).2).2).1
  have hw1 : za_kd w = kd := za_okO hk hw
  have hc9 : za_c E (za_O kd w) = .ref (E.1 + w) := za_cO hk
  have hat := za_w_at (E := E) (σ := σ) (za_kd_lt hw1 (by omega))
  rw [hw1, he] at hat
  rw [List.map_cons, List.map_cons, List.map_cons, hc9]
  refine va_last (D := E.2.1) G.1 G.2.1 G.2.2.2.2.2.1.1 hP (za_D G.2.2.2.2.2.2.1) hS w 2 hat rfl hi hd (fun H1 locs1 hP1 _ hS1 => ?_)
  rw [za_w_set (σ' := za_sl σ w i.toNatClampNeg x) za_sl_off (by rw [hw1, za_sl_w]; exact he2 _)] at hP1
  exact k H1 locs1 ls ho (List.forall_mem_cons.mp (List.forall_mem_cons.mp (List.forall_mem_cons.mp hs).2).2).2 hP1 hS1 hl
theorem zv_alen (G : zC p s m args meth c cc own nL E A) {kd w t0 : Nat} {x : vp_A} {v : Int32} {cA : ClassId} {ty : FieldType} (hk : kd < 50) (he : za_e E (σ.1 w) (σ.2 w) kd w = .inl (cA, x)) (ht : (za_tys E)[t0]? = some (cA, ty)) (hv : Int32.ofNat x.1 = v) (hd : decode cc pc = .ok (.arraylength, 1)) (k : zV p l e R s m args below meth c E A nL cells slots Q (pc + 1) lv (za_I v :: st) σ) : zV p l e R s m args below meth c E A nL cells slots Q pc lv (za_O kd w :: st) σ := by
  intro H locs ls ho hs hP hS hl
  have hw := (List.forall_mem_cons.mp hs).1
  have hw1 : za_kd w = kd := za_okO hk hw
  have hc9 : za_c E (za_O kd w) = .ref (E.1 + w) := za_cO hk
  have hat := za_w_at (E := E) (σ := σ) (za_kd_lt hw1 (by omega))
  rw [hw1, he] at hat
  rw [List.map_cons, hc9]
  exact va_alen (D := E.2.1) G.1 G.2.1 G.2.2.2.2.2.1.1 hP w t0 hat ht hv hd (k H locs ls ho (za_fm (za_okI _) (List.forall_mem_cons.mp hs).2) hP hS hl)
theorem zv_aald (G : zC p s m args meth c cc own nL E A) {kd w n b r kd2 : Nat} {i : Int32} (hk : kd < 50) (hk2 : kd2 < 50) (he : za_e E (σ.1 w) (σ.2 w) kd w = .inl (E.2.2.1 4, n, .inr (.inr (.inr (.inr (fun i => some (E.1 + (b + r * i)))))))) (hi : vp_in i n) (hok : ∀ j, j < n → za_kd (b + r * j) = kd2) (hd : decode cc pc = .ok (.aaload, 1)) (k : zV p l e R s m args below meth c E A nL cells slots Q (pc + 1) lv (za_O kd2 (b + r * i.toNatClampNeg) :: st) σ) : zV p l e R s m args below meth c E A nL cells slots Q pc lv (za_I i :: za_O kd w :: st) σ := by
  intro H locs ls ho hs hP hS hl
  have hw := (List.forall_mem_cons.mp (List.forall_mem_cons.mp hs).2).1
  have hw1 : za_kd w = kd := za_okO hk hw
  have hc9 : za_c E (za_O kd w) = .ref (E.1 + w) := za_cO hk
  have hat := za_w_at (E := E) (σ := σ) (za_kd_lt hw1 (by omega))
  rw [hw1, he] at hat
  rw [List.map_cons, List.map_cons, hc9]
  have hj : i.toNatClampNeg < n := Nat.not_le.mp fun q => hi (Or.inr q)
  have hok1 : za_ok (za_O kd2 (b + r * i.toNatClampNeg)) := za_okM hk2 (hok _ hj)
  have h9 := k H locs ls ho (za_fm hok1 (List.forall_mem_cons.mp (List.forall_mem_cons.mp hs).2).2) hP hS hl
  rw [List.map_cons, za_cO hk2] at h9
  exact va_aldq (D := E.2.1) G.1 G.2.1 G.2.2.2.2.2.1.1 hP w 4 hat rfl hi hd h9
theorem zv_mmax (G : zC p s m args meth c cc own nL E A) {x y : Int32} {idx : Nat} (hlink : Cond.methodLink own idx Lib.Math.max.name ∈ zWW) (hstat : Cond.static Lib.Math.max.name ∈ zWW) (hini : Cond.initialized "java/lang/Math" ∈ zWW) (hcode : Cond.code Lib.Math.max.name Lib.Math.max.code 2 (some .int) ∈ zWW) (hfr : 1 ≤ R.frames) (hlo : (st.map za_cat).sum + 13 ≤ R.locals) (hc : cells ≤ R.cells) (hsl : slots ≤ R.slots) (hd : decode cc pc = .ok (.invokestatic idx, 3)) (k : zV p l e R s m args below meth c E A nL cells slots Q (pc + 3) lv (za_I (if x < y then y else x) :: st) σ) : zV p l e R s m args below meth c E A nL cells slots Q pc lv (za_I y :: za_I x :: st) σ := by
  intro H locs ls ho hs hP hS hl
  exact va_mmax G.1 G.2.1 (G.2.2.1.trans hl.1.symm) G.2.2.2.1 (G.2.2.2.2.1 _ hlink) (G.2.2.2.2.1 _ hstat) (G.2.2.2.2.1 _ hini) (G.2.2.2.2.1 _ hcode) hfr (by rw [List.map_map, show ((fun v : Value => v.category) ∘ za_c E) = za_cat from funext (za_c_cat E)]; exact hlo) hc hsl hd (k H locs ls ho (za_fm (za_okI _) (List.forall_mem_cons.mp (List.forall_mem_cons.mp hs).2).2) hP hS hl)
theorem zv_mmin (G : zC p s m args meth c cc own nL E A) {x y : Int32} {idx : Nat} (hlink : Cond.methodLink own idx Lib.Math.min.name ∈ zWW) (hstat : Cond.static Lib.Math.min.name ∈ zWW) (hini : Cond.initialized "java/lang/Math" ∈ zWW) (hcode : Cond.code Lib.Math.min.name Lib.Math.min.code 2 (some .int) ∈ zWW) (hfr : 1 ≤ R.frames) (hlo : (st.map za_cat).sum + 13 ≤ R.locals) (hc : cells ≤ R.cells) (hsl : slots ≤ R.slots) (hd : decode cc pc = .ok (.invokestatic idx, 3)) (k : zV p l e R s m args below meth c E A nL cells slots Q (pc + 3) lv (za_I (if y < x then y else x) :: st) σ) : zV p l e R s m args below meth c E A nL cells slots Q pc lv (za_I y :: za_I x :: st) σ := by
  intro H locs ls ho hs hP hS hl
  exact va_mmin G.1 G.2.1 (G.2.2.1.trans hl.1.symm) G.2.2.2.1 (G.2.2.2.2.1 _ hlink) (G.2.2.2.2.1 _ hstat) (G.2.2.2.2.1 _ hini) (G.2.2.2.2.1 _ hcode) hfr (by rw [List.map_map, show ((fun v : Value => v.category) ∘ za_c E) = za_cat from funext (za_c_cat E)]; exact hlo) hc hsl hd (k H locs ls ho (za_fm (za_okI _) (List.forall_mem_cons.mp (List.forall_mem_cons.mp hs).2).2) hP hS hl)
end ZV
