/-! ===== what the class's methods leave: all of the reference's cells, the text's length, how many rumours, which kept ones are filled ===== -/
def zc (σ σ' : za_S) : Prop := (∀ w, 93 ≤ w → σ'.1 w = σ.1 w ∧ σ'.2 w = σ.2 w) ∧ σ'.1 79 1 = σ.1 79 1 ∧ σ'.1 83 1 = σ.1 83 1 ∧ σ'.1 69 3 = σ.1 69 3 ∧ σ'.1 74 3 = σ.1 74 3
theorem zc_r (σ : za_S) : zc σ σ := ⟨fun _ _ => ⟨rfl, rfl⟩, rfl, rfl, rfl, rfl⟩
theorem zc_t {a b d : za_S} (h : zc a b) (k : zc b d) : zc a d := ⟨fun w hw => ⟨((k.1 w hw).1).trans (h.1 w hw).1, ((k.1 w hw).2).trans (h.1 w hw).2⟩, k.2.1.trans h.2.1, k.2.2.1.trans h.2.2.1, k.2.2.2.1.trans h.2.2.2.1, k.2.2.2.2.trans h.2.2.2.2⟩
theorem zc_si {σ : za_S} {w j : Nat} {x : Int32} (h : w < 93) (h1 : w ≠ 79 ∨ j ≠ 1) (h2 : w ≠ 83 ∨ j ≠ 1) (h3 : (w ≠ 69 ∧ w ≠ 74) ∨ j ≠ 3) : zc σ (za_si σ w j x) := by
  refine ⟨fun w' hw' => ⟨if_neg (by omega), rfl⟩, za_si_ne σ x (by omega), za_si_ne σ x (by omega), za_si_ne σ x (by omega), za_si_ne σ x (by omega)⟩
theorem zc_sl {σ : za_S} {w j : Nat} {x : Int64} (h : w < 93) : zc σ (za_sl σ w j x) := ⟨fun w' hw' => ⟨rfl, if_neg (by omega)⟩, rfl, rfl, rfl, rfl⟩
theorem zc_sr {σ : za_S} {w : Nat} {f : Nat → Int32} (h : w < 93) (h1 : w ≠ 79) (h2 : w ≠ 83) (h3 : w ≠ 69) (h4 : w ≠ 74) : zc σ (za_sr σ w f) :=
  ⟨fun w' hw' => ⟨if_neg (by omega), rfl⟩, by rw [za_sr_ne σ f (Ne.symm h1)], by rw [za_sr_ne σ f (Ne.symm h2)], by rw [za_sr_ne σ f (Ne.symm h3)], by rw [za_sr_ne σ f (Ne.symm h4)]⟩
theorem zkw_2 {w : Nat} (h : za_kd w = 2) : w < 93 ∧ w ≠ 79 ∧ w ≠ 83 ∧ w ≠ 69 ∧ w ≠ 74 := (by decide +kernel : ∀ w, w < 194 → za_kd w = 2 → w < 93 ∧ w ≠ 79 ∧ w ≠ 83 ∧ w ≠ 69 ∧ w ≠ 74) w (za_kd_lt h (by decide)) h
theorem zc_k2 {σ : za_S} {w j : Nat} {x : Int32} (h : za_kd w = 2) : zc σ (za_si σ w j x) := by
  have h9 := zkw_2 h
  exact zc_si (by omega) (by omega) (by omega) (by omega)
theorem zkw_3 {w : Nat} (h : za_kd w = 3) : w < 93 ∧ w ≠ 79 ∧ w ≠ 83 ∧ w ≠ 69 ∧ w ≠ 74 := (by decide +kernel : ∀ w, w < 194 → za_kd w = 3 → w < 93 ∧ w ≠ 79 ∧ w ≠ 83 ∧ w ≠ 69 ∧ w ≠ 74) w (za_kd_lt h (by decide)) h
theorem zc_k3 {σ : za_S} {w j : Nat} {x : Int32} (h : za_kd w = 3) : zc σ (za_si σ w j x) := by
  have h9 := zkw_3 h
  exact zc_si (by omega) (by omega) (by omega) (by omega)
theorem zkw_4 {w : Nat} (h : za_kd w = 4) : w < 93 ∧ w ≠ 79 ∧ w ≠ 83 ∧ w ≠ 69 ∧ w ≠ 74 := (by decide +kernel : ∀ w, w < 194 → za_kd w = 4 → w < 93 ∧ w ≠ 79 ∧ w ≠ 83 ∧ w ≠ 69 ∧ w ≠ 74) w (za_kd_lt h (by decide)) h
theorem zc_k4 {σ : za_S} {w j : Nat} {x : Int32} (h : za_kd w = 4) : zc σ (za_si σ w j x) := by
  have h9 := zkw_4 h
  exact zc_si (by omega) (by omega) (by omega) (by omega)
theorem zkw_8 {w : Nat} (h : za_kd w = 8) : w < 93 ∧ w ≠ 79 ∧ w ≠ 83 ∧ w ≠ 69 ∧ w ≠ 74 := (by decide +kernel : ∀ w, w < 194 → za_kd w = 8 → w < 93 ∧ w ≠ 79 ∧ w ≠ 83 ∧ w ≠ 69 ∧ w ≠ 74) w (za_kd_lt h (by decide)) h
theorem zc_k8 {σ : za_S} {w j : Nat} {x : Int32} (h : za_kd w = 8) : zc σ (za_si σ w j x) := by
  have h9 := zkw_8 h
  exact zc_si (by omega) (by omega) (by omega) (by omega)
theorem zkw_9 {w : Nat} (h : za_kd w = 9) : w < 93 ∧ w ≠ 79 ∧ w ≠ 83 ∧ w ≠ 69 ∧ w ≠ 74 := (by decide +kernel : ∀ w, w < 194 → za_kd w = 9 → w < 93 ∧ w ≠ 79 ∧ w ≠ 83 ∧ w ≠ 69 ∧ w ≠ 74) w (za_kd_lt h (by decide)) h
theorem zc_k9 {σ : za_S} {w j : Nat} {x : Int32} (h : za_kd w = 9) : zc σ (za_si σ w j x) := by
  have h9 := zkw_9 h
  exact zc_si (by omega) (by omega) (by omega) (by omega)
theorem zkw_12 {w : Nat} (h : za_kd w = 12) : w < 93 ∧ w ≠ 79 ∧ w ≠ 83 ∧ w ≠ 69 ∧ w ≠ 74 := (by decide +kernel : ∀ w, w < 194 → za_kd w = 12 → w < 93 ∧ w ≠ 79 ∧ w ≠ 83 ∧ w ≠ 69 ∧ w ≠ 74) w (za_kd_lt h (by decide)) h
theorem zc_k12 {σ : za_S} {w j : Nat} {x : Int32} (h : za_kd w = 12) : zc σ (za_si σ w j x) := by
  have h9 := zkw_12 h
  exact zc_si (by omega) (by omega) (by omega) (by omega)
theorem zkw_14 {w : Nat} (h : za_kd w = 14) : w < 93 ∧ w ≠ 79 ∧ w ≠ 83 ∧ w ≠ 69 ∧ w ≠ 74 := (by decide +kernel : ∀ w, w < 194 → za_kd w = 14 → w < 93 ∧ w ≠ 79 ∧ w ≠ 83 ∧ w ≠ 69 ∧ w ≠ 74) w (za_kd_lt h (by decide)) h
theorem zc_k14 {σ : za_S} {w j : Nat} {x : Int32} (h : za_kd w = 14) : zc σ (za_si σ w j x) := by
  have h9 := zkw_14 h
  exact zc_si (by omega) (by omega) (by omega) (by omega)
theorem zkw_15 {w : Nat} (h : za_kd w = 15) : w < 93 ∧ w ≠ 79 ∧ w ≠ 83 ∧ w ≠ 69 ∧ w ≠ 74 := (by decide +kernel : ∀ w, w < 194 → za_kd w = 15 → w < 93 ∧ w ≠ 79 ∧ w ≠ 83 ∧ w ≠ 69 ∧ w ≠ 74) w (za_kd_lt h (by decide)) h
theorem zc_k15 {σ : za_S} {w j : Nat} {x : Int32} (h : za_kd w = 15) : zc σ (za_si σ w j x) := by
  have h9 := zkw_15 h
  exact zc_si (by omega) (by omega) (by omega) (by omega)
theorem zkw_16 {w : Nat} (h : za_kd w = 16) : w < 93 ∧ w ≠ 79 ∧ w ≠ 83 ∧ w ≠ 69 ∧ w ≠ 74 := (by decide +kernel : ∀ w, w < 194 → za_kd w = 16 → w < 93 ∧ w ≠ 79 ∧ w ≠ 83 ∧ w ≠ 69 ∧ w ≠ 74) w (za_kd_lt h (by decide)) h
theorem zc_k16 {σ : za_S} {w j : Nat} {x : Int32} (h : za_kd w = 16) : zc σ (za_si σ w j x) := by
  have h9 := zkw_16 h
  exact zc_si (by omega) (by omega) (by omega) (by omega)
theorem zkw_17 {w : Nat} (h : za_kd w = 17) : w < 93 ∧ w ≠ 79 ∧ w ≠ 83 ∧ w ≠ 69 ∧ w ≠ 74 := (by decide +kernel : ∀ w, w < 194 → za_kd w = 17 → w < 93 ∧ w ≠ 79 ∧ w ≠ 83 ∧ w ≠ 69 ∧ w ≠ 74) w (za_kd_lt h (by decide)) h
theorem zc_k17 {σ : za_S} {w j : Nat} {x : Int32} (h : za_kd w = 17) : zc σ (za_si σ w j x) := by
  have h9 := zkw_17 h
  exact zc_si (by omega) (by omega) (by omega) (by omega)
theorem zkw_18 {w : Nat} (h : za_kd w = 18) : w < 93 ∧ w ≠ 79 ∧ w ≠ 83 ∧ w ≠ 69 ∧ w ≠ 74 := (by decide +kernel : ∀ w, w < 194 → za_kd w = 18 → w < 93 ∧ w ≠ 79 ∧ w ≠ 83 ∧ w ≠ 69 ∧ w ≠ 74) w (za_kd_lt h (by decide)) h
theorem zc_k18 {σ : za_S} {w j : Nat} {x : Int32} (h : za_kd w = 18) : zc σ (za_si σ w j x) := by
  have h9 := zkw_18 h
  exact zc_si (by omega) (by omega) (by omega) (by omega)
theorem zkw_0 {w : Nat} (h : za_kd w = 0) : w < 93 ∧ w ≠ 79 ∧ w ≠ 83 ∧ w ≠ 69 ∧ w ≠ 74 := (by decide +kernel : ∀ w, w < 194 → za_kd w = 0 → w < 93 ∧ w ≠ 79 ∧ w ≠ 83 ∧ w ≠ 69 ∧ w ≠ 74) w (za_kd_lt h (by decide)) h
theorem zc_k0 {σ : za_S} {w j : Nat} {x : Int32} (h : za_kd w = 0) : zc σ (za_si σ w j x) := by
  have h9 := zkw_0 h
  exact zc_si (by omega) (by omega) (by omega) (by omega)
theorem zkw_1 {w : Nat} (h : za_kd w = 1) : w < 93 ∧ w ≠ 79 ∧ w ≠ 83 := (by decide +kernel : ∀ w, w < 194 → za_kd w = 1 → w < 93 ∧ w ≠ 79 ∧ w ≠ 83) w (za_kd_lt h (by decide)) h
theorem zc_k1 {σ : za_S} {w : Nat} {x : Int32} (h : za_kd w = 1) : zc σ (za_si σ w 2 x) := by
  have h9 := zkw_1 h
  exact zc_si (by omega) (by omega) (by omega) (by omega)
theorem zc_rk3 {σ : za_S} {w : Nat} {f : Nat → Int32} (h : za_kd w = 3) : zc σ (za_sr σ w f) := by
  have h9 := zkw_3 h
  exact zc_sr (by omega) (by omega) (by omega) (by omega) (by omega)
theorem z_nar {r : Int32} (h : r = 0 ∨ r = 1) : narrow .boolean (.int r) = .int r := by
  rcases h with rfl | rfl <;> decide
theorem z_lt (a b : Int32) : a < b ↔ a.toInt < b.toInt := Int32.lt_iff_toInt_lt
theorem z_le (a b : Int32) : a ≤ b ↔ a.toInt ≤ b.toInt := Int32.le_iff_toInt_le
theorem z_eq (a b : Int32) : a = b ↔ a.toInt = b.toInt := Int32.toInt_inj.symm
theorem z_rng (a : Int32) : -2147483648 ≤ a.toInt ∧ a.toInt < 2147483648 := ⟨Int32.le_toInt a, Int32.toInt_lt a⟩
theorem z_add {a b : Int32} (h1 : -2147483648 ≤ a.toInt + b.toInt) (h2 : a.toInt + b.toInt < 2147483648) : (a + b).toInt = a.toInt + b.toInt := by
  rw [Int32.toInt_add]
  exact Int.bmod_eq_of_le (by omega) (by omega)
theorem z_sub {a b : Int32} (h1 : -2147483648 ≤ a.toInt - b.toInt) (h2 : a.toInt - b.toInt < 2147483648) : (a - b).toInt = a.toInt - b.toInt := by
  rw [Int32.toInt_sub]
  exact Int.bmod_eq_of_le (by omega) (by omega)
theorem z_mul {a b : Int32} (h1 : -2147483648 ≤ a.toInt * b.toInt) (h2 : a.toInt * b.toInt < 2147483648) : (a * b).toInt = a.toInt * b.toInt := by
  rw [Int32.toInt_mul]
  exact Int.bmod_eq_of_le (by omega) (by omega)
theorem z_one : (1 : Int32).toInt = 1 := by decide
theorem z_inc {x b y : Int32} (c : ¬ b ≤ x) (e : y = x + 1) : y.toInt = x.toInt + 1 := by
  rw [z_le] at c
  have h1 := z_rng b
  have h2 := z_rng x
  rw [e, z_add (by rw [z_one]; omega) (by rw [z_one]; omega), z_one]
theorem z_meas {x b y : Int32} {n : Nat} (c : ¬ b ≤ x) (e : y = x + 1) (hn : (2147483648 - x.toInt).toNat < n + 1) : (2147483648 - y.toInt).toNat < n := by
  have h3 := z_inc c e
  rw [z_le] at c
  have h1 := z_rng b
  have h2 := z_rng x
  omega
theorem z_in {i : Int32} {n : Nat} (h1 : 0 ≤ i.toInt) (h2 : i.toInt < n) : vp_in i n := vp_in_iff.mpr ⟨h1, h2⟩
section ZX
variable {p : Program} {l : Launch} {e : Env} {R : Room} {s : State} {m : MethodId} {args : Array Value} {below : List Frame} {meth : Method} {c : Code} {cells slots : Nat} {Q : State → Prop}
variable {E : za_E} {A : Nat → Prop} {nL : Nat} {cc : ByteArray} {own : String} {pc : Nat} {lv : List (Nat × za_V)} {st : List za_V} {σ : za_S}
theorem zv_gen {R9 : za_S → Prop} (h : R9 σ) (k : ∀ σ', R9 σ' → zV p l e R s m args below meth c E A nL cells slots Q pc lv st σ') : zV p l e R s m args below meth c E A nL cells slots Q pc lv st σ := k σ h
theorem zv_cst {x y : Int32} (h : x = y) (k : zV p l e R s m args below meth c E A nL cells slots Q pc lv (za_I y :: st) σ) : zV p l e R s m args below meth c E A nL cells slots Q pc lv (za_I x :: st) σ := h ▸ k
theorem zv_ldc_w (G : zC p s m args meth c cc own nL E A) {i : Nat} {v : Int32} (hd : decode cc pc = .ok (.ldc_w i, 3)) (hv : Cond.constant own i v ∈ zWW) (k : zV p l e R s m args below meth c E A nL cells slots Q (pc + 3) lv (za_I v :: st) σ) : zV p l e R s m args below meth c E A nL cells slots Q pc lv st σ := by
  intro H locs ls ho hs hP hS hl
  exact lv_ldcw G.1 G.2.1 G.2.2.2.1 (G.2.2.2.2.1 _ hv) hd (k H locs ls ho (za_fm (za_okI v) hs) hP hS hl)
theorem za_Rdiv {T : State} {H : Heap} {locs : List Loc} (X : Stand p l e R s m args below meth c T locs cells slots) (hexec : p.tables.exec = Jvm.exec) {text : String} {index a : Nat} (hown : s.vm.findClass own = some m.cls) (hconst : (Cond.stringRef own index text).before args s = true) (hev : (Term.string own index).eval args s none [] s = some (.ref a)) {g : JFrame} (hg : g.method = m) (hdg : decode c.code g.pc = .ok (.ldc_w index, 3)) :
    ∀ target, Steps p.tables e below (T.setTop { g with pc := g.pc + 3, stack := .ref a :: g.stack }) target → Steps p.tables e below (T.setTop g) target := by
  obtain ⟨k, cf, i, a', hk, hcf, hcp, -, hr, hev'⟩ := Cond.stringRef_spec hown hconst
  cases hev.symm.trans hev'
  obtain ⟨k', hk', he⟩ := X.warmed.alike.2.2 _ _ hk
  have hr' : k'.resolved[index]? = some (some (.string a)) := by
    rcases X.warmed.entry hk hk' index with h | ⟨h, -⟩
    · rw [h]; exact hr
    · rw [hr] at h; cases h
  intro target hrest
  subst hg
  jvm_step X.here [hexec, hdg, ldc_w.wp_string (e := e) (s := T) (f := g) X.here.top hk' (by rw [he]; exact hcf) hcp hr']
  exact hrest
theorem zv_lds (G : zC p s m args meth c cc own nL E A) {i q : Nat} {tx : String} (hq : (own, i, tx, q) ∈ za_str) (hq9 : q < 19) (hd : decode cc pc = .ok (.ldc i, 2)) (k : zV p l e R s m args below meth c E A nL cells slots Q (pc + 2) lv (za_O 50 q :: st) σ) : zV p l e R s m args below meth c E A nL cells slots Q pc lv st σ := by
  intro H locs ls ho hs hP hS hl
  exact va_ldcS G.1 G.2.1 G.2.2.2.1 (G.2.2.2.2.2.1.2.2.2.1 _ hq) hd (k H locs ls ho (za_fm (show q < 19 from hq9) hs) hP hS hl)
theorem zv_ldsW (G : zC p s m args meth c cc own nL E A) {i q : Nat} {tx : String} (hq : (own, i, tx, q) ∈ za_str) (hq9 : q < 19) (hd : decode cc pc = .ok (.ldc_w i, 3)) (k : zV p l e R s m args below meth c E A nL cells slots Q (pc + 3) lv (za_O 50 q :: st) σ) : zV p l e R s m args below meth c E A nL cells slots Q pc lv st σ := by
  intro H locs ls ho hs hP hS hl
  have hZ := G.2.2.2.2.2.1.2.2.2.1 _ hq
  have h9 := k H locs ls ho (za_fm (show q < 19 from hq9) hs) hP hS hl
  intro T hT X
  obtain ⟨t, a1, b1⟩ := h9 T hT X
  exact ⟨t, za_Rdiv (H := H) X G.1 G.2.2.2.1 hZ.1 hZ.2 (g := F0 m pc ls (st.map (za_c E))) rfl (by rw [G.2.1]; exact hd) t a1, b1⟩
theorem zv_copy (G : zC p s m args meth c cc own nL E A) {kd w0 w1 n idx : Nat} {x : Int32} (hlink : Cond.methodLink own idx arraycopyName ∈ zWW) (hnat : Cond.native arraycopyName ∈ zWW) (hstat : Cond.static arraycopyName ∈ zWW) (hini : Cond.initialized "java/lang/System" ∈ zWW) (hk : kd < 50) (he0 : za_e E (σ.1 w0) (σ.2 w0) kd w0 = .inl (E.2.2.1 0, n, .inl (σ.1 w0))) (he1 : za_e E (σ.1 w1) (σ.2 w1) kd w1 = .inl (E.2.2.1 0, n, .inl (σ.1 w1))) (he2 : ∀ f, za_e E f (σ.2 w1) kd w1 = .inl (E.2.2.1 0, n, .inl f)) (hfr : 1 ≤ R.frames) (hlo : (st.map za_cat).sum + (nativeFrameWords "java/lang/System" "arraycopy" 5 + 11) ≤ R.locals) (hx0 : ¬ x < 0) (hx : x.toNatClampNeg = n) (hd : decode cc pc = .ok (.invokestatic idx, 3)) (k : zV p l e R s m args below meth c E A nL cells slots Q (pc + 3) lv st (za_sr σ w1 (va_cpy (σ.1 w0) (σ.1 w1) 0 0 n))) : zV p l e R s m args below meth c E A nL cells slots Q pc lv (za_I x :: za_I 0 :: za_O kd w1 :: za_I 0 :: za_O kd w0 :: st) σ := by
  intro H locs ls ho hs hP hS hl
  have h1 := (List.forall_mem_cons.mp (List.forall_mem_cons.mp hs).2).2
  have h2 := (List.forall_mem_cons.mp (List.forall_mem_cons.mp h1).2).2
  have hw1 := za_okO hk (List.forall_mem_cons.mp h1).1
  have hw0 := za_okO hk (List.forall_mem_cons.mp h2).1
  have hat0 := za_w_at (E := E) (σ := σ) (za_kd_lt hw0 (by omega))
  rw [hw0, he0] at hat0
  have hat1 := za_w_at (E := E) (σ := σ) (za_kd_lt hw1 (by omega))
  rw [hw1, he1] at hat1
  rw [List.map_cons, List.map_cons, List.map_cons, List.map_cons, List.map_cons, za_cO hk, za_cO hk]
  have hc0 : (0 : Int32).toNatClampNeg = 0 := by decide
  refine va_copyi (D := E.2.1) (ty := .int) G.1 G.2.1 (G.2.2.1.trans hl.1.symm) G.2.2.2.1 (G.2.2.2.2.1 _ hlink) (G.2.2.2.2.1 _ hnat) (G.2.2.2.2.1 _ hstat) (G.2.2.2.2.1 _ hini) G.2.2.2.2.2.1.1 hP (za_D G.2.2.2.2.2.2.1) hS w0 w1 0 0 hat0 hat1 rfl rfl rfl (by decide) (by decide) hx0 (by rw [hc0, hx]; omega) (by rw [hc0, hx]; omega) (fun _ _ => rfl) hfr (by rw [List.map_map, show ((fun v : Value => v.category) ∘ za_c E) = za_cat from funext (za_c_cat E)]; exact hlo) hd (fun H1 locs1 hP1 _ hS1 => ?_)
  rw [hc0, hx, za_w_set (σ' := za_sr σ w1 (va_cpy (σ.1 w0) (σ.1 w1) 0 0 n)) za_sr_off (by rw [hw1, za_sr_w]; exact he2 _)] at hP1
  exact k H1 locs1 ls ho (List.forall_mem_cons.mp h2).2 hP1 hS1 hl
theorem zv_gstat (G : zC p s m args meth c cc own nL E (za_A E)) {idx : Nat} (hlink : Cond.fieldLink own idx "java/lang/String" "COMPACT_STRINGS" "Z" ∈ zWW) (hd : decode cc pc = .ok (.getstatic idx, 3)) (k : zV p l e R s m args below meth c E (za_A E) nL cells slots Q (pc + 3) lv (za_I 1 :: st) σ) : zV p l e R s m args below meth c E (za_A E) nL cells slots Q pc lv st σ := by
  intro H locs ls ho hs hP hS hl
  exact va_gets G.1 G.2.1 G.2.2.2.2.2.1.2.2.2.2.1 hS G.2.2.2.1 (G.2.2.2.2.1 _ hlink) (fun _ h9 => h9) hd (k H locs ls ho (za_fm (za_okI 1) hs) hP hS hl)
theorem zv_gfmt (G : zC p s m args meth c cc own nL E (za_A E)) {idx : Nat} (hlink : Cond.fieldLink own idx "jdk/internal/util/Preconditions" "SIOOBE_FORMATTER" "Ljava/util/function/BiFunction;" ∈ zWW) (hd : decode cc pc = .ok (.getstatic idx, 3)) (k : ∀ f : Nat, zV p l e R s m args below meth c E (za_A E) nL cells slots Q (pc + 3) lv (za_O 52 f :: st) σ) : zV p l e R s m args below meth c E (za_A E) nL cells slots Q pc lv st σ := by
  intro H locs ls ho hs hP hS hl
  obtain ⟨f, hf⟩ := G.2.2.2.2.2.1.2.2.2.2.2
  exact va_gets G.1 G.2.1 hf hS G.2.2.2.1 (G.2.2.2.2.1 _ hlink) (fun _ h9 => h9) hd (k f H locs ls ho (za_fm (show True from trivial) hs) hP hS hl)
theorem zv_sval (G : zC p s m args meth c cc own nL E (za_A E)) {idx q : Nat} (hlink : Cond.fieldLink own idx "java/lang/String" "value" "[B" ∈ zWW) (hd : decode cc pc = .ok (.getfield idx, 3)) (k : zV p l e R s m args below meth c E (za_A E) nL cells slots Q (pc + 3) lv (za_O 51 q :: st) σ) : zV p l e R s m args below meth c E (za_A E) nL cells slots Q pc lv (za_O 50 q :: st) σ := by
  intro H locs ls ho hs hP hS hl
  have hq : q < 19 := (List.forall_mem_cons.mp hs).1
  exact vk_getf G.1 G.2.1 (G.2.2.2.2.2.1.2.2.1.1 q hq).2.2.1 hS G.2.2.2.1 (G.2.2.2.2.1 _ hlink) (fun _ h9 => h9) hd (k H locs ls ho (za_fm (show q < 19 from hq) (List.forall_mem_cons.mp hs).2) hP hS hl)
theorem zv_scod (G : zC p s m args meth c cc own nL E (za_A E)) {idx q : Nat} (hlink : Cond.fieldLink own idx "java/lang/String" "coder" "B" ∈ zWW) (hd : decode cc pc = .ok (.getfield idx, 3)) (k : zV p l e R s m args below meth c E (za_A E) nL cells slots Q (pc + 3) lv (za_I 0 :: st) σ) : zV p l e R s m args below meth c E (za_A E) nL cells slots Q pc lv (za_O 50 q :: st) σ := by
  intro H locs ls ho hs hP hS hl
  have hq : q < 19 := (List.forall_mem_cons.mp hs).1
  exact vk_getf G.1 G.2.1 (G.2.2.2.2.2.1.2.2.1.1 q hq).2.1 hS G.2.2.2.1 (G.2.2.2.2.1 _ hlink) (fun _ h9 => h9) hd (k H locs ls ho (za_fm (za_okI 0) (List.forall_mem_cons.mp hs).2) hP hS hl)
theorem zv_slen (G : zC p s m args meth c cc own nL E (za_A E)) {q : Nat} (hd : decode cc pc = .ok (.arraylength, 1)) (k : zV p l e R s m args below meth c E (za_A E) nL cells slots Q (pc + 1) lv (za_I (Int32.ofNat (za_len.getD q 0)) :: st) σ) : zV p l e R s m args below meth c E (za_A E) nL cells slots Q pc lv (za_O 51 q :: st) σ := by
  intro H locs ls ho hs hP hS hl
  have hq : q < 19 := (List.forall_mem_cons.mp hs).1
  exact va_tlen G.1 G.2.1 (G.2.2.2.2.2.1.2.2.1.1 q hq).2.2.2 hS rfl hd (k H locs ls ho (za_fm (za_okI _) (List.forall_mem_cons.mp hs).2) hP hS hl)
theorem zv_sbyte (G : zC p s m args meth c cc own nL E (za_A E)) {q : Nat} {i : Int32} (hi : vp_in i (za_len.getD q 0)) (hd : decode cc pc = .ok (.baload, 1)) (k : zV p l e R s m args below meth c E (za_A E) nL cells slots Q (pc + 1) lv (za_I ((za_byt.getD q []).getD i.toNatClampNeg 0) :: st) σ) : zV p l e R s m args below meth c E (za_A E) nL cells slots Q pc lv (za_I i :: za_O 51 q :: st) σ := by
  intro H locs ls ho hs hP hS hl
  have hq : q < 19 := (List.forall_mem_cons.mp (List.forall_mem_cons.mp hs).2).1
  exact va_tb G.1 G.2.1 (G.2.2.2.2.2.1.2.2.1.1 q hq).2.2.2 hS hi rfl hd (k H locs ls ho (za_fm (za_okI _) (List.forall_mem_cons.mp (List.forall_mem_cons.mp hs).2).2) hP hS hl)
theorem zv_callTi (G : zC p s m args meth c cc own nL E A) {q idx maxL n fr lo : Nat} {y : MethodName} {bytes : ByteArray} {ret : Option FieldType} {as : List za_V} {P : Int32 → za_S → Prop} (hM : zMi l E y bytes maxL ret fr lo (za_O 50 q :: as) σ P) (K : zKV y "java/lang/String" bytes maxL ret n) (hlink : Cond.methodLink own idx y ∈ zWW) (hn : as.length = n) (hR : fr + 1 ≤ R.frames ∧ 8 + (maxL + 11) + lo ≤ R.locals) (hcs : cells ≤ R.cells ∧ slots ≤ R.slots) (hst : (st.map za_cat).sum ≤ 8) (hd : decode cc pc = .ok (.invokevirtual idx, 3)) (kk : ∀ (r : Int32) (σ' : za_S), P r σ' → zV p l e R s m args below meth c E A nL cells slots Q (pc + 3) lv (za_I r :: st) σ') : zV p l e R s m args below meth c E A nL cells slots Q pc lv (as.reverse ++ za_O 50 q :: st) σ := by
  intro H locs ls ho hs hP hS hl
  obtain ⟨ho1, ho2⟩ := za_oks hs
  have hq : q < 19 := (List.forall_mem_cons.mp ho1).1
  have h1 := za_PreS G hP hS ho1
  obtain ⟨cell, g1, g2, g3, -⟩ := ((G.2.2.2.2.2.1.2.2.1.1 q hq).1).kept (fun a h1 h2 => hS.2.1 a h1 (fun z => h2 (G.2.2.2.2.2.2.2.1 a h1 z)))
  have hpre : PreV s H "java/lang/String" (E.2.2.2.1 q) (zPc E (za_O 50 q :: as) σ) (as.map (za_c E)) := ⟨h1.1, ⟨cell, g1, g2, g3⟩, h1.2⟩
  have hstk : (as.reverse ++ za_O 50 q :: st).map (za_c E) = (as.map (za_c E)).reverse ++ .ref (E.2.2.2.1 q) :: st.map (za_c E) := by
    rw [List.map_append, List.map_reverse, List.map_cons]
    rfl
  rw [hstk]
  have hM1 : Met l y (.code y bytes maxL ret :: zWW) (zRm fr lo) (zPc E (za_O 50 q :: as) σ) _ 0 0 (za_A E) := hM
  refine va_calli (va_runV (As := as.map (za_c E)) (rest := st.map (za_c E)) (n := n) ⟨G.1, G.2.1, G.2.2.1, G.2.2.2.1, G.2.2.2.2.1⟩ hM1 (cwV n G.2.2.2.2.1 (za_goodV K hlink) rfl rfl rfl K.2.2.2.2 hR) hpre rfl ((List.length_map ..).trans hn) hl.1 rfl (lv_room (za_cats st hst)) hd hcs) hS (fun q _ h => G.2.2.2.2.2.2.1 q h) G.2.2.2.2.2.2.1 (fun r u t H1 locs1 ht _ hp hB _ _ hS1 => ?_)
  exact kk r u hp H1 locs1 ls ho (za_fm (za_okI r) ho2) (by rw [← ht]; exact hB) hS1 hl
end ZX
