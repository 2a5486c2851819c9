/-! ===== contracts over the world ===== -/
/-- a method's start: its arguments, the world, what stands -/
def zPc (E : za_E) (as : List za_V) (σ : za_S) : Array Value → State → Prop := va_Pc (as.map (za_c E)) (fun U => (∀ v ∈ as, za_ok v) ∧ va_P E.2.1 vwCl (za_w E σ) U.heap ∧ za_Y E U U.heap)
def zB (E : za_E) (σ : za_S) (t : State) : Prop := va_P E.2.1 vwCl (za_w E σ) t.heap
def zRm (fr lo : Nat) : Room := { frames := fr, cells := 0, slots := 0, locals := lo }
def zMi (l : Launch) (E : za_E) (y : MethodName) (cc : ByteArray) (maxL : Nat) (ret : Option FieldType) (fr lo : Nat) (as : List za_V) (σ : za_S) (P : Int32 → za_S → Prop) : Prop := Met l y (.code y cc maxL ret :: zWW) (zRm fr lo) (zPc E as σ) (va_Qi P (zB E) (za_A E)) 0 0 (za_A E)
def zMl (l : Launch) (E : za_E) (y : MethodName) (cc : ByteArray) (maxL : Nat) (ret : Option FieldType) (fr lo : Nat) (as : List za_V) (σ : za_S) (P : Int64 → za_S → Prop) : Prop := Met l y (.code y cc maxL ret :: zWW) (zRm fr lo) (zPc E as σ) (va_Ql P (zB E) (za_A E)) 0 0 (za_A E)
def zMv (l : Launch) (E : za_E) (y : MethodName) (cc : ByteArray) (maxL : Nat) (ret : Option FieldType) (fr lo : Nat) (as : List za_V) (σ : za_S) (P : za_S → Prop) : Prop := Met l y (.code y cc maxL ret :: zWW) (zRm fr lo) (zPc E as σ) (va_Qv P (zB E) (za_A E)) 0 0 (za_A E)
def zRp (P : za_V → za_S → Prop) (u : za_V × za_S) : Prop := P u.1 u.2
def zRB (E : za_E) (u : za_V × za_S) (a : Nat) (t : State) : Prop := za_c E u.1 = .ref a ∧ za_ok u.1 ∧ zB E u.2 t
def zMr (l : Launch) (E : za_E) (y : MethodName) (cc : ByteArray) (maxL : Nat) (ret : Option FieldType) (fr lo : Nat) (as : List za_V) (σ : za_S) (P : za_V → za_S → Prop) : Prop := Met l y (.code y cc maxL ret :: zWW) (zRm fr lo) (zPc E as σ) (va_Qr (zRp P) (zRB E) (za_A E)) 0 0 (za_A E)
theorem zPc_blind {E : za_E} {as : List za_V} {σ : za_S} : FrameBlind (zPc E as σ) := fun _ _ _ _ h => ⟨h.1, h.2.1, h.2.2.1, za_Y_calling h.2.2.2⟩
theorem zGood {ws : List Cond} (h : ∀ w ∈ ws, w ∈ zWW) : GoodIn zWW ws := fun w hw => ⟨h w hw, good_of_word (zWW_good (h w hw))⟩
def zDsc (y : MethodName) (n : Nat) : Prop := y.cls ≠ "java/lang/invoke/MethodHandle" ∧ y.cls ≠ "java/lang/invoke/VarHandle" ∧ (parseMethodDescriptor y.desc).map (fun d => d.parameters.length) = some n
/-- what the tables say of an instance method, of a static one -/
def zKV (y : MethodName) (C : String) (bytes : ByteArray) (maxL : Nat) (ret : Option FieldType) (n : Nat) : Prop := Cond.instanceMethod y ∈ zWW ∧ Cond.selects C y y ∈ zWW ∧ Cond.initialized C ∈ zWW ∧ Cond.code y bytes maxL ret ∈ zWW ∧ y.cls = C ∧ zDsc y n
def zKS (y : MethodName) (bytes : ByteArray) (maxL : Nat) (ret : Option FieldType) (n : Nat) : Prop := Cond.static y ∈ zWW ∧ Cond.initialized y.cls ∈ zWW ∧ Cond.code y bytes maxL ret ∈ zWW ∧ zDsc y n
section ZM
variable {p : Program} {l : Launch} {e : Env} {R : Room} {s : State} {m : MethodId} {args : Array Value} {below : List Frame} {meth : Method} {c : Code} {cells slots : Nat} {Q : State → Prop}
variable {E : za_E} {A : Nat → Prop} {nL : Nat} {cc : ByteArray} {own : String} {pc : Nat} {lv lv' : List (Nat × za_V)} {st : List za_V} {σ : za_S}
theorem za_cats (st : List za_V) (h : (st.map za_cat).sum ≤ 8) : ((st.map (za_c E)).map fun v => v.category).sum ≤ 8 := by
  rw [List.map_map, show ((fun v : Value => v.category) ∘ za_c E) = za_cat from funext (za_c_cat E)]
  exact h
theorem za_lgl (as : List za_V) : (lg_sl (as.map (za_c E))).length = (as.map za_cat).sum := by
  induction as with
  | nil => rfl
  | cons v t ih =>
    have h1 : lg_sl ((v :: t).map (za_c E)) = (if (za_c E v).category = 2 then [Slot.val (za_c E v), .second] else [Slot.val (za_c E v)]) ++ lg_sl (t.map (za_c E)) := rfl
    rw [h1, List.length_append, ih, za_c_cat, List.map_cons, List.sum_cons]
    congr 1
    rcases v with x | x | ⟨k, w⟩ <;> rfl
theorem za_PreS (G : zC p s m args meth c cc own nL E A) {H : Heap} {locs : List Loc} {as : List za_V} (hP : va_P E.2.1 vwCl (za_w E σ) H) (hS : va_S A s.heap H locs) (ho : ∀ v ∈ as, za_ok v) : PreS s H (zPc E as σ) (as.map (za_c E)) :=
  ⟨zPc_blind, fun U hU hW => ⟨rfl, ho, by rw [hU]; exact hP, za_Y_warm hW (fun a h1 h2 => by rw [hU]; exact hS.2.1 a h1 (fun z => h2 (G.2.2.2.2.2.2.2.1 a h1 z))) G.2.2.2.2.2.1⟩⟩
theorem za_PreV (G : zC p s m args meth c cc own nL E A) {H : Heap} {locs : List Loc} {kd w ci N : Nat} {fs : List Value} {C : String} {T : u_T} {as : List za_V} (hk : kd < 50) (he : za_e E (σ.1 w) (σ.2 w) kd w = .inr (ci, fs)) (hc : vwCl[ci]? = some (C, T, N)) (hP : va_P E.2.1 vwCl (za_w E σ) H) (hS : va_S A s.heap H locs) (ho : ∀ v ∈ za_O kd w :: as, za_ok v) : PreV s H C (E.1 + w) (zPc E (za_O kd w :: as) σ) (as.map (za_c E)) := by
  have hw1 := za_okO hk (List.forall_mem_cons.mp ho).1
  have hat := za_w_at (E := E) (σ := σ) (za_kd_lt hw1 (by omega))
  rw [hw1, he] at hat
  have h1 := za_PreS G hP hS ho
  rw [List.map_cons, za_cO hk] at h1
  exact ⟨h1.1, va_recv G.2.2.2.2.2.1.1 hP hc hat, h1.2⟩
theorem za_stk {as : List za_V} {kd w : Nat} (hk : kd < 50) : (as.reverse ++ za_O kd w :: st).map (za_c E) = (as.map (za_c E)).reverse ++ .ref (E.1 + w) :: st.map (za_c E) := by
  rw [List.map_append, List.map_reverse, List.map_cons, za_cO hk]
theorem za_stkS {as : List za_V} : (as.reverse ++ st).map (za_c E) = (as.map (za_c E)).reverse ++ st.map (za_c E) := by
  rw [List.map_append, List.map_reverse]
theorem za_oks {as : List za_V} {kd w : Nat} (h : ∀ v ∈ as.reverse ++ za_O kd w :: st, za_ok v) : (∀ v ∈ za_O kd w :: as, za_ok v) ∧ ∀ v ∈ st, za_ok v := by
  have h1 := List.forall_mem_append.mp h
  have h2 := List.forall_mem_cons.mp h1.2
  exact ⟨List.forall_mem_cons.mpr ⟨h2.1, fun v hv => h1.1 v (List.mem_reverse.mpr hv)⟩, h2.2⟩
theorem za_oksS {as : List za_V} (h : ∀ v ∈ as.reverse ++ st, za_ok v) : (∀ v ∈ as, za_ok v) ∧ ∀ v ∈ st, za_ok v := by
  have h1 := List.forall_mem_append.mp h
  exact ⟨fun v hv => h1.1 v (List.mem_reverse.mpr hv), h1.2⟩
theorem za_goodV {idx maxL n : Nat} {y : MethodName} {C : String} {bytes : ByteArray} {ret : Option FieldType} (K : zKV y C bytes maxL ret n) (hlink : Cond.methodLink own idx y ∈ zWW) : GoodIn zWW (wsV own idx C y (.code y bytes maxL ret :: zWW)) := zGood (fun w hw => by
  rcases List.mem_append.mp hw with h | h
  · rcases List.mem_cons.mp h with rfl | h
    · exact hlink
    rcases List.mem_cons.mp h with rfl | h
    · exact K.1
    rcases List.mem_cons.mp h with rfl | h
    · exact K.2.1
    rcases List.mem_cons.mp h with rfl | h
    · exact K.2.2.1
    cases h
  · rcases List.mem_cons.mp h with rfl | h
    · exact K.2.2.2.1
    · exact h)
theorem za_goodC {maxL : Nat} {y : MethodName} {bytes : ByteArray} {ret : Option FieldType} (K : Cond.code y bytes maxL ret ∈ zWW) : GoodIn zWW (.code y bytes maxL ret :: zWW) := zGood (fun w hw => by
  rcases List.mem_cons.mp hw with rfl | h
  · exact K
  · exact h)
theorem zv_callVi (G : zC p s m args meth c cc own nL E A) {kd w ci N idx maxL n fr lo : Nat} {C : String} {T : u_T} {fs : List Value} {y : MethodName} {bytes : ByteArray} {ret : Option FieldType} {as : List za_V} {P : Int32 → za_S → Prop} (hk : kd < 50) (he : za_e E (σ.1 w) (σ.2 w) kd w = .inr (ci, fs)) (hc : vwCl[ci]? = some (C, T, N)) (hM : zMi l E y bytes maxL ret fr lo (za_O kd w :: as) σ P) (K : zKV y C bytes maxL ret n) (hlink : Cond.methodLink own idx y ∈ zWW) (hn : as.length = n) (hR : fr + 1 ≤ R.frames ∧ 8 + (maxL + 11) + lo ≤ R.locals) (hcs : cells ≤ R.cells ∧ slots ≤ R.slots) (hst : (st.map za_cat).sum ≤ 8) (hd : decode cc pc = .ok (.invokevirtual idx, 3)) (kk : ∀ (r : Int32) (σ' : za_S), P r σ' → zV p l e R s m args below meth c E A nL cells slots Q (pc + 3) lv (za_I r :: st) σ') : zV p l e R s m args below meth c E A nL cells slots Q pc lv (as.reverse ++ za_O kd w :: st) σ := by
  intro H locs ls ho hs hP hS hl
  obtain ⟨ho1, ho2⟩ := za_oks hs
  have hpre := za_PreV G hk he hc hP hS ho1
  rw [za_stk hk]
  have hM1 : Met l y (.code y bytes maxL ret :: zWW) (zRm fr lo) (zPc E (za_O kd w :: as) σ) _ 0 0 (za_A E) := hM
  refine va_calli (va_runV (As := as.map (za_c E)) (rest := st.map (za_c E)) (n := n) ⟨G.1, G.2.1, G.2.2.1, G.2.2.2.1, G.2.2.2.2.1⟩ hM1 (cwV n G.2.2.2.2.1 (za_goodV K hlink) rfl rfl rfl K.2.2.2.2 hR) hpre rfl ((List.length_map ..).trans hn) hl.1 rfl (lv_room (za_cats st hst)) hd hcs) hS (fun q _ h => G.2.2.2.2.2.2.1 q h) G.2.2.2.2.2.2.1 (fun r u t H1 locs1 ht _ hp hB _ _ hS1 => ?_)
  exact kk r u hp H1 locs1 ls ho (za_fm (za_okI r) ho2) (by rw [← ht]; exact hB) hS1 hl
theorem zv_callVNi (G : zC p s m args meth c cc own nL E A) {kd w ci N idx maxL n fr lo : Nat} {C : String} {T : u_T} {fs : List Value} {host : String} {y : MethodName} {bytes : ByteArray} {ret : Option FieldType} {as : List za_V} {P : Int32 → za_S → Prop} (hk : kd < 50) (he : za_e E (σ.1 w) (σ.2 w) kd w = .inr (ci, fs)) (hc : vwCl[ci]? = some (C, T, N)) (hM : zMi l E y bytes maxL ret fr lo (za_O kd w :: as) σ P) (K : zKV y C bytes maxL ret n) (hlink : Cond.methodLinkNest own idx y host ∈ zNN) (hn : as.length = n) (hR : fr + 1 ≤ R.frames ∧ 8 + (maxL + 11) + lo ≤ R.locals) (hcs : cells ≤ R.cells ∧ slots ≤ R.slots) (hst : (st.map za_cat).sum ≤ 8) (hd : decode cc pc = .ok (.invokevirtual idx, 3)) (kk : ∀ (r : Int32) (σ' : za_S), P r σ' → zV p l e R s m args below meth c E A nL cells slots Q (pc + 3) lv (za_I r :: st) σ') : zV p l e R s m args below meth c E A nL cells slots Q pc lv (as.reverse ++ za_O kd w :: st) σ := by
  intro H locs ls ho hs hP hS hl
  obtain ⟨ho1, ho2⟩ := za_oks hs
  have hpre := za_PreV G hk he hc hP hS ho1
  rw [za_stk hk]
  have hM1 : Met l y (.code y bytes maxL ret :: zWW) (zRm fr lo) (zPc E (za_O kd w :: as) σ) _ 0 0 (za_A E) := hM
  refine va_calli (va_runVN (As := as.map (za_c E)) (rest := st.map (za_c E)) (n := n) ⟨G.1, G.2.1, G.2.2.1, G.2.2.2.1, G.2.2.2.2.1⟩ hM1 ⟨va_cnB n G.2.2.2.2.1 (za_goodC K.2.2.2.1) rfl rfl rfl (G.2.2.2.2.2.1.2.1 _ hlink) (by rw [K.2.2.2.2.1]; exact G.2.2.2.2.1 _ K.2.2.1) K.2.2.2.2.2 hR, G.2.2.2.2.1 _ K.1, G.2.2.2.2.1 _ K.2.1⟩ hpre rfl ((List.length_map ..).trans hn) hl.1 rfl (lv_room (za_cats st hst)) hd hcs) hS (fun q _ h => G.2.2.2.2.2.2.1 q h) G.2.2.2.2.2.2.1 (fun r u t H1 locs1 ht _ hp hB _ _ hS1 => ?_)
  exact kk r u hp H1 locs1 ls ho (za_fm (za_okI r) ho2) (by rw [← ht]; exact hB) hS1 hl
theorem zv_callSi (G : zC p s m args meth c cc own nL E A) {idx maxL n fr lo : Nat} {y : MethodName} {bytes : ByteArray} {ret : Option FieldType} {as : List za_V} {P : Int32 → za_S → Prop} (hM : zMi l E y bytes maxL ret fr lo as σ P) (K : zKS y bytes maxL ret n) (hlink : Cond.methodLink own idx y ∈ zWW) (hn : as.length = n) (hR : fr + 1 ≤ R.frames ∧ 8 + (maxL + 11) + lo ≤ R.locals) (hcs : cells ≤ R.cells ∧ slots ≤ R.slots) (hst : (st.map za_cat).sum ≤ 8) (hd : decode cc pc = .ok (.invokestatic idx, 3)) (kk : ∀ (r : Int32) (σ' : za_S), P r σ' → zV p l e R s m args below meth c E A nL cells slots Q (pc + 3) lv (za_I r :: st) σ') : zV p l e R s m args below meth c E A nL cells slots Q pc lv (as.reverse ++ st) σ := by
  intro H locs ls ho hs hP hS hl
  obtain ⟨ho1, ho2⟩ := za_oksS hs
  have hpre := za_PreS G hP hS ho1
  rw [za_stkS]
  have hM1 : Met l y (.code y bytes maxL ret :: zWW) (zRm fr lo) (zPc E as σ) _ 0 0 (za_A E) := hM
  refine va_calli (va_runS (As := as.map (za_c E)) (rest := st.map (za_c E)) (n := n) ⟨G.1, G.2.1, G.2.2.1, G.2.2.2.1, G.2.2.2.2.1⟩ hM1 ⟨callB_of n G.2.2.2.2.1 (za_goodC K.2.2.1) rfl rfl rfl (G.2.2.2.2.1 _ K.2.1) (G.2.2.2.2.1 _ hlink) K.2.2.2 hR, G.2.2.2.2.1 _ K.1⟩ hpre rfl ((List.length_map ..).trans hn) hl.1 rfl (lv_room (za_cats st hst)) hd hcs) hS (fun q _ h => G.2.2.2.2.2.2.1 q h) G.2.2.2.2.2.2.1 (fun r u t H1 locs1 ht _ hp hB _ _ hS1 => ?_)
  exact kk r u hp H1 locs1 ls ho (za_fm (za_okI r) ho2) (by rw [← ht]; exact hB) hS1 hl
theorem zv_callSNi (G : zC p s m args meth c cc own nL E A) {idx maxL n fr lo : Nat} {host : String} {y : MethodName} {bytes : ByteArray} {ret : Option FieldType} {as : List za_V} {P : Int32 → za_S → Prop} (hM : zMi l E y bytes maxL ret fr lo as σ P) (K : zKS y bytes maxL ret n) (hlink : Cond.methodLinkNest own idx y host ∈ zNN) (hn : as.length = n) (hR : fr + 1 ≤ R.frames ∧ 8 + (maxL + 11) + lo ≤ R.locals) (hcs : cells ≤ R.cells ∧ slots ≤ R.slots) (hst : (st.map za_cat).sum ≤ 8) (hd : decode cc pc = .ok (.invokestatic idx, 3)) (kk : ∀ (r : Int32) (σ' : za_S), P r σ' → zV p l e R s m args below meth c E A nL cells slots Q (pc + 3) lv (za_I r :: st) σ') : zV p l e R s m args below meth c E A nL cells slots Q pc lv (as.reverse ++ st) σ := by
  intro H locs ls ho hs hP hS hl
  obtain ⟨ho1, ho2⟩ := za_oksS hs
  have hpre := za_PreS G hP hS ho1
  rw [za_stkS]
  have hM1 : Met l y (.code y bytes maxL ret :: zWW) (zRm fr lo) (zPc E as σ) _ 0 0 (za_A E) := hM
  refine va_calli (va_runSN (As := as.map (za_c E)) (rest := st.map (za_c E)) (n := n) ⟨G.1, G.2.1, G.2.2.1, G.2.2.2.1, G.2.2.2.2.1⟩ hM1 ⟨va_cnB n G.2.2.2.2.1 (za_goodC K.2.2.1) rfl rfl rfl (G.2.2.2.2.2.1.2.1 _ hlink) (G.2.2.2.2.1 _ K.2.1) K.2.2.2 hR, G.2.2.2.2.1 _ K.1, trivial⟩ hpre rfl ((List.length_map ..).trans hn) hl.1 rfl (lv_room (za_cats st hst)) hd hcs) hS (fun q _ h => G.2.2.2.2.2.2.1 q h) G.2.2.2.2.2.2.1 (fun r u t H1 locs1 ht _ hp hB _ _ hS1 => ?_)
  exact kk r u hp H1 locs1 ls ho (za_fm (za_okI r) ho2) (by rw [← ht]; exact hB) hS1 hl
theorem zv_callVl (G : zC p s m args meth c cc own nL E A) {kd w ci N idx maxL n fr lo : Nat} {C : String} {T : u_T} {fs : List Value} {y : MethodName} {bytes : ByteArray} {ret : Option FieldType} {as : List za_V} {P : Int64 → za_S → Prop} (hk : kd < 50) (he : za_e E (σ.1 w) (σ.2 w) kd w = .inr (ci, fs)) (hc : vwCl[ci]? = some (C, T, N)) (hM : zMl l E y bytes maxL ret fr lo (za_O kd w :: as) σ P) (K : zKV y C bytes maxL ret n) (hlink : Cond.methodLink own idx y ∈ zWW) (hn : as.length = n) (hR : fr + 1 ≤ R.frames ∧ 8 + (maxL + 11) + lo ≤ R.locals) (hcs : cells ≤ R.cells ∧ slots ≤ R.slots) (hst : (st.map za_cat).sum ≤ 8) (hd : decode cc pc = .ok (.invokevirtual idx, 3)) (kk : ∀ (r : Int64) (σ' : za_S), P r σ' → zV p l e R s m args below meth c E A nL cells slots Q (pc + 3) lv (za_L r :: st) σ') : zV p l e R s m args below meth c E A nL cells slots Q pc lv (as.reverse ++ za_O kd w :: st) σ := by
  intro H locs ls ho hs hP hS hl
  obtain ⟨ho1, ho2⟩ := za_oks hs
  have hpre := za_PreV G hk he hc hP hS ho1
  rw [za_stk hk]
  have hM1 : Met l y (.code y bytes maxL ret :: zWW) (zRm fr lo) (zPc E (za_O kd w :: as) σ) _ 0 0 (za_A E) := hM
  refine va_calll (va_runV (As := as.map (za_c E)) (rest := st.map (za_c E)) (n := n) ⟨G.1, G.2.1, G.2.2.1, G.2.2.2.1, G.2.2.2.2.1⟩ hM1 (cwV n G.2.2.2.2.1 (za_goodV K hlink) rfl rfl rfl K.2.2.2.2 hR) hpre rfl ((List.length_map ..).trans hn) hl.1 rfl (lv_room (za_cats st hst)) hd hcs) hS (fun q _ h => G.2.2.2.2.2.2.1 q h) G.2.2.2.2.2.2.1 (fun r u t H1 locs1 ht _ hp hB _ _ hS1 => ?_)
  exact kk r u hp H1 locs1 ls ho (za_fm (za_okL r) ho2) (by rw [← ht]; exact hB) hS1 hl
theorem zv_callVNl (G : zC p s m args meth c cc own nL E A) {kd w ci N idx maxL n fr lo : Nat} {C : String} {T : u_T} {fs : List Value} {host : String} {y : MethodName} {bytes : ByteArray} {ret : Option FieldType} {as : List za_V} {P : Int64 → za_S → Prop} (hk : kd < 50) (he : za_e E (σ.1 w) (σ.2 w) kd w = .inr (ci, fs)) (hc : vwCl[ci]? = some (C, T, N)) (hM : zMl l E y bytes maxL ret fr lo (za_O kd w :: as) σ P) (K : zKV y C bytes maxL ret n) (hlink : Cond.methodLinkNest own idx y host ∈ zNN) (hn : as.length = n) (hR : fr + 1 ≤ R.frames ∧ 8 + (maxL + 11) + lo ≤ R.locals) (hcs : cells ≤ R.cells ∧ slots ≤ R.slots) (hst : (st.map za_cat).sum ≤ 8) (hd : decode cc pc = .ok (.invokevirtual idx, 3)) (kk : ∀ (r : Int64) (σ' : za_S), P r σ' → zV p l e R s m args below meth c E A nL cells slots Q (pc + 3) lv (za_L r :: st) σ') : zV p l e R s m args below meth c E A nL cells slots Q pc lv (as.reverse ++ za_O kd w :: st) σ := by
  intro H locs ls ho hs hP hS hl
  obtain ⟨ho1, ho2⟩ := za_oks hs
  have hpre := za_PreV G hk he hc hP hS ho1
  rw [za_stk hk]
  have hM1 : Met l y (.code y bytes maxL ret :: zWW) (zRm fr lo) (zPc E (za_O kd w :: as) σ) _ 0 0 (za_A E) := hM
  refine va_calll (va_runVN (As := as.map (za_c E)) (rest := st.map (za_c E)) (n := n) ⟨G.1, G.2.1, G.2.2.1, G.2.2.2.1, G.2.2.2.2.1⟩ hM1 ⟨va_cnB n G.2.2.2.2.1 (za_goodC K.2.2.2.1) rfl rfl rfl (G.2.2.2.2.2.1.2.1 _ hlink) (by rw [K.2.2.2.2.1]; exact G.2.2.2.2.1 _ K.2.2.1) K.2.2.2.2.2 hR, G.2.2.2.2.1 _ K.1, G.2.2.2.2.1 _ K.2.1⟩ hpre rfl ((List.length_map ..).trans hn) hl.1 rfl (lv_room (za_cats st hst)) hd hcs) hS (fun q _ h => G.2.2.2.2.2.2.1 q h) G.2.2.2.2.2.2.1 (fun r u t H1 locs1 ht _ hp hB _ _ hS1 => ?_)
  exact kk r u hp H1 locs1 ls ho (za_fm (za_okL r) ho2) (by rw [← ht]; exact hB) hS1 hl
theorem zv_callSl (G : zC p s m args meth c cc own nL E A) {idx maxL n fr lo : Nat} {y : MethodName} {bytes : ByteArray} {ret : Option FieldType} {as : List za_V} {P : Int64 → za_S → Prop} (hM : zMl l E y bytes maxL ret fr lo as σ P) (K : zKS y bytes maxL ret n) (hlink : Cond.methodLink own idx y ∈ zWW) (hn : as.length = n) (hR : fr + 1 ≤ R.frames ∧ 8 + (maxL + 11) + lo ≤ R.locals) (hcs : cells ≤ R.cells ∧ slots ≤ R.slots) (hst : (st.map za_cat).sum ≤ 8) (hd : decode cc pc = .ok (.invokestatic idx, 3)) (kk : ∀ (r : Int64) (σ' : za_S), P r σ' → zV p l e R s m args below meth c E A nL cells slots Q (pc + 3) lv (za_L r :: st) σ') : zV p l e R s m args below meth c E A nL cells slots Q pc lv (as.reverse ++ st) σ := by
  intro H locs ls ho hs hP hS hl
  obtain ⟨ho1, ho2⟩ := za_oksS hs
  have hpre := za_PreS G hP hS ho1
  rw [za_stkS]
  have hM1 : Met l y (.code y bytes maxL ret :: zWW) (zRm fr lo) (zPc E as σ) _ 0 0 (za_A E) := hM
  refine va_calll (va_runS (As := as.map (za_c E)) (rest := st.map (za_c E)) (n := n) ⟨G.1, G.2.1, G.2.2.1, G.2.2.2.1, G.2.2.2.2.1⟩ hM1 ⟨callB_of n G.2.2.2.2.1 (za_goodC K.2.2.1) rfl rfl rfl (G.2.2.2.2.1 _ K.2.1) (G.2.2.2.2.1 _ hlink) K.2.2.2 hR, G.2.2.2.2.1 _ K.1⟩ hpre rfl ((List.length_map ..).trans hn) hl.1 rfl (lv_room (za_cats st hst)) hd hcs) hS (fun q _ h => G.2.2.2.2.2.2.1 q h) G.2.2.2.2.2.2.1 (fun r u t H1 locs1 ht _ hp hB _ _ hS1 => ?_)
  exact kk r u hp H1 locs1 ls ho (za_fm (za_okL r) ho2) (by rw [← ht]; exact hB) hS1 hl
theorem zv_callSNl (G : zC p s m args meth c cc own nL E A) {idx maxL n fr lo : Nat} {host : String} {y : MethodName} {bytes : ByteArray} {ret : Option FieldType} {as : List za_V} {P : Int64 → za_S → Prop} (hM : zMl l E y bytes maxL ret fr lo as σ P) (K : zKS y bytes maxL ret n) (hlink : Cond.methodLinkNest own idx y host ∈ zNN) (hn : as.length = n) (hR : fr + 1 ≤ R.frames ∧ 8 + (maxL + 11) + lo ≤ R.locals) (hcs : cells ≤ R.cells ∧ slots ≤ R.slots) (hst : (st.map za_cat).sum ≤ 8) (hd : decode cc pc = .ok (.invokestatic idx, 3)) (kk : ∀ (r : Int64) (σ' : za_S), P r σ' → zV p l e R s m args below meth c E A nL cells slots Q (pc + 3) lv (za_L r :: st) σ') : zV p l e R s m args below meth c E A nL cells slots Q pc lv (as.reverse ++ st) σ := by
  intro H locs ls ho hs hP hS hl
  obtain ⟨ho1, ho2⟩ := za_oksS hs
  have hpre := za_PreS G hP hS ho1
  rw [za_stkS]
  have hM1 : Met l y (.code y bytes maxL ret :: zWW) (zRm fr lo) (zPc E as σ) _ 0 0 (za_A E) := hM
  refine va_calll (va_runSN (As := as.map (za_c E)) (rest := st.map (za_c E)) (n := n) ⟨G.1, G.2.1, G.2.2.1, G.2.2.2.1, G.2.2.2.2.1⟩ hM1 ⟨va_cnB n G.2.2.2.2.1 (za_goodC K.2.2.1) rfl rfl rfl (G.2.2.2.2.2.1.2.1 _ hlink) (G.2.2.2.2.1 _ K.2.1) K.2.2.2 hR, G.2.2.2.2.1 _ K.1, trivial⟩ hpre rfl ((List.length_map ..).trans hn) hl.1 rfl (lv_room (za_cats st hst)) hd hcs) hS (fun q _ h => G.2.2.2.2.2.2.1 q h) G.2.2.2.2.2.2.1 (fun r u t H1 locs1 ht _ hp hB _ _ hS1 => ?_)
  exact kk r u hp H1 locs1 ls ho (za_fm (za_okL r) ho2) (by rw [← ht]; exact hB) hS1 hl
theorem zv_callVv (G : zC p s m args meth c cc own nL E A) {kd w ci N idx maxL n fr lo : Nat} {C : String} {T : u_T} {fs : List Value} {y : MethodName} {bytes : ByteArray} {ret : Option FieldType} {as : List za_V} {P : za_S → Prop} (hk : kd < 50) (he : za_e E (σ.1 w) (σ.2 w) kd w = .inr (ci, fs)) (hc : vwCl[ci]? = some (C, T, N)) (hM : zMv l E y bytes maxL ret fr lo (za_O kd w :: as) σ P) (K : zKV y C bytes maxL ret n) (hlink : Cond.methodLink own idx y ∈ zWW) (hn : as.length = n) (hR : fr + 1 ≤ R.frames ∧ 8 + (maxL + 11) + lo ≤ R.locals) (hcs : cells ≤ R.cells ∧ slots ≤ R.slots) (hst : (st.map za_cat).sum ≤ 8) (hd : decode cc pc = .ok (.invokevirtual idx, 3)) (kk : ∀ (σ' : za_S), P σ' → zV p l e R s m args below meth c E A nL cells slots Q (pc + 3) lv st σ') : zV p l e R s m args below meth c E A nL cells slots Q pc lv (as.reverse ++ za_O kd w :: st) σ := by
  intro H locs ls ho hs hP hS hl
  obtain ⟨ho1, ho2⟩ := za_oks hs
  have hpre := za_PreV G hk he hc hP hS ho1
  rw [za_stk hk]
  have hM1 : Met l y (.code y bytes maxL ret :: zWW) (zRm fr lo) (zPc E (za_O kd w :: as) σ) _ 0 0 (za_A E) := hM
  refine va_callv (va_runV (As := as.map (za_c E)) (rest := st.map (za_c E)) (n := n) ⟨G.1, G.2.1, G.2.2.1, G.2.2.2.1, G.2.2.2.2.1⟩ hM1 (cwV n G.2.2.2.2.1 (za_goodV K hlink) rfl rfl rfl K.2.2.2.2 hR) hpre rfl ((List.length_map ..).trans hn) hl.1 rfl (lv_room (za_cats st hst)) hd hcs) hS (fun q _ h => G.2.2.2.2.2.2.1 q h) G.2.2.2.2.2.2.1 (fun u t H1 locs1 ht _ hp hB _ _ hS1 => ?_)
  exact kk u hp H1 locs1 ls ho ho2 (by rw [← ht]; exact hB) hS1 hl
theorem zv_callVNv (G : zC p s m args meth c cc own nL E A) {kd w ci N idx maxL n fr lo : Nat} {C : String} {T : u_T} {fs : List Value} {host : String} {y : MethodName} {bytes : ByteArray} {ret : Option FieldType} {as : List za_V} {P : za_S → Prop} (hk : kd < 50) (he : za_e E (σ.1 w) (σ.2 w) kd w = .inr (ci, fs)) (hc : vwCl[ci]? = some (C, T, N)) (hM : zMv l E y bytes maxL ret fr lo (za_O kd w :: as) σ P) (K : zKV y C bytes maxL ret n) (hlink : Cond.methodLinkNest own idx y host ∈ zNN) (hn : as.length = n) (hR : fr + 1 ≤ R.frames ∧ 8 + (maxL + 11) + lo ≤ R.locals) (hcs : cells ≤ R.cells ∧ slots ≤ R.slots) (hst : (st.map za_cat).sum ≤ 8) (hd : decode cc pc = .ok (.invokevirtual idx, 3)) (kk : ∀ (σ' : za_S), P σ' → zV p l e R s m args below meth c E A nL cells slots Q (pc + 3) lv st σ') : zV p l e R s m args below meth c E A nL cells slots Q pc lv (as.reverse ++ za_O kd w :: st) σ := by
  intro H locs ls ho hs hP hS hl
  obtain ⟨ho1, ho2⟩ := za_oks hs
  have hpre := za_PreV G hk he hc hP hS ho1
  rw [za_stk hk]
  have hM1 : Met l y (.code y bytes maxL ret :: zWW) (zRm fr lo) (zPc E (za_O kd w :: as) σ) _ 0 0 (za_A E) := hM
  refine va_callv (va_runVN (As := as.map (za_c E)) (rest := st.map (za_c E)) (n := n) ⟨G.1, G.2.1, G.2.2.1, G.2.2.2.1, G.2.2.2.2.1⟩ hM1 ⟨va_cnB n G.2.2.2.2.1 (za_goodC K.2.2.2.1) rfl rfl rfl (G.2.2.2.2.2.1.2.1 _ hlink) (by rw [K.2.2.2.2.1]; exact G.2.2.2.2.1 _ K.2.2.1) K.2.2.2.2.2 hR, G.2.2.2.2.1 _ K.1, G.2.2.2.2.1 _ K.2.1⟩ hpre rfl ((List.length_map ..).trans hn) hl.1 rfl (lv_room (za_cats st hst)) hd hcs) hS (fun q _ h => G.2.2.2.2.2.2.1 q h) G.2.2.2.2.2.2.1 (fun u t H1 locs1 ht _ hp hB _ _ hS1 => ?_)
  exact kk u hp H1 locs1 ls ho ho2 (by rw [← ht]; exact hB) hS1 hl
theorem zv_callSv (G : zC p s m args meth c cc own nL E A) {idx maxL n fr lo : Nat} {y : MethodName} {bytes : ByteArray} {ret : Option FieldType} {as : List za_V} {P : za_S → Prop} (hM : zMv l E y bytes maxL ret fr lo as σ P) (K : zKS y bytes maxL ret n) (hlink : Cond.methodLink own idx y ∈ zWW) (hn : as.length = n) (hR : fr + 1 ≤ R.frames ∧ 8 + (maxL + 11) + lo ≤ R.locals) (hcs : cells ≤ R.cells ∧ slots ≤ R.slots) (hst : (st.map za_cat).sum ≤ 8) (hd : decode cc pc = .ok (.invokestatic idx, 3)) (kk : ∀ (σ' : za_S), P σ' → zV p l e R s m args below meth c E A nL cells slots Q (pc + 3) lv st σ') : zV p l e R s m args below meth c E A nL cells slots Q pc lv (as.reverse ++ st) σ := by
  intro H locs ls ho hs hP hS hl
  obtain ⟨ho1, ho2⟩ := za_oksS hs
  have hpre := za_PreS G hP hS ho1
  rw [za_stkS]
  have hM1 : Met l y (.code y bytes maxL ret :: zWW) (zRm fr lo) (zPc E as σ) _ 0 0 (za_A E) := hM
  refine va_callv (va_runS (As := as.map (za_c E)) (rest := st.map (za_c E)) (n := n) ⟨G.1, G.2.1, G.2.2.1, G.2.2.2.1, G.2.2.2.2.1⟩ hM1 ⟨callB_of n G.2.2.2.2.1 (za_goodC K.2.2.1) rfl rfl rfl (G.2.2.2.2.1 _ K.2.1) (G.2.2.2.2.1 _ hlink) K.2.2.2 hR, G.2.2.2.2.1 _ K.1⟩ hpre rfl ((List.length_map ..).trans hn) hl.1 rfl (lv_room (za_cats st hst)) hd hcs) hS (fun q _ h => G.2.2.2.2.2.2.1 q h) G.2.2.2.2.2.2.1 (fun u t H1 locs1 ht _ hp hB _ _ hS1 => ?_)
  exact kk u hp H1 locs1 ls ho ho2 (by rw [← ht]; exact hB) hS1 hl
theorem zv_callSNv (G : zC p s m args meth c cc own nL E A) {idx maxL n fr lo : Nat} {host : String} {y : MethodName} {bytes : ByteArray} {ret : Option FieldType} {as : List za_V} {P : za_S → Prop} (hM : zMv l E y bytes maxL ret fr lo as σ P) (K : zKS y bytes maxL ret n) (hlink : Cond.methodLinkNest own idx y host ∈ zNN) (hn : as.length = n) (hR : fr + 1 ≤ R.frames ∧ 8 + (maxL + 11) + lo ≤ R.locals) (hcs : cells ≤ R.cells ∧ slots ≤ R.slots) (hst : (st.map za_cat).sum ≤ 8) (hd : decode cc pc = .ok (.invokestatic idx, 3)) (kk : ∀ (σ' : za_S), P σ' → zV p l e R s m args below meth c E A nL cells slots Q (pc + 3) lv st σ') : zV p l e R s m args below meth c E A nL cells slots Q pc lv (as.reverse ++ st) σ := by
  intro H locs ls ho hs hP hS hl
  obtain ⟨ho1, ho2⟩ := za_oksS hs
  have hpre := za_PreS G hP hS ho1
  rw [za_stkS]
  have hM1 : Met l y (.code y bytes maxL ret :: zWW) (zRm fr lo) (zPc E as σ) _ 0 0 (za_A E) := hM
  refine va_callv (va_runSN (As := as.map (za_c E)) (rest := st.map (za_c E)) (n := n) ⟨G.1, G.2.1, G.2.2.1, G.2.2.2.1, G.2.2.2.2.1⟩ hM1 ⟨va_cnB n G.2.2.2.2.1 (za_goodC K.2.2.1) rfl rfl rfl (G.2.2.2.2.2.1.2.1 _ hlink) (G.2.2.2.2.1 _ K.2.1) K.2.2.2 hR, G.2.2.2.2.1 _ K.1, trivial⟩ hpre rfl ((List.length_map ..).trans hn) hl.1 rfl (lv_room (za_cats st hst)) hd hcs) hS (fun q _ h => G.2.2.2.2.2.2.1 q h) G.2.2.2.2.2.2.1 (fun u t H1 locs1 ht _ hp hB _ _ hS1 => ?_)
  exact kk u hp H1 locs1 ls ho ho2 (by rw [← ht]; exact hB) hS1 hl
theorem zv_callVr (G : zC p s m args meth c cc own nL E A) {kd w ci N idx maxL n fr lo : Nat} {C : String} {T : u_T} {fs : List Value} {y : MethodName} {bytes : ByteArray} {ret : Option FieldType} {as : List za_V} {P : za_V → za_S → Prop} (hk : kd < 50) (he : za_e E (σ.1 w) (σ.2 w) kd w = .inr (ci, fs)) (hc : vwCl[ci]? = some (C, T, N)) (hM : zMr l E y bytes maxL ret fr lo (za_O kd w :: as) σ P) (K : zKV y C bytes maxL ret n) (hlink : Cond.methodLink own idx y ∈ zWW) (hn : as.length = n) (hR : fr + 1 ≤ R.frames ∧ 8 + (maxL + 11) + lo ≤ R.locals) (hcs : cells ≤ R.cells ∧ slots ≤ R.slots) (hst : (st.map za_cat).sum ≤ 8) (hd : decode cc pc = .ok (.invokevirtual idx, 3)) (kk : ∀ (r : za_V) (σ' : za_S), P r σ' → zV p l e R s m args below meth c E A nL cells slots Q (pc + 3) lv (r :: st) σ') : zV p l e R s m args below meth c E A nL cells slots Q pc lv (as.reverse ++ za_O kd w :: st) σ := by
  intro H locs ls ho hs hP hS hl
  obtain ⟨ho1, ho2⟩ := za_oks hs
  have hpre := za_PreV G hk he hc hP hS ho1
  rw [za_stk hk]
  have hM1 : Met l y (.code y bytes maxL ret :: zWW) (zRm fr lo) (zPc E (za_O kd w :: as) σ) _ 0 0 (za_A E) := hM
  refine va_callr (va_runV (As := as.map (za_c E)) (rest := st.map (za_c E)) (n := n) ⟨G.1, G.2.1, G.2.2.1, G.2.2.2.1, G.2.2.2.2.1⟩ hM1 (cwV n G.2.2.2.2.1 (za_goodV K hlink) rfl rfl rfl K.2.2.2.2 hR) hpre rfl ((List.length_map ..).trans hn) hl.1 rfl (lv_room (za_cats st hst)) hd hcs) hS (fun q _ h => G.2.2.2.2.2.2.1 q h) G.2.2.2.2.2.2.1 (fun u ra t H1 locs1 ht _ hp hB _ _ hS1 => ?_)
  have h9 := kk u.1 u.2 hp H1 locs1 ls ho (za_fm hB.2.1 ho2) (by rw [← ht]; exact hB.2.2) hS1 hl
  rw [List.map_cons, hB.1] at h9
  exact h9
theorem zv_callVNr (G : zC p s m args meth c cc own nL E A) {kd w ci N idx maxL n fr lo : Nat} {C : String} {T : u_T} {fs : List Value} {host : String} {y : MethodName} {bytes : ByteArray} {ret : Option FieldType} {as : List za_V} {P : za_V → za_S → Prop} (hk : kd < 50) (he : za_e E (σ.1 w) (σ.2 w) kd w = .inr (ci, fs)) (hc : vwCl[ci]? = some (C, T, N)) (hM : zMr l E y bytes maxL ret fr lo (za_O kd w :: as) σ P) (K : zKV y C bytes maxL ret n) (hlink : Cond.methodLinkNest own idx y host ∈ zNN) (hn : as.length = n) (hR : fr + 1 ≤ R.frames ∧ 8 + (maxL + 11) + lo ≤ R.locals) (hcs : cells ≤ R.cells ∧ slots ≤ R.slots) (hst : (st.map za_cat).sum ≤ 8) (hd : decode cc pc = .ok (.invokevirtual idx, 3)) (kk : ∀ (r : za_V) (σ' : za_S), P r σ' → zV p l e R s m args below meth c E A nL cells slots Q (pc + 3) lv (r :: st) σ') : zV p l e R s m args below meth c E A nL cells slots Q pc lv (as.reverse ++ za_O kd w :: st) σ := by
  intro H locs ls ho hs hP hS hl
  obtain ⟨ho1, ho2⟩ := za_oks hs
  have hpre := za_PreV G hk he hc hP hS ho1
  rw [za_stk hk]
  have hM1 : Met l y (.code y bytes maxL ret :: zWW) (zRm fr lo) (zPc E (za_O kd w :: as) σ) _ 0 0 (za_A E) := hM
  refine va_callr (va_runVN (As := as.map (za_c E)) (rest := st.map (za_c E)) (n := n) ⟨G.1, G.2.1, G.2.2.1, G.2.2.2.1, G.2.2.2.2.1⟩ hM1 ⟨va_cnB n G.2.2.2.2.1 (za_goodC K.2.2.2.1) rfl rfl rfl (G.2.2.2.2.2.1.2.1 _ hlink) (by rw [K.2.2.2.2.1]; exact G.2.2.2.2.1 _ K.2.2.1) K.2.2.2.2.2 hR, G.2.2.2.2.1 _ K.1, G.2.2.2.2.1 _ K.2.1⟩ hpre rfl ((List.length_map ..).trans hn) hl.1 rfl (lv_room (za_cats st hst)) hd hcs) hS (fun q _ h => G.2.2.2.2.2.2.1 q h) G.2.2.2.2.2.2.1 (fun u ra t H1 locs1 ht _ hp hB _ _ hS1 => ?_)
  have h9 := kk u.1 u.2 hp H1 locs1 ls ho (za_fm hB.2.1 ho2) (by rw [← ht]; exact hB.2.2) hS1 hl
  rw [List.map_cons, hB.1] at h9
  exact h9
theorem zv_callSr (G : zC p s m args meth c cc own nL E A) {idx maxL n fr lo : Nat} {y : MethodName} {bytes : ByteArray} {ret : Option FieldType} {as : List za_V} {P : za_V → za_S → Prop} (hM : zMr l E y bytes maxL ret fr lo as σ P) (K : zKS y bytes maxL ret n) (hlink : Cond.methodLink own idx y ∈ zWW) (hn : as.length = n) (hR : fr + 1 ≤ R.frames ∧ 8 + (maxL + 11) + lo ≤ R.locals) (hcs : cells ≤ R.cells ∧ slots ≤ R.slots) (hst : (st.map za_cat).sum ≤ 8) (hd : decode cc pc = .ok (.invokestatic idx, 3)) (kk : ∀ (r : za_V) (σ' : za_S), P r σ' → zV p l e R s m args below meth c E A nL cells slots Q (pc + 3) lv (r :: st) σ') : zV p l e R s m args below meth c E A nL cells slots Q pc lv (as.reverse ++ st) σ := by
  intro H locs ls ho hs hP hS hl
  obtain ⟨ho1, ho2⟩ := za_oksS hs
  have hpre := za_PreS G hP hS ho1
  rw [za_stkS]
  have hM1 : Met l y (.code y bytes maxL ret :: zWW) (zRm fr lo) (zPc E as σ) _ 0 0 (za_A E) := hM
  refine va_callr (va_runS (As := as.map (za_c E)) (rest := st.map (za_c E)) (n := n) ⟨G.1, G.2.1, G.2.2.1, G.2.2.2.1, G.2.2.2.2.1⟩ hM1 ⟨callB_of n G.2.2.2.2.1 (za_goodC K.2.2.1) rfl rfl rfl (G.2.2.2.2.1 _ K.2.1) (G.2.2.2.2.1 _ hlink) K.2.2.2 hR, G.2.2.2.2.1 _ K.1⟩ hpre rfl ((List.length_map ..).trans hn) hl.1 rfl (lv_room (za_cats st hst)) hd hcs) hS (fun q _ h => G.2.2.2.2.2.2.1 q h) G.2.2.2.2.2.2.1 (fun u ra t H1 locs1 ht _ hp hB _ _ hS1 => ?_)
  have h9 := kk u.1 u.2 hp H1 locs1 ls ho (za_fm hB.2.1 ho2) (by rw [← ht]; exact hB.2.2) hS1 hl
  rw [List.map_cons, hB.1] at h9
  exact h9
theorem zv_callSNr (G : zC p s m args meth c cc own nL E A) {idx maxL n fr lo : Nat} {host : String} {y : MethodName} {bytes : ByteArray} {ret : Option FieldType} {as : List za_V} {P : za_V → za_S → Prop} (hM : zMr l E y bytes maxL ret fr lo as σ P) (K : zKS y bytes maxL ret n) (hlink : Cond.methodLinkNest own idx y host ∈ zNN) (hn : as.length = n) (hR : fr + 1 ≤ R.frames ∧ 8 + (maxL + 11) + lo ≤ R.locals) (hcs : cells ≤ R.cells ∧ slots ≤ R.slots) (hst : (st.map za_cat).sum ≤ 8) (hd : decode cc pc = .ok (.invokestatic idx, 3)) (kk : ∀ (r : za_V) (σ' : za_S), P r σ' → zV p l e R s m args below meth c E A nL cells slots Q (pc + 3) lv (r :: st) σ') : zV p l e R s m args below meth c E A nL cells slots Q pc lv (as.reverse ++ st) σ := by
  intro H locs ls ho hs hP hS hl
  obtain ⟨ho1, ho2⟩ := za_oksS hs
  have hpre := za_PreS G hP hS ho1
  rw [za_stkS]
  have hM1 : Met l y (.code y bytes maxL ret :: zWW) (zRm fr lo) (zPc E as σ) _ 0 0 (za_A E) := hM
  refine va_callr (va_runSN (As := as.map (za_c E)) (rest := st.map (za_c E)) (n := n) ⟨G.1, G.2.1, G.2.2.1, G.2.2.2.1, G.2.2.2.2.1⟩ hM1 ⟨va_cnB n G.2.2.2.2.1 (za_goodC K.2.2.1) rfl rfl rfl (G.2.2.2.2.2.1.2.1 _ hlink) (G.2.2.2.2.1 _ K.2.1) K.2.2.2 hR, G.2.2.2.2.1 _ K.1, trivial⟩ hpre rfl ((List.length_map ..).trans hn) hl.1 rfl (lv_room (za_cats st hst)) hd hcs) hS (fun q _ h => G.2.2.2.2.2.2.1 q h) G.2.2.2.2.2.2.1 (fun u ra t H1 locs1 ht _ hp hB _ _ hS1 => ?_)
  have h9 := kk u.1 u.2 hp H1 locs1 ls ho (za_fm hB.2.1 ho2) (by rw [← ht]; exact hB.2.2) hS1 hl
  rw [List.map_cons, hB.1] at h9
  exact h9
theorem zMi_of {y : MethodName} {maxL fr lo : Nat} {ret : Option FieldType} {as : List za_V} {P : Int32 → za_S → Prop} (lv : List (Nat × za_V)) (hy : plainName y.cls = true) (hargs : lv_args 0 (as.map (za_c E)) = lv.map fun q => (q.1, za_c E q.2)) (has : lv.map (fun q => q.2) = as) (hlen : (as.map za_cat).sum ≤ maxL)
    (body : (∀ v ∈ as, za_ok v) → ∀ (p : Program) (e : Env) (s : State) (m : MethodId) (args : Array Value) (below : List Frame) (meth : Method) (c : Code), zC p s m args meth c cc y.cls maxL E (za_A E) → meth.sig.returnType = ret → zV p l e (zRm fr lo) s m args below meth c E (za_A E) maxL 0 0 (MQ below (va_Qi P (zB E) (za_A E)) args s 0 0 (za_A E)) 0 lv [] σ) : zMi l E y cc maxL ret fr lo as σ P := by
  refine Met.ofW (cc := cc) (maxL := maxL) (ret := ret) hy rfl ?_
  intro p e s m args below meth c s₁ B hml hv
  obtain ⟨rfl, hoas, hP, hY⟩ := hv
  have hts := atoms_spec (ws := .code y cc maxL ret :: zWW) B.pre
  have hown : s.vm.findClass y.cls = some m.cls := findClass_of_methodNamed B.named
  rw [lg_entry_eq]
  have hl := lv_entry (as.map (za_c E)) (n := maxL) (by rw [za_lgl]; exact hlen)
  rw [hargs] at hl
  exact body hoas p e s m _ below meth c ⟨B.exec, B.bytes, hml, hown, fun w hw => hts w (List.mem_cons_of_mem _ hw), hY, fun _ h => h, fun _ _ h => h, B.notSynchronized⟩ B.returns s.heap [] _ (fun q hq => hoas q.2 (by rw [← has]; exact List.mem_map.mpr ⟨q, hq, rfl⟩)) (fun v h => nomatch h) hP va_S.rf hl
theorem zMl_of {y : MethodName} {maxL fr lo : Nat} {ret : Option FieldType} {as : List za_V} {P : Int64 → za_S → Prop} (lv : List (Nat × za_V)) (hy : plainName y.cls = true) (hargs : lv_args 0 (as.map (za_c E)) = lv.map fun q => (q.1, za_c E q.2)) (has : lv.map (fun q => q.2) = as) (hlen : (as.map za_cat).sum ≤ maxL)
    (body : (∀ v ∈ as, za_ok v) → ∀ (p : Program) (e : Env) (s : State) (m : MethodId) (args : Array Value) (below : List Frame) (meth : Method) (c : Code), zC p s m args meth c cc y.cls maxL E (za_A E) → meth.sig.returnType = ret → zV p l e (zRm fr lo) s m args below meth c E (za_A E) maxL 0 0 (MQ below (va_Ql P (zB E) (za_A E)) args s 0 0 (za_A E)) 0 lv [] σ) : zMl l E y cc maxL ret fr lo as σ P := by
  refine Met.ofW (cc := cc) (maxL := maxL) (ret := ret) hy rfl ?_
  intro p e s m args below meth c s₁ B hml hv
  obtain ⟨rfl, hoas, hP, hY⟩ := hv
  have hts := atoms_spec (ws := .code y cc maxL ret :: zWW) B.pre
  have hown : s.vm.findClass y.cls = some m.cls := findClass_of_methodNamed B.named
  rw [lg_entry_eq]
  have hl := lv_entry (as.map (za_c E)) (n := maxL) (by rw [za_lgl]; exact hlen)
  rw [hargs] at hl
  exact body hoas p e s m _ below meth c ⟨B.exec, B.bytes, hml, hown, fun w hw => hts w (List.mem_cons_of_mem _ hw), hY, fun _ h => h, fun _ _ h => h, B.notSynchronized⟩ B.returns s.heap [] _ (fun q hq => hoas q.2 (by rw [← has]; exact List.mem_map.mpr ⟨q, hq, rfl⟩)) (fun v h => nomatch h) hP va_S.rf hl
theorem zMv_of {y : MethodName} {maxL fr lo : Nat} {ret : Option FieldType} {as : List za_V} {P : za_S → Prop} (lv : List (Nat × za_V)) (hy : plainName y.cls = true) (hargs : lv_args 0 (as.map (za_c E)) = lv.map fun q => (q.1, za_c E q.2)) (has : lv.map (fun q => q.2) = as) (hlen : (as.map za_cat).sum ≤ maxL)
    (body : (∀ v ∈ as, za_ok v) → ∀ (p : Program) (e : Env) (s : State) (m : MethodId) (args : Array Value) (below : List Frame) (meth : Method) (c : Code), zC p s m args meth c cc y.cls maxL E (za_A E) → meth.sig.returnType = ret → zV p l e (zRm fr lo) s m args below meth c E (za_A E) maxL 0 0 (MQ below (va_Qv P (zB E) (za_A E)) args s 0 0 (za_A E)) 0 lv [] σ) : zMv l E y cc maxL ret fr lo as σ P := by
  refine Met.ofW (cc := cc) (maxL := maxL) (ret := ret) hy rfl ?_
  intro p e s m args below meth c s₁ B hml hv
  obtain ⟨rfl, hoas, hP, hY⟩ := hv
  have hts := atoms_spec (ws := .code y cc maxL ret :: zWW) B.pre
  have hown : s.vm.findClass y.cls = some m.cls := findClass_of_methodNamed B.named
  rw [lg_entry_eq]
  have hl := lv_entry (as.map (za_c E)) (n := maxL) (by rw [za_lgl]; exact hlen)
  rw [hargs] at hl
  exact body hoas p e s m _ below meth c ⟨B.exec, B.bytes, hml, hown, fun w hw => hts w (List.mem_cons_of_mem _ hw), hY, fun _ h => h, fun _ _ h => h, B.notSynchronized⟩ B.returns s.heap [] _ (fun q hq => hoas q.2 (by rw [← has]; exact List.mem_map.mpr ⟨q, hq, rfl⟩)) (fun v h => nomatch h) hP va_S.rf hl
theorem zMr_of {y : MethodName} {maxL fr lo : Nat} {ret : Option FieldType} {as : List za_V} {P : za_V → za_S → Prop} (lv : List (Nat × za_V)) (hy : plainName y.cls = true) (hargs : lv_args 0 (as.map (za_c E)) = lv.map fun q => (q.1, za_c E q.2)) (has : lv.map (fun q => q.2) = as) (hlen : (as.map za_cat).sum ≤ maxL)
    (body : (∀ v ∈ as, za_ok v) → ∀ (p : Program) (e : Env) (s : State) (m : MethodId) (args : Array Value) (below : List Frame) (meth : Method) (c : Code), zC p s m args meth c cc y.cls maxL E (za_A E) → meth.sig.returnType = ret → zV p l e (zRm fr lo) s m args below meth c E (za_A E) maxL 0 0 (MQ below (va_Qr (zRp P) (zRB E) (za_A E)) args s 0 0 (za_A E)) 0 lv [] σ) : zMr l E y cc maxL ret fr lo as σ P := by
  refine Met.ofW (cc := cc) (maxL := maxL) (ret := ret) hy rfl ?_
  intro p e s m args below meth c s₁ B hml hv
  obtain ⟨rfl, hoas, hP, hY⟩ := hv
  have hts := atoms_spec (ws := .code y cc maxL ret :: zWW) B.pre
  have hown : s.vm.findClass y.cls = some m.cls := findClass_of_methodNamed B.named
  rw [lg_entry_eq]
  have hl := lv_entry (as.map (za_c E)) (n := maxL) (by rw [za_lgl]; exact hlen)
  rw [hargs] at hl
  exact body hoas p e s m _ below meth c ⟨B.exec, B.bytes, hml, hown, fun w hw => hts w (List.mem_cons_of_mem _ hw), hY, fun _ h => h, fun _ _ h => h, B.notSynchronized⟩ B.returns s.heap [] _ (fun q hq => hoas q.2 (by rw [← has]; exact List.mem_map.mpr ⟨q, hq, rfl⟩)) (fun v h => nomatch h) hP va_S.rf hl
theorem zMiF_of {y : MethodName} {maxL fr lo : Nat} {ret : Option FieldType} {as : List za_V} {P : Int32 → za_S → Prop} (lv : List (Nat × za_V)) (hy : plainFor y = true) (hargs : lv_args 0 (as.map (za_c E)) = lv.map fun q => (q.1, za_c E q.2)) (has : lv.map (fun q => q.2) = as) (hlen : (as.map za_cat).sum ≤ maxL)
    (body : (∀ v ∈ as, za_ok v) → ∀ (p : Program) (e : Env) (s : State) (m : MethodId) (args : Array Value) (below : List Frame) (meth : Method) (c : Code), zC p s m args meth c cc y.cls maxL E (za_A E) → meth.sig.returnType = ret → zV p l e (zRm fr lo) s m args below meth c E (za_A E) maxL 0 0 (MQ below (va_Qi P (zB E) (za_A E)) args s 0 0 (za_A E)) 0 lv [] σ) : zMi l E y cc maxL ret fr lo as σ P := by
  refine va_MetF (cc := cc) (maxL := maxL) (ret := ret) hy rfl ?_
  intro p e s m args below meth c s₁ B hml hv
  obtain ⟨rfl, hoas, hP, hY⟩ := hv
  have hts := atoms_spec (ws := .code y cc maxL ret :: zWW) B.pre
  have hown : s.vm.findClass y.cls = some m.cls := findClass_of_methodNamed B.named
  rw [lg_entry_eq]
  have hl := lv_entry (as.map (za_c E)) (n := maxL) (by rw [za_lgl]; exact hlen)
  rw [hargs] at hl
  exact body hoas p e s m _ below meth c ⟨B.exec, B.bytes, hml, hown, fun w hw => hts w (List.mem_cons_of_mem _ hw), hY, fun _ h => h, fun _ _ h => h, B.notSynchronized⟩ B.returns s.heap [] _ (fun q hq => hoas q.2 (by rw [← has]; exact List.mem_map.mpr ⟨q, hq, rfl⟩)) (fun v h => nomatch h) hP va_S.rf hl
theorem zMlF_of {y : MethodName} {maxL fr lo : Nat} {ret : Option FieldType} {as : List za_V} {P : Int64 → za_S → Prop} (lv : List (Nat × za_V)) (hy : plainFor y = true) (hargs : lv_args 0 (as.map (za_c E)) = lv.map fun q => (q.1, za_c E q.2)) (has : lv.map (fun q => q.2) = as) (hlen : (as.map za_cat).sum ≤ maxL)
    (body : (∀ v ∈ as, za_ok v) → ∀ (p : Program) (e : Env) (s : State) (m : MethodId) (args : Array Value) (below : List Frame) (meth : Method) (c : Code), zC p s m args meth c cc y.cls maxL E (za_A E) → meth.sig.returnType = ret → zV p l e (zRm fr lo) s m args below meth c E (za_A E) maxL 0 0 (MQ below (va_Ql P (zB E) (za_A E)) args s 0 0 (za_A E)) 0 lv [] σ) : zMl l E y cc maxL ret fr lo as σ P := by
  refine va_MetF (cc := cc) (maxL := maxL) (ret := ret) hy rfl ?_
  intro p e s m args below meth c s₁ B hml hv
  obtain ⟨rfl, hoas, hP, hY⟩ := hv
  have hts := atoms_spec (ws := .code y cc maxL ret :: zWW) B.pre
  have hown : s.vm.findClass y.cls = some m.cls := findClass_of_methodNamed B.named
  rw [lg_entry_eq]
  have hl := lv_entry (as.map (za_c E)) (n := maxL) (by rw [za_lgl]; exact hlen)
  rw [hargs] at hl
  exact body hoas p e s m _ below meth c ⟨B.exec, B.bytes, hml, hown, fun w hw => hts w (List.mem_cons_of_mem _ hw), hY, fun _ h => h, fun _ _ h => h, B.notSynchronized⟩ B.returns s.heap [] _ (fun q hq => hoas q.2 (by rw [← has]; exact List.mem_map.mpr ⟨q, hq, rfl⟩)) (fun v h => nomatch h) hP va_S.rf hl
theorem zMvF_of {y : MethodName} {maxL fr lo : Nat} {ret : Option FieldType} {as : List za_V} {P : za_S → Prop} (lv : List (Nat × za_V)) (hy : plainFor y = true) (hargs : lv_args 0 (as.map (za_c E)) = lv.map fun q => (q.1, za_c E q.2)) (has : lv.map (fun q => q.2) = as) (hlen : (as.map za_cat).sum ≤ maxL)
    (body : (∀ v ∈ as, za_ok v) → ∀ (p : Program) (e : Env) (s : State) (m : MethodId) (args : Array Value) (below : List Frame) (meth : Method) (c : Code), zC p s m args meth c cc y.cls maxL E (za_A E) → meth.sig.returnType = ret → zV p l e (zRm fr lo) s m args below meth c E (za_A E) maxL 0 0 (MQ below (va_Qv P (zB E) (za_A E)) args s 0 0 (za_A E)) 0 lv [] σ) : zMv l E y cc maxL ret fr lo as σ P := by
  refine va_MetF (cc := cc) (maxL := maxL) (ret := ret) hy rfl ?_
  intro p e s m args below meth c s₁ B hml hv
  obtain ⟨rfl, hoas, hP, hY⟩ := hv
  have hts := atoms_spec (ws := .code y cc maxL ret :: zWW) B.pre
  have hown : s.vm.findClass y.cls = some m.cls := findClass_of_methodNamed B.named
  rw [lg_entry_eq]
  have hl := lv_entry (as.map (za_c E)) (n := maxL) (by rw [za_lgl]; exact hlen)
  rw [hargs] at hl
  exact body hoas p e s m _ below meth c ⟨B.exec, B.bytes, hml, hown, fun w hw => hts w (List.mem_cons_of_mem _ hw), hY, fun _ h => h, fun _ _ h => h, B.notSynchronized⟩ B.returns s.heap [] _ (fun q hq => hoas q.2 (by rw [← has]; exact List.mem_map.mpr ⟨q, hq, rfl⟩)) (fun v h => nomatch h) hP va_S.rf hl
theorem zMrF_of {y : MethodName} {maxL fr lo : Nat} {ret : Option FieldType} {as : List za_V} {P : za_V → za_S → Prop} (lv : List (Nat × za_V)) (hy : plainFor y = true) (hargs : lv_args 0 (as.map (za_c E)) = lv.map fun q => (q.1, za_c E q.2)) (has : lv.map (fun q => q.2) = as) (hlen : (as.map za_cat).sum ≤ maxL)
    (body : (∀ v ∈ as, za_ok v) → ∀ (p : Program) (e : Env) (s : State) (m : MethodId) (args : Array Value) (below : List Frame) (meth : Method) (c : Code), zC p s m args meth c cc y.cls maxL E (za_A E) → meth.sig.returnType = ret → zV p l e (zRm fr lo) s m args below meth c E (za_A E) maxL 0 0 (MQ below (va_Qr (zRp P) (zRB E) (za_A E)) args s 0 0 (za_A E)) 0 lv [] σ) : zMr l E y cc maxL ret fr lo as σ P := by
  refine va_MetF (cc := cc) (maxL := maxL) (ret := ret) hy rfl ?_
  intro p e s m args below meth c s₁ B hml hv
  obtain ⟨rfl, hoas, hP, hY⟩ := hv
  have hts := atoms_spec (ws := .code y cc maxL ret :: zWW) B.pre
  have hown : s.vm.findClass y.cls = some m.cls := findClass_of_methodNamed B.named
  rw [lg_entry_eq]
  have hl := lv_entry (as.map (za_c E)) (n := maxL) (by rw [za_lgl]; exact hlen)
  rw [hargs] at hl
  exact body hoas p e s m _ below meth c ⟨B.exec, B.bytes, hml, hown, fun w hw => hts w (List.mem_cons_of_mem _ hw), hY, fun _ h => h, fun _ _ h => h, B.notSynchronized⟩ B.returns s.heap [] _ (fun q hq => hoas q.2 (by rw [← has]; exact List.mem_map.mpr ⟨q, hq, rfl⟩)) (fun v h => nomatch h) hP va_S.rf hl
theorem zv_iret (G : zC p s m args meth c cc own nL E (za_A E)) {P : Int32 → za_S → Prop} {x : Int32} (hr : meth.sig.returnType = some .int) (hd : decode cc pc = .ok (.ireturn, 1)) (hp : P x σ) : zV p l e R s m args below meth c E (za_A E) nL 0 0 (MQ below (va_Qi P (zB E) (za_A E)) args s 0 0 (za_A E)) pc lv [za_I x] σ := by
  intro H locs ls ho hs hP hS hl
  exact W.iret G.1 G.2.1 hr (fun t ht hW => ⟨⟨x, σ, rfl, hp, by show va_P _ _ _ t.heap; rw [ht]; exact hP⟩, hS.F ht⟩) hS.2.2 hd G.2.2.2.2.2.2.2.2
theorem zv_zret (G : zC p s m args meth c cc own nL E (za_A E)) {P : Int32 → za_S → Prop} {x : Int32} {ty : FieldType} (hr : meth.sig.returnType = some ty) (hd : decode cc pc = .ok (.ireturn, 1)) (hn : narrow ty (.int x) = .int x) (hp : P x σ) : zV p l e R s m args below meth c E (za_A E) nL 0 0 (MQ below (va_Qi P (zB E) (za_A E)) args s 0 0 (za_A E)) pc lv [za_I x] σ := by
  intro H locs ls ho hs hP hS hl
  exact W.zret G.1 G.2.1 hr hn (fun t ht hW => ⟨⟨x, σ, rfl, hp, by show va_P _ _ _ t.heap; rw [ht]; exact hP⟩, hS.F ht⟩) hS.2.2 hd G.2.2.2.2.2.2.2.2
theorem zv_lret (G : zC p s m args meth c cc own nL E (za_A E)) {P : Int64 → za_S → Prop} {x : Int64} (hr : meth.sig.returnType = some .long) (hd : decode cc pc = .ok (.lreturn, 1)) (hp : P x σ) : zV p l e R s m args below meth c E (za_A E) nL 0 0 (MQ below (va_Ql P (zB E) (za_A E)) args s 0 0 (za_A E)) pc lv [za_L x] σ := by
  intro H locs ls ho hs hP hS hl
  exact W.lret G.1 G.2.1 hr (fun t ht hW => ⟨⟨x, σ, rfl, hp, by show va_P _ _ _ t.heap; rw [ht]; exact hP⟩, hS.F ht⟩) hS.2.2 hd G.2.2.2.2.2.2.2.2
theorem zv_vret (G : zC p s m args meth c cc own nL E (za_A E)) {P : za_S → Prop} (hr : meth.sig.returnType = none) (hd : decode cc pc = .ok (.return_, 1)) (hp : P σ) : zV p l e R s m args below meth c E (za_A E) nL 0 0 (MQ below (va_Qv P (zB E) (za_A E)) args s 0 0 (za_A E)) pc lv [] σ := by
  intro H locs ls ho hs hP hS hl
  exact W.vret G.1 G.2.1 hr (fun t ht hW => ⟨⟨σ, rfl, hp, by show va_P _ _ _ t.heap; rw [ht]; exact hP⟩, hS.F ht⟩) hS.2.2 hd G.2.2.2.2.2.2.2.2
theorem zv_aret (G : zC p s m args meth c cc own nL E (za_A E)) {P : za_V → za_S → Prop} {k w : Nat} {rt : FieldType} (hr : meth.sig.returnType = some rt) (hd : decode cc pc = .ok (.areturn, 1))  (hrt : (∃ n, rt = .object n) ∨ ∃ t, rt = .array t) (hp : P (za_O k w) σ) (h52 : k ≠ 52 := by decide) : zV p l e R s m args below meth c E (za_A E) nL 0 0 (MQ below (va_Qr (zRp P) (zRB E) (za_A E)) args s 0 0 (za_A E)) pc lv [za_O k w] σ := by
  intro H locs ls ho hs hP hS hl
  obtain ⟨a, ha⟩ := za_c_O E k w h52
  rw [List.map_cons, ha]
  exact W.aret G.1 G.2.1 hr hrt (Or.inr ⟨a, rfl⟩) (fun t ht hW => ⟨⟨(za_O k w, σ), a, rfl, hp, ha, hs _ List.mem_cons_self, by show va_P _ _ _ t.heap; rw [ht]; exact hP⟩, hS.F ht⟩) hS.2.2 hd G.2.2.2.2.2.2.2.2
end ZM
