/-! the world's making: cell after cell, at the addresses that follow -/
def zfn (E : za_E) (j : Nat) : va_E := za_e E (fun _ => 0) (fun _ => 0) (za_kd j) j
def zwf (E : za_E) (w n : Nat) (g : Nat → va_E) : va_W := (List.range n).map (fun j => (E.1 + (w + j), g (w + j)))
theorem zwf_len (E : za_E) (w n : Nat) (g : Nat → va_E) : (zwf E w n g).length = n := by
  unfold zwf
  rw [List.length_map, List.length_range]
theorem zwf_at {E : za_E} {w n k : Nat} {g : Nat → va_E} (h : k < n) : (zwf E w n g)[k]? = some (E.1 + (w + k), g (w + k)) := by
  unfold zwf
  rw [List.getElem?_map, List.getElem?_range h]
  rfl
theorem zwf_some {E : za_E} {w n k : Nat} {g : Nat → va_E} {q : Nat × va_E} (h : (zwf E w n g)[k]? = some q) : k < n ∧ q = (E.1 + (w + k), g (w + k)) := by
  have hk : k < n := by
    have h1 := (List.getElem?_eq_some_iff.mp h).1
    rw [zwf_len] at h1
    exact h1
  exact ⟨hk, (Option.some.inj ((zwf_at hk).symm.trans h)).symm⟩
theorem zwf_P {E : za_E} {w n : Nat} {g : Nat → va_E} {H : Heap} : va_P E.2.1 vwCl (zwf E w n g) H ↔ ∀ k, k < n → va_at E.2.1 vwCl (E.1 + (w + k), g (w + k)) H :=
  ⟨fun h k hk => h k _ (zwf_at hk), fun h k q hq => by
    obtain ⟨hk, rfl⟩ := zwf_some hq
    exact h k hk⟩
theorem zwf_D {E : za_E} {w n : Nat} {g : Nat → va_E} {A : Nat → Prop} (hA : ∀ q, E.1 + w ≤ q → A q) : va_D A (zwf E w n g) := by
  refine ⟨fun i j x y hi hj hxy => ?_, fun k q hq => ?_⟩
  · obtain ⟨-, rfl⟩ := zwf_some hi
    obtain ⟨-, rfl⟩ := zwf_some hj
    have h : E.1 + (w + i) = E.1 + (w + j) := hxy
    omega
  · obtain ⟨-, rfl⟩ := zwf_some hq
    exact hA _ (by show E.1 + w ≤ E.1 + (w + k); omega)
theorem zwf_set {E : za_E} {w n k : Nat} {g g' : Nat → va_E} {e : va_E} (hk : k < n) (h1 : ∀ j, j ≠ w + k → g' j = g j) (h2 : g' (w + k) = e) : (zwf E w n g).set k (E.1 + (w + k), e) = zwf E w n g' := by
  apply List.ext_getElem?
  intro i
  by_cases h : i = k
  · subst h
    rw [List.getElem?_set_self (by rw [zwf_len]; exact hk), zwf_at hk, h2]
  · rw [List.getElem?_set_ne (Ne.symm h)]
    by_cases hi : i < n
    · rw [zwf_at hi, zwf_at hi, h1 _ (by omega)]
    · rw [List.getElem?_eq_none (by rw [zwf_len]; omega), List.getElem?_eq_none (by rw [zwf_len]; omega)]
def zAA (U : State) : Prop := (Cond.arrayOver (.array .int)).before #[] U = true
theorem zAA.use {A : Array Value} {U : State} (h : zAA U) : (Cond.arrayOver (.array .int)).before A U = true := h
theorem zAA.of {A : Array Value} {U : State} (h : (Cond.arrayOver (.array .int)).before A U = true) : zAA U := h
theorem zAA.moved {u U : State} (hvm : u.vm.Alike U.vm) (h : zAA u) : zAA U := by
  obtain ⟨comp, c, k, h1, h2, h3, h4, h5⟩ := arrayOverA_spec h
  obtain ⟨k', hk', he⟩ := hvm.2.2 _ _ h3
  have hb : U.vm.bare = u.vm.bare := by first | exact hvm.bare_eq | exact hvm.bare_eq.symm
  have hb9 := va_idx_bare U.vm comp
  rw [hb] at hb9
  have hi : (U.vm.classes.findIdx? fun (x : Class) => match x.kind with | .array component _ => component == comp | _ => false) = some c := hb9.symm.trans ((va_idx_bare u.vm comp).trans h2)
  have hkind : k'.kind = .array comp (.array .int) := by rw [he]; exact h4
  have f1 : U.vm.findClass (FieldType.array .int).toString = some comp := by rw [hvm.findClass]; exact h1
  have f2 : U.vm.findClass ("[" ++ (FieldType.array .int).toString) = some c := by rw [hvm.findClass]; exact h5
  unfold zAA Cond.before Cond.holds
  simp only [Cond.value]
  rw [f1, Option.bind_some]
  refine (congrArg (fun o : Option Nat => (o.bind (fun c => (U.vm.classes[c]?).map fun (k : Class) => match k.kind with | .array _ ty => decide (ty = FieldType.array .int) && decide (U.vm.findClass ("[" ++ (FieldType.array .int).toString) = some c) | _ => false) == some true)) hi).trans ?_
  simp [hk', hkind, f2]
def zNE (E : za_E) (U : State) : Prop := va_K E.2.1 vwCl (za_tys E) U ∧ (∀ w ∈ zNN, va_Nw w U) ∧ va_AO "PeriodTables$State" U ∧ zAA U
theorem zNE_warm {E : za_E} {s U : State} (hW : s.WarmedH U.vm) (h : zNE E s) : zNE E U := ⟨va_K.moved hW.alike h.1, fun w hw => za_Nw_warm (List.mem_filter.mp hw).2 hW (h.2.1 w hw), va_AO.moved hW.alike h.2.2.1, zAA.moved hW.alike h.2.2.2⟩
theorem zNE_calling {E : za_E} {U : State} {g : JFrame} {mk : MethodId} {a : Array Value} (h : zNE E U) : zNE E (U.calling g mk a) :=
  ⟨va_K.moved (u := U) (U := U.calling g mk a) (Vm.Alike.refl U.vm) h.1, fun w hw => za_Nw_same (s := U) (U := U.calling g mk a) (List.mem_filter.mp hw).2 rfl (h.2.1 w hw), va_AO.moved (u := U) (U := U.calling g mk a) (Vm.Alike.refl U.vm) h.2.2.1, zAA.moved (u := U) (U := U.calling g mk a) (Vm.Alike.refl U.vm) h.2.2.2⟩
def zRn (fr lo k sl : Nat) : Room := { frames := fr, cells := k, slots := sl, locals := lo }
/-- a constructor of the object at w: it makes k cells more, and all of them are as they stay -/
def zMn (l : Launch) (E : za_E) (y : MethodName) (cc : ByteArray) (maxL fr lo w k sl ci : Nat) (fs : List Value) : Prop := Met l y (.code y cc maxL none :: zWW) (zRn fr lo k sl) (va_Pc [.ref (E.1 + w)] (fun U => U.heap.size = E.1 + w + 1 ∧ va_P E.2.1 vwCl [(E.1 + w, .inr (ci, fs))] U.heap ∧ zNE E U)) (va_Qv (fun _ : Unit => True) (fun _ t => va_P E.2.1 vwCl (zwf E w (k + 1) (zfn E)) t.heap) (fun q => E.1 + w ≤ q)) k sl (fun q => E.1 + w ≤ q)
def zH (p : Program) (s : State) (m : MethodId) (args : Array Value) (meth : Method) (c : Code) (cc : ByteArray) (own : String) (nL : Nat) (E : za_E) (A : Nat → Prop) (w : Nat) : Prop :=
  p.tables.exec = Jvm.exec ∧ c.code = cc ∧ c.maxLocals = nL ∧ s.vm.findClass own = some m.cls ∧ (∀ x ∈ zWW, x.before args s = true) ∧ zNE E s ∧ (∀ q, E.1 + w ≤ q → A q) ∧ meth.locks = false ∧ E.1 + w ≤ s.heap.size
def zN (p : Program) (l : Launch) (e : Env) (R : Room) (s : State) (m : MethodId) (args : Array Value) (below : List Frame) (meth : Method) (c : Code) (E : za_E) (A : Nat → Prop) (nL cells slots : Nat) (Q : State → Prop) (pc : Nat) (lv : List (Nat × Value)) (st : List Value) (w n : Nat) (g : Nat → va_E) : Prop :=
  ∀ (H : Heap) (locs : List Loc) (ls : Array Slot), va_P E.2.1 vwCl (zwf E w n g) H → va_S A s.heap H locs → lv_has ls nL lv → W p l e R s m args below meth c H locs cells slots Q (F0 m pc ls st)
theorem zqf {cA : ClassId} {n : Nat} {f f' : Nat → Option Nat} (h : ∀ j, j < n → f' j = f j) : vp_cell cA (n, .inr (.inr (.inr (.inr f')))) = vp_cell cA (n, .inr (.inr (.inr (.inr f)))) := by
  rw [vp_cell_q, vp_cell_q]
  unfold arrV
  congr 2
  funext j
  show va_rf (f' j.val) = va_rf (f j.val)
  rw [h j.val j.isLt]
theorem zv_outer (c : ClassId) (N h0 : Nat) : ∀ i : Nat, Jvm.Free.Multi.outerC c N h0 i = arrV c N (fun j => va_rf (if j < i then some (h0 + 1 + j) else none))
  | 0 => by
    show ({ cls := c, slots := Array.replicate N .null, vm := .none } : Cell) = _
    rw [arrV_new]
    refine congrArg (arrV c N) (funext fun j => ?_)
    simp [va_rf]
  | i + 1 => by
    show (Jvm.Free.Multi.outerC c N h0 i).setSlot i (.ref (h0 + 1 + i)) = _
    rw [zv_outer c N h0 i, arrV_store]
    refine congrArg (arrV c N) (funext fun j => ?_)
    by_cases e : j = i
    · subst e
      simp [updV, va_rf]
    · by_cases h : j < i
      · simp [updV, e, h, Nat.lt_succ_of_lt h]
      · simp [updV, e, h, show ¬ j < i + 1 by omega]
section ZN
variable {p : Program} {l : Launch} {e : Env} {R : Room} {s : State} {m : MethodId} {args : Array Value} {below : List Frame} {meth : Method} {c : Code} {cells slots : Nat} {Q : State → Prop}
variable {E : za_E} {A : Nat → Prop} {nL : Nat} {cc : ByteArray} {own : String} {pc : Nat} {lv lv' : List (Nat × Value)} {st : List Value} {w n : Nat} {g g' : Nat → va_E}
theorem zn_size (G : zH p s m args meth c cc own nL E A w) {H : Heap} {locs : List Loc} {T : State} (hs : s.heap.size + cells = E.1 + (w + n)) (hP : va_P E.2.1 vwCl (zwf E w n g) H) (hS : va_S A s.heap H locs) (hT : T.heap = H) (X : Stand p l e R s m args below meth c T locs cells slots) : H.size = E.1 + (w + n) := by
  have h1 := X.heapSize
  rw [hT] at h1
  have h2 := hS.1
  have h3 := G.2.2.2.2.2.2.2.2
  by_cases hn : n = 0
  · omega
  · have h4 : E.1 + (w + (n - 1)) < H.size := ((zwf_P.mp hP) (n - 1) (by omega)).lt
    omega
theorem zn_aload_n (G : zH p s m args meth c cc own nL E A w) {k9 : Fin 4} {j i a : Nat} (hd : decode cc pc = .ok (.aload_n k9, 1)) (hi : (k9 : Nat) = i) (hq : lv[j]? = some (i, .ref a)) (k : zN p l e R s m args below meth c E A nL cells slots Q (pc + 1) lv (.ref a :: st) w n g) : zN p l e R s m args below meth c E A nL cells slots Q pc lv st w n g :=
  fun H locs ls hP hS hl => lv_aload_n G.1 G.2.1 hd hi (lv_at hl j hq) (k H locs ls hP hS hl)
theorem zn_iload_n (G : zH p s m args meth c cc own nL E A w) {k9 : Fin 4} {j i : Nat} {x : Int32} (hd : decode cc pc = .ok (.iload_n k9, 1)) (hi : (k9 : Nat) = i) (hq : lv[j]? = some (i, .int x)) (k : zN p l e R s m args below meth c E A nL cells slots Q (pc + 1) lv (.int x :: st) w n g) : zN p l e R s m args below meth c E A nL cells slots Q pc lv st w n g :=
  fun H locs ls hP hS hl => lv_iload_n G.1 G.2.1 hd hi (lv_at hl j hq) (k H locs ls hP hS hl)
theorem zn_iconst (G : zH p s m args meth c cc own nL E A w) {i : Int} {v : Int32} (hd : decode cc pc = .ok (.iconst i, 1)) (hv : Int32.ofInt i = v) (k : zN p l e R s m args below meth c E A nL cells slots Q (pc + 1) lv (.int v :: st) w n g) : zN p l e R s m args below meth c E A nL cells slots Q pc lv st w n g :=
  fun H locs ls hP hS hl => lv_iconst G.1 G.2.1 hd hv (k H locs ls hP hS hl)
theorem zn_bipush (G : zH p s m args meth c cc own nL E A w) {i : Int} {v : Int32} (hd : decode cc pc = .ok (.bipush i, 2)) (hv : (Int8.ofInt i).toInt32 = v) (k : zN p l e R s m args below meth c E A nL cells slots Q (pc + 2) lv (.int v :: st) w n g) : zN p l e R s m args below meth c E A nL cells slots Q pc lv st w n g :=
  fun H locs ls hP hS hl => lv_bipush G.1 G.2.1 hd hv (k H locs ls hP hS hl)
theorem zn_sipush (G : zH p s m args meth c cc own nL E A w) {i : Int} {v : Int32} (hd : decode cc pc = .ok (.sipush i, 3)) (hv : (Int16.ofInt i).toInt32 = v) (k : zN p l e R s m args below meth c E A nL cells slots Q (pc + 3) lv (.int v :: st) w n g) : zN p l e R s m args below meth c E A nL cells slots Q pc lv st w n g :=
  fun H locs ls hP hS hl => lv_sipush G.1 G.2.1 hd hv (k H locs ls hP hS hl)
theorem zn_dup (G : zH p s m args meth c cc own nL E A w) {v : Value} (hd : decode cc pc = .ok (.dup, 1)) (hv : v.category = 1) (k : zN p l e R s m args below meth c E A nL cells slots Q (pc + 1) lv (v :: v :: st) w n g) : zN p l e R s m args below meth c E A nL cells slots Q pc lv (v :: st) w n g :=
  fun H locs ls hP hS hl => lv_dup G.1 G.2.1 hd hv (k H locs ls hP hS hl)
theorem zn_istore_n (G : zH p s m args meth c cc own nL E A w) {k9 : Fin 4} {i : Nat} {x : Int32} (hd : decode cc pc = .ok (.istore_n k9, 1)) (hi : (k9 : Nat) = i) (hn : i < nL) (h9 : (i, Value.int x) :: lv.filter (fun q => !(q.1 == i) && !(q.1 + 1 == i && q.2.category == 2)) = lv') (k : zN p l e R s m args below meth c E A nL cells slots Q (pc + 1) lv' st w n g) : zN p l e R s m args below meth c E A nL cells slots Q pc lv (.int x :: st) w n g :=
  fun H locs _ hP hS hl => lv_istore_n G.1 G.2.1 hd hi hl hn h9 (fun ls hl => k H locs ls hP hS hl)
theorem zn_astore_n (G : zH p s m args meth c cc own nL E A w) {k9 : Fin 4} {i a : Nat} (hd : decode cc pc = .ok (.astore_n k9, 1)) (hi : (k9 : Nat) = i) (hn : i < nL) (h9 : (i, Value.ref a) :: lv.filter (fun q => !(q.1 == i) && !(q.1 + 1 == i && q.2.category == 2)) = lv') (k : zN p l e R s m args below meth c E A nL cells slots Q (pc + 1) lv' st w n g) : zN p l e R s m args below meth c E A nL cells slots Q pc lv (.ref a :: st) w n g :=
  fun H locs _ hP hS hl => lv_astore_n G.1 G.2.1 hd hi hl hn h9 (fun ls hl => k H locs ls hP hS hl)
theorem zn_iinc (G : zH p s m args meth c cc own nL E A w) {i j : Nat} {d : Int} {x v : Int32} (hd : decode cc pc = .ok (.iinc i d, 3)) (hq : lv[j]? = some (i, .int x)) (hv : x + Int32.ofInt d = v) (hn : i < nL) (h9 : (i, Value.int v) :: lv.filter (fun q => !(q.1 == i) && !(q.1 + 1 == i && q.2.category == 2)) = lv') (k : zN p l e R s m args below meth c E A nL cells slots Q (pc + 3) lv' st w n g) : zN p l e R s m args below meth c E A nL cells slots Q pc lv st w n g :=
  fun H locs _ hP hS hl => lv_iinc G.1 G.2.1 hd hl hq hv hn h9 (fun ls hl => k H locs ls hP hS hl)
theorem zn_goto (G : zH p s m args meth c cc own nL E A w) {off : Int} {tgt : Nat} (hd : decode cc pc = .ok (.goto off, 3)) (ht : (pc : Int) + off = (tgt : Int)) (k : zN p l e R s m args below meth c E A nL cells slots Q tgt lv st w n g) : zN p l e R s m args below meth c E A nL cells slots Q pc lv st w n g :=
  fun H locs ls hP hS hl => lv_goto G.1 G.2.1 hd ht (k H locs ls hP hS hl)
theorem zn_geT (G : zH p s m args meth c cc own nL E A w) {x y : Int32} {off : Int} {tgt : Nat} (hd : decode cc pc = .ok (.if_icmp .ge off, 3)) (ht : (pc : Int) + off = (tgt : Int)) (h : y ≤ x) (k : zN p l e R s m args below meth c E A nL cells slots Q tgt lv st w n g) : zN p l e R s m args below meth c E A nL cells slots Q pc lv (.int y :: .int x :: st) w n g :=
  fun H locs ls hP hS hl => lv_icmp_ge G.1 G.2.1 hd ht (fun _ => k H locs ls hP hS hl) (fun q => absurd h q)
theorem zn_geF (G : zH p s m args meth c cc own nL E A w) {x y : Int32} {off : Int} {tgt : Nat} (hd : decode cc pc = .ok (.if_icmp .ge off, 3)) (ht : (pc : Int) + off = (tgt : Int)) (h : ¬ y ≤ x) (k : zN p l e R s m args below meth c E A nL cells slots Q (pc + 3) lv st w n g) : zN p l e R s m args below meth c E A nL cells slots Q pc lv (.int y :: .int x :: st) w n g :=
  fun H locs ls hP hS hl => lv_icmp_ge G.1 G.2.1 hd ht (fun q => absurd q h) (fun _ => k H locs ls hP hS hl)
theorem zn_obj (G : zH p s m args meth c cc own nL E A w) {idx a : Nat} (hlink : Cond.methodLink own idx objectInit ∈ zWW) (hinst : Cond.instanceMethod objectInit ∈ zWW) (hcode : Cond.code objectInit ⟨#[0xb1]⟩ 1 none ∈ zWW) (hd : decode cc pc = .ok (.invokespecial idx, 3)) (hf : 1 ≤ R.frames) (hlo : 12 ≤ R.locals) (k : zN p l e R s m args below meth c E A nL cells slots Q (pc + 3) lv [] w n g) : zN p l e R s m args below meth c E A nL cells slots Q pc lv [.ref a] w n g := by
  intro H locs ls hP hS hl
  refine W.objInit G.1 G.2.1 G.2.2.2.1 (G.2.2.2.2.1 _ hlink) (G.2.2.2.2.1 _ hinst) (G.2.2.2.2.1 _ hcode) rfl (hl.1.trans G.2.2.1.symm) rfl hd hf ?_ ?_
  · show 2 * 0 + 0 + 12 ≤ R.locals
    omega
  · exact k H locs ls hP hS hl
theorem zn_newa (G : zH p s m args meth c cc own nL E A w) {atype : ArrayType} {ty : FieldType} {t0 N' : Nat} {a0 : vp_A} {x : Int32} (hty : newarray.typeOf atype = ty) (harr : Cond.arrayClass ty ∈ zWW) (ht : (za_tys E)[t0]? = some (E.2.2.1 t0, ty)) (hra : ∀ (U : State) (cA : ClassId), va_RA U cA ty → U.vm.findClass ("[" ++ ty.toString) = some cA) (hg : g (w + n) = .inl (E.2.2.1 t0, a0)) (ha : ∀ cA : ClassId, vp_cell cA a0 = arrV cA N' (fun _ => defaultValue ty)) (hn : ¬ x < 0) (hN : x.toNatClampNeg = N') (hbytes : N' * componentBytes ty ≤ 536870912) (hs : s.heap.size + cells = E.1 + (w + n)) (hcells : cells + 1 ≤ R.cells) (hslots : slots + N' ≤ R.slots) (hd : decode cc pc = .ok (.newarray atype, 2))
    (k : zN p l e R s m args below meth c E A nL (cells + 1) (slots + N') Q (pc + 2) lv (.ref (E.1 + (w + n)) :: st) w (n + 1) g) : zN p l e R s m args below meth c E A nL cells slots Q pc lv (.int x :: st) w n g := by
  intro H locs ls hP hS hl T hT X
  have hz := zn_size G hs hP hS hT X
  subst hty
  refine va_newaK (g := F0 m pc ls (.int x :: st)) G.1 G.2.1 (G.2.2.2.2.1 _ harr) rfl hd rfl hn hN hbytes hcells hslots hz (fun H1 cA e1 z1 o1 hAr hNm => ?_) T hT X
  have hc : cA = E.2.2.1 t0 := Option.some.inj (hNm.symm.trans (hra s _ (G.2.2.2.2.2.1.1.2 t0 _ ht).2))
  subst hc
  refine k H1 locs ls (zwf_P.mpr fun j hj => ?_) ⟨by have := hS.1; omega, fun q h1 h2 => (o1 q (by have := hS.1; omega)).trans (hS.2.1 q h1 h2), hS.2.2⟩ hl
  by_cases h : j = n
  · subst h
    rw [hg]
    show H1[E.1 + (w + j)]? = some (vp_cell _ a0)
    rw [ha]
    exact e1
  · exact ((zwf_P.mp hP) j (by omega)).kept (o1 _ (by show E.1 + (w + j) < E.1 + (w + n); omega))
theorem zn_newq (G : zH p s m args meth c cc own nL E A w) {idx N' : Nat} {f : Nat → Option Nat} {x : Int32} (hcl : Cond.classLink own idx "PeriodTables$State" ∈ zWW) (hg : g (w + n) = .inl (E.2.2.1 4, N', .inr (.inr (.inr (.inr f))))) (hf : ∀ j, j < N' → f j = none) (hn : ¬ x < 0) (hN : x.toNatClampNeg = N') (hbytes : N' * 4 ≤ 536870912) (hs : s.heap.size + cells = E.1 + (w + n)) (hcells : cells + 1 ≤ R.cells) (hslots : slots + N' ≤ R.slots) (hd : decode cc pc = .ok (.anewarray idx, 3))
    (k : zN p l e R s m args below meth c E A nL (cells + 1) (slots + N') Q (pc + 3) lv (.ref (E.1 + (w + n)) :: st) w (n + 1) g) : zN p l e R s m args below meth c E A nL cells slots Q pc lv (.int x :: st) w n g := by
  intro H locs ls hP hS hl T hT X
  have hz := zn_size G hs hP hS hT X
  subst hN
  refine W.anew (g := F0 m pc ls (.int x :: st)) G.1 G.2.1 G.2.2.2.1 (G.2.2.2.2.1 _ hcl) (va_AO.use G.2.2.2.2.2.1.2.2.1) rfl hd rfl hn hbytes hcells hslots (fun cA kA comp f1 f2 f3 f4 => ?_) T hT X
  obtain ⟨-, -, -, -, -, h5⟩ := (G.2.2.2.2.2.1.1.2 4 _ (rfl : (za_tys E)[4]? = some (E.2.2.1 4, .object "PeriodTables$State"))).2
  have hc : cA = E.2.2.1 4 := Option.some.inj (f1.symm.trans h5)
  subst hc
  generalize hH1 : H.push ({ cls := E.2.2.1 4, slots := Array.replicate x.toNatClampNeg .null, vm := .none } : Cell) = H1
  have z1 : H1.size = H.size + 1 := by rw [← hH1, Array.size_push]
  have e1 : H1[H.size]? = some (arrV (E.2.2.1 4) x.toNatClampNeg (fun _ => .null)) := by rw [← hH1, Array.getElem?_push_size, ← arrV_new]
  have o1 : ∀ q : Nat, q < H.size → H1[q]? = H[q]? := fun q hq => by rw [← hH1, Array.getElem?_push, if_neg (Nat.ne_of_lt hq)]
  rw [hz] at z1 e1 o1 ⊢
  refine k H1 locs ls (zwf_P.mpr fun j hj => ?_) ⟨by have := hS.1; omega, fun q h1 h2 => (o1 q (by have := hS.1; omega)).trans (hS.2.1 q h1 h2), hS.2.2⟩ hl
  by_cases h : j = n
  · subst h
    rw [hg]
    show H1[E.1 + (w + j)]? = some (vp_cell _ _)
    rw [zqf (f := fun _ => none) hf, vp_cell_q]
    exact e1
  · exact ((zwf_P.mp hP) j (by omega)).kept (o1 _ (by show E.1 + (w + j) < E.1 + (w + n); omega))
theorem zn_mna (G : zH p s m args meth c cc own nL E A w) {idx N' K' : Nat} {f : Nat → Option Nat} {x y : Int32} (hcl : Cond.classLink own idx "[[I" ∈ zWW) (harr : Cond.arrayClass .int ∈ zWW) (hg : g (w + n) = .inl (E.2.2.1 5, N', .inr (.inr (.inr (.inr f))))) (hf : ∀ j, j < N' → f j = some (E.1 + (w + n) + 1 + j)) (hgi : ∀ j, j < N' → g (w + (n + 1 + j)) = .inl (E.2.2.1 0, K', .inl (fun _ => 0))) (hn : ¬ x < 0) (hk : ¬ y < 0) (hN : x.toNatClampNeg = N') (hM : y.toNatClampNeg = K') (hb1 : N' * 4 ≤ 536870912) (hb2 : K' * componentBytes .int ≤ 536870912) (hb3 : K' ≤ 536870912) (hs : s.heap.size + cells = E.1 + (w + n)) (hcells : cells + (1 + N') ≤ R.cells) (hslots : slots + (N' + N' * K') ≤ R.slots) (hd : decode cc pc = .ok (.multianewarray idx 2, 4))
    (k : zN p l e R s m args below meth c E A nL (cells + 1 + N') (slots + N' + N' * K') Q (pc + 4) lv (.ref (E.1 + (w + n)) :: st) w (n + 1 + N') g) : zN p l e R s m args below meth c E A nL cells slots Q pc lv (.int y :: .int x :: st) w n g := by
  intro H locs ls hP hS hl T hT X
  have hz := zn_size G hs hP hS hT X
  subst hN
  subst hM
  have hK := G.2.2.2.2.2.1.1
  obtain ⟨vm₁, cA, comp, -, fA, fC, -, -, X', step⟩ := Jvm.Stand.multianewarray2F X G.1 G.2.2.2.1 (ty := .int) (index := idx) (G.2.2.2.2.1 _ hcl) (zAA.use G.2.2.2.2.2.1.2.2.2) (G.2.2.2.2.1 _ harr) (g := F0 m pc ls (.int y :: .int x :: st)) rfl (by rw [G.2.1]; exact hd) rfl hn hk hb1 hb2 hb3 rfl rfl hcells hslots
  have h5 : s.vm.findClass ("[" ++ (FieldType.array .int).toString) = some (E.2.2.1 5) := (hK.2 5 _ (rfl : (za_tys E)[5]? = some (E.2.2.1 5, .array .int))).2
  have h0 : s.vm.findClass ("[" ++ FieldType.int.toString) = some (E.2.2.1 0) := (hK.2 0 _ (rfl : (za_tys E)[0]? = some (E.2.2.1 0, .int))).2
  have hcA : cA = E.2.2.1 5 := Option.some.inj (fA.symm.trans h5)
  have hcc : comp = E.2.2.1 0 := Option.some.inj (fC.symm.trans h0)
  subst hcA
  subst hcc
  generalize hF : Jvm.Free.Multi.fill (T.setVm vm₁) (E.2.2.1 5) (E.2.2.1 0) x.toNatClampNeg y.toNatClampNeg (defaultValue .int) x.toNatClampNeg = F at X' step
  have hTh : (T.setVm vm₁).heap = H := hT
  obtain ⟨f1, f2, -, -⟩ := Jvm.Free.Multi.fill_facts (T.setVm vm₁) (E.2.2.1 5) (E.2.2.1 0) x.toNatClampNeg y.toNatClampNeg (defaultValue .int) x.toNatClampNeg
  rw [hF, hTh] at f1 f2
  have hold : ∀ q : Nat, q < H.size → F.heap[q]? = H[q]? := fun q hq => by
    have := Jvm.Free.Multi.fill_old (T.setVm vm₁) (E.2.2.1 5) (E.2.2.1 0) x.toNatClampNeg y.toNatClampNeg (defaultValue .int) (a := q) (by rw [hTh]; exact hq) x.toNatClampNeg
    rw [hF, hTh] at this
    exact this
  have hrow : ∀ j : Nat, j < x.toNatClampNeg → F.heap[H.size + 1 + j]? = some (vp_cell (E.2.2.1 0) (y.toNatClampNeg, .inl (fun _ => 0))) := fun j hj => by
    have := Jvm.Free.Multi.fill_inner (T.setVm vm₁) (E.2.2.1 5) (E.2.2.1 0) x.toNatClampNeg y.toNatClampNeg (defaultValue .int) x.toNatClampNeg j hj
    rw [hF, hTh] at this
    rw [this, vp_cell_i, ← arrV_new]
    rfl
  have hout : Jvm.Free.Multi.outerC (E.2.2.1 5) x.toNatClampNeg H.size x.toNatClampNeg = arrV (E.2.2.1 5) x.toNatClampNeg (fun j => va_rf (if j < x.toNatClampNeg then some (H.size + 1 + j) else none)) := zv_outer (E.2.2.1 5) x.toNatClampNeg H.size x.toNatClampNeg
  rw [hout] at f2
  rw [hz] at f1 f2 hold hrow
  have hP2 : va_P E.2.1 vwCl (zwf E w (n + 1 + x.toNatClampNeg) g) F.heap := zwf_P.mpr fun j hj => by
    by_cases h : j < n
    · exact ((zwf_P.mp hP) j h).kept (hold _ (by show E.1 + (w + j) < E.1 + (w + n); omega))
    · by_cases h2 : j = n
      · subst h2
        rw [hg]
        show F.heap[E.1 + (w + j)]? = some (vp_cell _ _)
        rw [zqf (f := fun i => if i < x.toNatClampNeg then some (E.1 + (w + j) + 1 + i) else none) (fun i hi => by rw [hf i hi, if_pos hi]), vp_cell_q]
        exact f2
      · obtain ⟨i, rfl⟩ : ∃ i, j = n + 1 + i := ⟨j - (n + 1), by omega⟩
        rw [hgi i (by omega)]
        show F.heap[E.1 + (w + (n + 1 + i))]? = some (vp_cell _ _)
        rw [show E.1 + (w + (n + 1 + i)) = E.1 + (w + n) + 1 + i by omega]
        exact hrow i (by omega)
  obtain ⟨t, a1, b1⟩ := k F.heap locs ls hP2 ⟨by have := hS.1; omega, fun q h1 h2 => (hold q (by have := hS.1; omega)).trans (hS.2.1 q h1 h2), hS.2.2⟩ hl F rfl X'
  refine ⟨t, step t ?_, b1⟩
  have e9 : T.heap.size = E.1 + (w + n) := by rw [hT]; exact hz
  rw [e9]
  exact a1
theorem zn_put (G : zH p s m args meth c cc own nL E A w) {C : String} {T : u_T} {N ci fi idx : Nat} {fs : List Value} {ty : FieldType} {v : Value} (ty0 : Nat → FieldType) (hty : ∀ k, k < N → parseFieldDescriptor (T k).2.2.1 = some (ty0 k)) (hnm : ∀ a, a < N → ∀ b, b < N → a ≠ b → (T a).2.1 ≠ (T b).2.1) (hin : ∀ x ∈ u_ws C T N, x ∈ zWW) (hc : vwCl[ci]? = some (C, T, N)) (hi : meth.name = "<init>") (hfi : fi < N) (hlink : Cond.fieldLink own idx (T fi).1 (T fi).2.1 (T fi).2.2.1 ∈ zWW) (hfin : (T fi).2.2.2 = true) (hdc : (T fi).1 = own) (hde : parseFieldDescriptor (T fi).2.2.1 = some ty) (hnr : narrow ty v = v) (hft : fits ty v = true) (hlen : fi < fs.length) (hn : 0 < n) (hg : g w = .inr (ci, fs)) (h1 : ∀ j, j ≠ w → g' j = g j) (h2 : g' w = .inr (ci, fs.set fi v)) (hd : decode cc pc = .ok (.putfield idx, 3))
    (k : zN p l e R s m args below meth c E A nL cells slots Q (pc + 3) lv st w n g') : zN p l e R s m args below meth c E A nL cells slots Q pc lv (v :: .ref (E.1 + w) :: st) w n g := by
  intro H locs ls hP hS hl
  have he : (zwf E w n g)[0]? = some (E.1 + w, .inr (ci, fs)) := by
    rw [zwf_at hn]
    show some (E.1 + w, g w) = _
    rw [hg]
  refine va_putF G.1 G.2.1 G.2.2.2.2.1 hin ty0 hty hnm G.2.2.2.1 G.2.2.2.2.2.1.1 hP (zwf_D G.2.2.2.2.2.2.1) hS 0 he hc fi hfi (G.2.2.2.2.1 _ hlink) (fun x hx => hx) hfin hi hdc hde hnr hft hlen hd (fun H1 locs1 hP1 _ hS1 => ?_)
  have h3 : (zwf E w n g).set 0 (E.1 + w, .inr (ci, fs.set fi v)) = zwf E w n g' := zwf_set (k := 0) hn h1 h2
  rw [h3] at hP1
  exact k H1 locs1 ls hP1 hS1 hl
theorem zn_get (G : zH p s m args meth c cc own nL E A w) {C : String} {T : u_T} {N ci fi idx : Nat} {fs : List Value} {v : Value} (hin : ∀ x ∈ u_ws C T N, x ∈ zWW) (hc : vwCl[ci]? = some (C, T, N)) (hfi : fi < N) (hlink : Cond.fieldLink own idx (T fi).1 (T fi).2.1 (T fi).2.2.1 ∈ zWW) (hn : 0 < n) (hg : g w = .inr (ci, fs)) (hv : fs[fi]? = some v) (hd : decode cc pc = .ok (.getfield idx, 3))
    (k : zN p l e R s m args below meth c E A nL cells slots Q (pc + 3) lv (v :: st) w n g) : zN p l e R s m args below meth c E A nL cells slots Q pc lv (.ref (E.1 + w) :: st) w n g := by
  intro H locs ls hP hS hl
  have he : (zwf E w n g)[0]? = some (E.1 + w, .inr (ci, fs)) := by
    rw [zwf_at hn]
    show some (E.1 + w, g w) = _
    rw [hg]
  exact va_get G.1 G.2.1 G.2.2.2.2.1 hin G.2.2.2.1 G.2.2.2.2.2.1.1 hP 0 he hc fi hfi (G.2.2.2.2.1 _ hlink) (fun x hx => hx) hv hd (k H locs ls hP hS hl)
theorem zn_aast (G : zH p s m args meth c cc own nL E A w) {ka kb N' : Nat} {r : vw_C} {f f' : Nat → Option Nat} {i : Int32} {vs : List Value} (hr : vwCl[4]? = some r) (hr1 : r.1 = "PeriodTables$State") (ha : ka < n) (hb : kb < n) (hg : g (w + ka) = .inl (E.2.2.1 4, N', .inr (.inr (.inr (.inr f))))) (hgb : g (w + kb) = .inr (4, vs)) (h1 : ∀ j, j ≠ w + ka → g' j = g j) (h2 : g' (w + ka) = .inl (E.2.2.1 4, N', .inr (.inr (.inr (.inr f'))))) (hf : ∀ j, j < N' → f' j = va_up f i.toNatClampNeg (some (E.1 + (w + kb))) j) (hin : vp_in i N') (hd : decode cc pc = .ok (.aastore, 1))
    (k : zN p l e R s m args below meth c E A nL cells slots Q (pc + 1) lv st w n g') : zN p l e R s m args below meth c E A nL cells slots Q pc lv (.ref (E.1 + (w + kb)) :: .int i :: .ref (E.1 + (w + ka)) :: st) w n g := by
  intro H locs ls hP hS hl
  have hea : (zwf E w n g)[ka]? = some (E.1 + (w + ka), .inl (E.2.2.1 4, N', .inr (.inr (.inr (.inr f))))) := by rw [zwf_at ha, hg]
  have heb : (zwf E w n g)[kb]? = some (E.1 + (w + kb), .inr (4, vs)) := by rw [zwf_at hb, hgb]
  refine va_astq G.1 G.2.1 G.2.2.2.2.2.1.1 hP (zwf_D G.2.2.2.2.2.2.1) hS ka 4 kb 4 hea (r := r) (by rw [hr1]; rfl) heb hr hin hd (fun H1 locs1 hP1 _ hS1 => ?_)
  refine k H1 locs1 ls (zwf_P.mpr fun j hj => ?_) hS1 hl
  by_cases h : j = ka
  · subst h
    have h3 := hP1 j _ (List.getElem?_set_self (by rw [zwf_len]; exact ha))
    rw [h2]
    show H1[E.1 + (w + j)]? = some (vp_cell _ _)
    rw [zqf hf]
    exact h3
  · have h3 := hP1 j (E.1 + (w + j), g (w + j)) (by rw [List.getElem?_set_ne (Ne.symm h)]; exact zwf_at hj)
    rw [h1 _ (by omega)]
    exact h3
/-- what a 'new' and its constructor need of the words -/
def zKN (y : MethodName) (C : String) (N : Nat) (bytes : ByteArray) (maxL : Nat) : Prop := Cond.instantiable C N ∈ zWW ∧ Cond.initialized C ∈ zWW ∧ y.cls = C ∧ y.name = "<init>" ∧ Cond.instanceMethod y ∈ zWW ∧ Cond.code y bytes maxL none ∈ zWW ∧ zDsc y 0
theorem zn_sub0 (G : zH p s m args meth c cc own nL E A w) {C : String} {T : u_T} {N ci ik ic k9 sl fr lo maxL : Nat} {y : MethodName} {bytes : ByteArray} {fs : List Value} (ty : Nat → FieldType) (hty : ∀ k, k < N → parseFieldDescriptor (T k).2.2.1 = some (ty k)) (hin : ∀ x ∈ u_ws C T N, x ∈ zWW) (hc : vwCl[ci]? = some (C, T, N)) (hfs : ∀ j, j < N → defaultValue (ty j) = vp_V fs j) (hcl : Cond.classLink own ik C ∈ zWW) (K : zKN y C N bytes maxL) (hM : zMn l E y bytes maxL fr lo (w + n) k9 sl ci fs)
    (hcall : ∀ (H : Heap) (locs : List Loc) (ls : Array Slot), ls.size = nL → PreS s H (va_Pc [.ref (E.1 + (w + n))] (fun U => U.heap.size = E.1 + (w + n) + 1 ∧ va_P E.2.1 vwCl [(E.1 + (w + n), .inr (ci, fs))] U.heap ∧ zNE E U)) [.ref (E.1 + (w + n))] → va_Run p l e R s m args below meth c H locs (cells + 1) (slots + N) k9 sl (F0 m (pc + 4) ls (.ref (E.1 + (w + n)) :: .ref (E.1 + (w + n)) :: st)) (.ref (E.1 + (w + n)) :: st) (va_Qv (fun _ : Unit => True) (fun _ t => va_P E.2.1 vwCl (zwf E (w + n) (k9 + 1) (zfn E)) t.heap) (fun q => E.1 + (w + n) ≤ q) [Value.ref (E.1 + (w + n))].toArray) (fun q => E.1 + (w + n) ≤ q))
    (hg : ∀ i, i ≤ k9 → g (w + n + i) = zfn E (w + n + i)) (hs : s.heap.size + cells = E.1 + (w + n)) (hcells : cells + 1 ≤ R.cells) (hslots : slots + N ≤ R.slots) (d0 : decode cc pc = .ok (.new ik, 3)) (d3 : decode cc (pc + 3) = .ok (.dup, 1))
    (k : zN p l e R s m args below meth c E A nL (cells + 1 + k9) (slots + N + sl) Q (pc + 7) lv (.ref (E.1 + (w + n)) :: st) w (n + 1 + k9) g) : zN p l e R s m args below meth c E A nL cells slots Q pc lv st w n g := by
  intro H locs ls hP hS hl T hT X
  have hz := zn_size G hs hP hS hT X
  have hKn := G.2.2.2.2.2.1.1.1 ci _ hc
  refine W.newcK (g := F0 m pc ls st) G.1 G.2.1 G.2.2.2.1 (G.2.2.2.2.1 _ hcl) (G.2.2.2.2.1 _ K.1) (G.2.2.2.2.1 _ K.2.1) rfl d0 hcells hslots hKn.2.1 hz (fun H1 kC hkC e1 z1 o1 => ?_) T hT X
  have hP1 : va_P E.2.1 vwCl [(E.1 + (w + n), .inr (ci, fs))] H1 := fun j q hq => by
    have hj : j < 1 := (List.getElem?_eq_some_iff.mp hq).1
    rw [show j = 0 by omega] at hq
    cases hq
    exact ⟨_, hc, (u_born ty G.2.2.2.2.1 hin hKn hkC e1 hty).to hfs⟩
  refine W.eq (g2 := F0 m (pc + 3) ls (.ref (E.1 + (w + n)) :: st)) rfl ?_
  refine lv_dup G.1 G.2.1 d3 rfl ?_
  have hS1 : va_S A s.heap H1 locs := ⟨by have := hS.1; omega, fun q h1 h2 => (o1 q (by have := hS.1; omega)).trans (hS.2.1 q h1 h2), hS.2.2⟩
  refine va_callv (hcall H1 locs ls hl.1 ⟨fun _ _ _ _ h => ⟨h.1, h.2.1, h.2.2.1, zNE_calling h.2.2.2⟩, fun U hU hW => ⟨rfl, by rw [hU]; exact z1, by rw [hU]; exact hP1, zNE_warm hW G.2.2.2.2.2.1⟩⟩) hS1 (fun q _ h => G.2.2.2.2.2.2.1 q (by have h9 : E.1 + (w + n) ≤ q := h; omega)) (fun q h => G.2.2.2.2.2.2.1 q (by have h9 : E.1 + (w + n) ≤ q := h; omega)) (fun u t H2 locs2 ht _ _ hB _ hk2 hS2 => ?_)
  refine k H2 locs2 ls (zwf_P.mpr fun j hj => ?_) hS2 hl
  by_cases h : j < n
  · exact ((zwf_P.mp hP) j h).kept ((hk2 _ (by show E.1 + (w + j) < H1.size; omega) (by show ¬ (E.1 + (w + n) ≤ E.1 + (w + j)); omega)).trans (o1 _ (by show E.1 + (w + j) < E.1 + (w + n); omega)))
  · obtain ⟨i, rfl⟩ : ∃ i, j = n + i := ⟨j - n, by omega⟩
    have h3 := (zwf_P.mp hB) i (by omega)
    rw [ht, ← hg i (by omega)] at h3
    rw [show w + (n + i) = w + n + i by omega]
    exact h3
theorem zn_subN (G : zH p s m args meth c cc own nL E A w) {C host : String} {T : u_T} {N ci ik ic k9 sl fr lo maxL : Nat} {y : MethodName} {bytes : ByteArray} {fs : List Value} (ty : Nat → FieldType) (hty : ∀ k, k < N → parseFieldDescriptor (T k).2.2.1 = some (ty k)) (hin : ∀ x ∈ u_ws C T N, x ∈ zWW) (hc : vwCl[ci]? = some (C, T, N)) (hfs : ∀ j, j < N → defaultValue (ty j) = vp_V fs j) (hcl : Cond.classLink own ik C ∈ zWW) (K : zKN y C N bytes maxL) (hM : zMn l E y bytes maxL fr lo (w + n) k9 sl ci fs) (hlink : Cond.methodLinkNest own ic y host ∈ zNN)
    (hg : ∀ i, i ≤ k9 → g (w + n + i) = zfn E (w + n + i)) (hs : s.heap.size + cells = E.1 + (w + n)) (hR : fr + 1 ≤ R.frames ∧ 8 + (maxL + 11) + lo ≤ R.locals) (hcells : cells + 1 + k9 ≤ R.cells) (hslots : slots + N + sl ≤ R.slots) (hst : (st.map fun v => v.category).sum ≤ 7) (d0 : decode cc pc = .ok (.new ik, 3)) (d3 : decode cc (pc + 3) = .ok (.dup, 1)) (d4 : decode cc (pc + 4) = .ok (.invokespecial ic, 3))
    (k : zN p l e R s m args below meth c E A nL (cells + 1 + k9) (slots + N + sl) Q (pc + 7) lv (.ref (E.1 + (w + n)) :: st) w (n + 1 + k9) g) : zN p l e R s m args below meth c E A nL cells slots Q pc lv st w n g := by
  refine zn_sub0 (ic := ic) G ty hty hin hc hfs hcl K hM (fun H locs ls hl hp => ?_) hg hs (by omega) (by omega) d0 d3 k
  have hini : (Cond.initialized y.cls).before args s = true := by rw [K.2.2.1]; exact G.2.2.2.2.1 _ K.2.1
  exact va_runIN (As := []) (b := E.1 + (w + n)) (n := 0) ⟨G.1, G.2.1, G.2.2.1, G.2.2.2.1, G.2.2.2.2.1⟩ hM ⟨va_cnB 0 G.2.2.2.2.1 (za_goodC K.2.2.2.2.2.1) rfl rfl rfl (G.2.2.2.2.2.1.2.1 _ hlink) hini K.2.2.2.2.2.2 hR, K.2.2.2.1, G.2.2.2.2.1 _ K.2.2.2.2.1⟩ hp rfl rfl hl rfl (lv_room (by rw [List.map_cons, List.sum_cons]; show 1 + (st.map fun v => v.category).sum ≤ 8; omega)) d4 ⟨hcells, hslots⟩
theorem zn_sub (G : zH p s m args meth c cc own nL E A w) {C : String} {T : u_T} {N ci ik ic k9 sl fr lo maxL : Nat} {y : MethodName} {bytes : ByteArray} {fs : List Value} (ty : Nat → FieldType) (hty : ∀ k, k < N → parseFieldDescriptor (T k).2.2.1 = some (ty k)) (hin : ∀ x ∈ u_ws C T N, x ∈ zWW) (hc : vwCl[ci]? = some (C, T, N)) (hfs : ∀ j, j < N → defaultValue (ty j) = vp_V fs j) (hcl : Cond.classLink own ik C ∈ zWW) (K : zKN y C N bytes maxL) (hM : zMn l E y bytes maxL fr lo (w + n) k9 sl ci fs) (hlink : Cond.methodLink own ic y ∈ zWW)
    (hg : ∀ i, i ≤ k9 → g (w + n + i) = zfn E (w + n + i)) (hs : s.heap.size + cells = E.1 + (w + n)) (hR : fr + 1 ≤ R.frames ∧ 8 + (maxL + 11) + lo ≤ R.locals) (hcells : cells + 1 + k9 ≤ R.cells) (hslots : slots + N + sl ≤ R.slots) (hst : (st.map fun v => v.category).sum ≤ 7) (d0 : decode cc pc = .ok (.new ik, 3)) (d3 : decode cc (pc + 3) = .ok (.dup, 1)) (d4 : decode cc (pc + 4) = .ok (.invokespecial ic, 3))
    (k : zN p l e R s m args below meth c E A nL (cells + 1 + k9) (slots + N + sl) Q (pc + 7) lv (.ref (E.1 + (w + n)) :: st) w (n + 1 + k9) g) : zN p l e R s m args below meth c E A nL cells slots Q pc lv st w n g := by
  refine zn_sub0 (ic := ic) G ty hty hin hc hfs hcl K hM (fun H locs ls hl hp => ?_) hg hs (by omega) (by omega) d0 d3 k
  have hini : (Cond.initialized y.cls).before args s = true := by rw [K.2.2.1]; exact G.2.2.2.2.1 _ K.2.1
  exact va_runI (As := []) (b := E.1 + (w + n)) (n := 0) ⟨G.1, G.2.1, G.2.2.1, G.2.2.2.1, G.2.2.2.2.1⟩ hM (cwI 0 G.2.2.2.2.1 (za_goodC K.2.2.2.2.2.1) rfl rfl rfl hini (G.2.2.2.2.1 _ hlink) (G.2.2.2.2.1 _ K.2.2.2.2.1) K.2.2.2.1 K.2.2.2.2.2.2 hR) hp rfl rfl hl rfl (lv_room (by rw [List.map_cons, List.sum_cons]; show 1 + (st.map fun v => v.category).sum ≤ 8; omega)) d4 ⟨hcells, hslots⟩
theorem zn_ret (G : zH p s m args meth c cc own nL E (fun q => E.1 + w ≤ q) w) {k9 sl : Nat} (hr : meth.sig.returnType = none) (hd : decode cc pc = .ok (.return_, 1)) (hg : ∀ j, j < k9 + 1 → g (w + j) = zfn E (w + j)) : zN p l e R s m args below meth c E (fun q => E.1 + w ≤ q) nL k9 sl (MQ below (va_Qv (fun _ : Unit => True) (fun _ t => va_P E.2.1 vwCl (zwf E w (k9 + 1) (zfn E)) t.heap) (fun q => E.1 + w ≤ q)) args s k9 sl (fun q => E.1 + w ≤ q)) pc lv [] w (k9 + 1) g := by
  intro H locs ls hP hS hl
  refine W.vret G.1 G.2.1 hr (fun t ht hW => ⟨⟨(), rfl, trivial, ?_⟩, hS.F ht⟩) hS.2.2 hd G.2.2.2.2.2.2.2.1
  show va_P E.2.1 vwCl (zwf E w (k9 + 1) (zfn E)) t.heap
  rw [ht]
  refine zwf_P.mpr fun j hj => ?_
  rw [← hg j hj]
  exact (zwf_P.mp hP) j hj
theorem zMn_of {y : MethodName} {maxL fr lo w k9 sl ci : Nat} {fs : List Value} {g : Nat → va_E} (hy : plainName y.cls = true) (hyn : y.name = "<init>") (hml1 : 1 ≤ maxL) (hg : g w = .inr (ci, fs))
    (body : ∀ (p : Program) (e : Env) (s : State) (m : MethodId) (args : Array Value) (below : List Frame) (meth : Method) (c : Code), zH p s m args meth c cc y.cls maxL E (fun q => E.1 + w ≤ q) w → meth.sig.returnType = none → meth.name = "<init>" → s.heap.size = E.1 + (w + 1) → zN p l e (zRn fr lo k9 sl) s m args below meth c E (fun q => E.1 + w ≤ q) maxL 0 0 (MQ below (va_Qv (fun _ : Unit => True) (fun _ t => va_P E.2.1 vwCl (zwf E w (k9 + 1) (zfn E)) t.heap) (fun q => E.1 + w ≤ q)) args s k9 sl (fun q => E.1 + w ≤ q)) 0 [(0, .ref (E.1 + w))] [] w 1 g) : zMn l E y cc maxL fr lo w k9 sl ci fs := by
  refine Met.ofW (cc := cc) (maxL := maxL) (ret := none) hy rfl ?_
  intro p e s m args below meth c s₁ B hml hv
  obtain ⟨rfl, hsz, hP, hE⟩ := hv
  have hts := atoms_spec (ws := .code y cc maxL none :: zWW) B.pre
  have hown : s.vm.findClass y.cls = some m.cls := findClass_of_methodNamed B.named
  have hin : meth.name = y.name := (name_of_methodNamed B.named B.method).1
  rw [lg_entry_eq]
  have hl := lv_entry ([Value.ref (E.1 + w)]) (n := maxL) (by show 1 ≤ maxL; exact hml1)
  refine body p e s m _ below meth c ⟨B.exec, B.bytes, hml, hown, fun w hw => hts w (List.mem_cons_of_mem _ hw), hE, fun _ h => h, B.notSynchronized, by omega⟩ B.returns (hin.trans hyn) (by omega) s.heap [] _ (zwf_P.mpr fun j hj => ?_) va_S.rf hl
  rw [show j = 0 by omega]
  show va_at E.2.1 vwCl (E.1 + w, g w) s.heap
  rw [hg]
  exact hP 0 _ rfl
theorem zn_cast {cells' slots' n' pc' : Nat} (h1 : cells = cells') (h2 : slots = slots') (h3 : n = n') (h4 : pc = pc') (k : zN p l e R s m args below meth c E A nL cells' slots' Q pc' lv st w n' g) : zN p l e R s m args below meth c E A nL cells slots Q pc lv st w n g := by
  subst h1; subst h2; subst h3; subst h4
  exact k
theorem zn_g (h : ∀ j, j < n → g' (w + j) = g (w + j)) (k : zN p l e R s m args below meth c E A nL cells slots Q pc lv st w n g') : zN p l e R s m args below meth c E A nL cells slots Q pc lv st w n g :=
  fun H locs ls hP hS hl => k H locs ls (zwf_P.mpr fun j hj => by rw [h j hj]; exact (zwf_P.mp hP) j hj) hS hl
end ZN
def zg (E : za_E) (w : Nat) (o : va_E) (j : Nat) : va_E := if j = w then o else zfn E j
theorem zg_w {E : za_E} {w : Nat} {o : va_E} : zg E w o w = o := if_pos rfl
theorem zg_n {E : za_E} {w j : Nat} {o : va_E} (h : j ≠ w) : zg E w o j = zfn E j := if_neg h
theorem zg_c {E : za_E} {w j : Nat} {o o' : va_E} (h : j ≠ w) : zg E w o' j = zg E w o j := by rw [zg_n h, zg_n h]
theorem zg_f {E : za_E} {w j : Nat} {o : va_E} (h : zfn E w = o) : zg E w o j = zfn E j := by
  by_cases q : j = w
  · subst q
    rw [zg_w, h]
  · exact zg_n q
/-- beside it an array of references that is being filled -/
def zh (E : za_E) (w : Nat) (o : va_E) (a : Nat) (r : va_E) (j : Nat) : va_E := if j = a then r else zg E w o j
theorem zh_a {E : za_E} {w a : Nat} {o r : va_E} : zh E w o a r a = r := if_pos rfl
theorem zh_w {E : za_E} {w a : Nat} {o r : va_E} (h : w ≠ a) : zh E w o a r w = o := (if_neg h).trans zg_w
theorem zh_n {E : za_E} {w a j : Nat} {o r : va_E} (h : j ≠ a) (h2 : j ≠ w) : zh E w o a r j = zfn E j := (if_neg h).trans (zg_n h2)
theorem zh_c {E : za_E} {w a j : Nat} {o r r' : va_E} (h : j ≠ a) : zh E w o a r' j = zh E w o a r j := (if_neg h).trans (if_neg h).symm
theorem zh_p {E : za_E} {w a j : Nat} {o o' r : va_E} (h : j ≠ w) : zh E w o' a r j = zh E w o a r j := by
  unfold zh
  split
  · rfl
  · exact zg_c h
theorem zh_g {E : za_E} {w a j : Nat} {o r : va_E} (ha : a ≠ w) (h : zfn E a = r) : zh E w o a r j = zg E w o j := by
  by_cases q : j = a
  · subst q
    rw [zh_a, zg_n ha, h]
  · exact if_neg q
def zpf (b i : Nat) (j : Nat) : Option Nat := if j < i then some (b + 5 * j) else none
theorem zpf_0 (b j : Nat) : zpf b 0 j = none := if_neg (by omega)
theorem zpf_s (b i j : Nat) : zpf b (i + 1) j = va_up (zpf b i) i (some (b + 5 * i)) j := by
  unfold zpf va_up
  by_cases h : j = i
  · subst h
    rw [if_pos (by omega), if_pos rfl]
  · rw [if_neg h]
    show (if j < i + 1 then some (b + 5 * j) else none) = (if j < i then some (b + 5 * j) else none)
    by_cases q : j < i
    · rw [if_pos q, if_pos (by omega)]
    · rw [if_neg q, if_neg (by omega)]
theorem zpf_u {b i v k j : Nat} (h : v = b + 5 * i) (hk : k = i) : zpf b (i + 1) j = va_up (zpf b i) k (some v) j := by
  subst h; subst hk
  exact zpf_s b k j
theorem zpf_l {b i v k j e c : Nat} (h : v = b + 5 * i) (hk : k = i) (hb : b = e + c) (hj : j < i + 1) : some (e + (c + 5 * j)) = va_up (zpf b i) k (some v) j := by
  rw [← zpf_u h hk]
  unfold zpf
  rw [if_pos hj, hb, Nat.add_assoc]
theorem zfn_0 {E : za_E} {j : Nat} (h : za_kd j = 0) : zfn E j = .inr (9, [.ref (E.1 + 1), .ref (E.1 + 6), .ref (E.1 + 11), .ref (E.1 + 68), .ref (E.1 + 79), .ref (E.1 + 81), .ref (E.1 + 83), .ref (E.1 + 85), .ref (E.1 + 87), .ref (E.1 + 89), .ref (E.1 + 90), .int 0]) := by unfold zfn; rw [h]; rfl
theorem zfn_1 {E : za_E} {j : Nat} (h : za_kd j = 1) : zfn E j = .inr (4, [.ref (E.1 + (j + 1)), .ref (E.1 + (j + 3)), .int 0, .int 0]) := by unfold zfn; rw [h]; rfl
theorem zfn_2 {E : za_E} {j : Nat} (h : za_kd j = 2) : zfn E j = .inr (6, [.ref (E.1 + (j + 1)), .int 0]) := by unfold zfn; rw [h]; rfl
theorem zfn_3 {E : za_E} {j : Nat} (h : za_kd j = 3) : zfn E j = .inl (E.2.2.1 0, 120, .inl (fun _ => 0)) := by unfold zfn; rw [h]; rfl
theorem zfn_4 {E : za_E} {j : Nat} (h : za_kd j = 4) : zfn E j = .inr (2, [.ref (E.1 + 12), .int 0, .int 0]) := by unfold zfn; rw [h]; rfl
theorem zfn_5 {E : za_E} {j : Nat} (h : za_kd j = 5) : zfn E j = .inl (E.2.2.1 4, 11, .inr (.inr (.inr (.inr (fun i => some (E.1 + (13 + 5 * i))))))) := by unfold zfn; rw [h]; rfl
theorem zfn_6 {E : za_E} {j : Nat} (h : za_kd j = 6) : zfn E j = .inl (E.2.2.1 4, 2, .inr (.inr (.inr (.inr (fun i => some (E.1 + (69 + 5 * i))))))) := by unfold zfn; rw [h]; rfl
theorem zfn_7 {E : za_E} {j : Nat} (h : za_kd j = 7) : zfn E j = .inr (7, [.ref (E.1 + 80), .int 0]) := by unfold zfn; rw [h]; rfl
theorem zfn_8 {E : za_E} {j : Nat} (h : za_kd j = 8) : zfn E j = .inl (E.2.2.1 1, 80, .inl (fun _ => 0)) := by unfold zfn; rw [h]; rfl
theorem zfn_9 {E : za_E} {j : Nat} (h : za_kd j = 9) : zfn E j = .inr (8, [.ref (E.1 + 82), .int 0]) := by unfold zfn; rw [h]; rfl
theorem zfn_10 {E : za_E} {j : Nat} (h : za_kd j = 10) : zfn E j = .inl (E.2.2.1 2, 12, .inr (.inl (fun _ => 0))) := by unfold zfn; rw [h]; rfl
theorem zfn_11 {E : za_E} {j : Nat} (h : za_kd j = 11) : zfn E j = .inr (3, [.ref (E.1 + 84), .int 0]) := by unfold zfn; rw [h]; rfl
theorem zfn_12 {E : za_E} {j : Nat} (h : za_kd j = 12) : zfn E j = .inl (E.2.2.1 0, 12, .inl (fun _ => 0)) := by unfold zfn; rw [h]; rfl
theorem zfn_13 {E : za_E} {j : Nat} (h : za_kd j = 13) : zfn E j = .inr (1, [.ref (E.1 + (j + 1))]) := by unfold zfn; rw [h]; rfl
theorem zfn_14 {E : za_E} {j : Nat} (h : za_kd j = 14) : zfn E j = .inl (E.2.2.1 0, 100, .inl (fun _ => 0)) := by unfold zfn; rw [h]; rfl
theorem zfn_15 {E : za_E} {j : Nat} (h : za_kd j = 15) : zfn E j = .inr (5, [.int 0, .int 0, .int 0, .int 0, .int 0, .int 0, .int 0, .int 0]) := by unfold zfn; rw [h]; rfl
theorem zfn_16 {E : za_E} {j : Nat} (h : za_kd j = 16) : zfn E j = .inr (0, [.ref (E.1 + 91), .ref (E.1 + 92), .int 0, .int 0, .int 0]) := by unfold zfn; rw [h]; rfl
theorem zfn_17 {E : za_E} {j : Nat} (h : za_kd j = 17) : zfn E j = .inl (E.2.2.1 1, 40, .inl (fun _ => 0)) := by unfold zfn; rw [h]; rfl
theorem zfn_18 {E : za_E} {j : Nat} (h : za_kd j = 18) : zfn E j = .inl (E.2.2.1 0, 7, .inl (fun _ => 0)) := by unfold zfn; rw [h]; rfl
theorem zfn_19 {E : za_E} {j : Nat} (h : za_kd j = 19) : zfn E j = .inr (10, [.int 0, .int 0, .ref (E.1 + 94), .ref (E.1 + 95), .int 0, .int 0, .int 0, .int 0, .ref (E.1 + 96), .int 0, .ref (E.1 + 97), .ref (E.1 + 98), .ref (E.1 + 99), .ref (E.1 + 100), .ref (E.1 + 101), .int 0, .int 0, .int 0, .ref (E.1 + 102), .int 0, .int 0, .ref (E.1 + 103), .ref (E.1 + 104), .int 0, .ref (E.1 + 185), .int 0, .int 0, .ref (E.1 + 186), .ref (E.1 + 187), .ref (E.1 + 188), .ref (E.1 + 189), .ref (E.1 + 190), .int 0, .ref (E.1 + 191), .ref (E.1 + 192), .int 0]) := by unfold zfn; rw [h]; rfl
theorem zfn_20 {E : za_E} {j : Nat} (h : za_kd j = 20) : zfn E j = .inl (E.2.2.1 2, 24, .inr (.inl (fun _ => 0))) := by unfold zfn; rw [h]; rfl
theorem zfn_21 {E : za_E} {j : Nat} (h : za_kd j = 21) : zfn E j = .inl (E.2.2.1 0, 80, .inl (fun _ => 0)) := by unfold zfn; rw [h]; rfl
theorem zfn_22 {E : za_E} {j : Nat} (h : za_kd j = 22) : zfn E j = .inl (E.2.2.1 0, 2001, .inl (fun _ => 0)) := by unfold zfn; rw [h]; rfl
theorem zfn_23 {E : za_E} {j : Nat} (h : za_kd j = 23) : zfn E j = .inl (E.2.2.1 0, 22011, .inl (fun _ => 0)) := by unfold zfn; rw [h]; rfl
theorem zfn_24 {E : za_E} {j : Nat} (h : za_kd j = 24) : zfn E j = .inl (E.2.2.1 5, 80, .inr (.inr (.inr (.inr (fun i => some (E.1 + (105 + 1 * i))))))) := by unfold zfn; rw [h]; rfl
theorem zfn_25 {E : za_E} {j : Nat} (h : za_kd j = 25) : zfn E j = .inl (E.2.2.1 0, 5, .inl (fun _ => 0)) := by unfold zfn; rw [h]; rfl
theorem zfn_26 {E : za_E} {j : Nat} (h : za_kd j = 26) : zfn E j = .inl (E.2.2.1 0, 20, .inl (fun _ => 0)) := by unfold zfn; rw [h]; rfl
theorem zfn_27 {E : za_E} {j : Nat} (h : za_kd j = 27) : zfn E j = .inl (E.2.2.1 3, 2, .inl (fun _ => 0)) := by unfold zfn; rw [h]; rfl
theorem zfn_28 {E : za_E} {j : Nat} (h : za_kd j = 28) : zfn E j = .inl (E.2.2.1 0, 4002, .inl (fun _ => 0)) := by unfold zfn; rw [h]; rfl
theorem zfn_29 {E : za_E} {j : Nat} (h : za_kd j = 29) : zfn E j = .inl (E.2.2.1 2, 1, .inr (.inl (fun _ => 0))) := by unfold zfn; rw [h]; rfl
theorem zfn_30 {E : za_E} {j : Nat} (h : za_kd j = 30) : zfn E j = .inl (E.2.2.1 0, 12, .inl (fun _ => 0)) := by unfold zfn; rw [h]; rfl
theorem zfn_31 {E : za_E} {j : Nat} (h : za_kd j = 31) : zfn E j = .inl (E.2.2.1 0, 100, .inl (fun _ => 0)) := by unfold zfn; rw [h]; rfl
theorem zfn_32 {E : za_E} {j : Nat} (h : za_kd j = 32) : zfn E j = .inl (E.2.2.1 0, 7, .inl (fun _ => 0)) := by unfold zfn; rw [h]; rfl
theorem zkd_2 {w : Nat} (h : za_kd w = 2) : za_kd (w + 1) = 3 := (by decide +kernel : ∀ w, w < 194 → za_kd w = 2 → za_kd (w + 1) = 3) w (za_kd_lt h (by decide)) h
theorem zkd_13 {w : Nat} (h : za_kd w = 13) : za_kd (w + 1) = 14 := (by decide +kernel : ∀ w, w < 194 → za_kd w = 13 → za_kd (w + 1) = 14) w (za_kd_lt h (by decide)) h
theorem zkd_1 {w : Nat} (h : za_kd w = 1) : za_kd (w + 1) = 2 ∧ za_kd (w + 3) = 2 := (by decide +kernel : ∀ w, w < 194 → za_kd w = 1 → za_kd (w + 1) = 2 ∧ za_kd (w + 3) = 2) w (za_kd_lt h (by decide)) h
set_option maxRecDepth 100000 in
theorem zdf_0 : ∀ j, j < 5 → defaultValue (tyX0 j) = vp_V [.null, .null, .int 0, .int 0, .int 0] j := fun j hj => match j, hj with
  | 0, _ => rfl
  | 1, _ => rfl
  | 2, _ => rfl
  | 3, _ => rfl
  | 4, _ => rfl
  | n + 5, h => absurd h (by omega)
theorem zkn_0 : zKN yX0_init RX0 5 cX0_init 1 := ⟨zm_314, zm_141, rfl, rfl, zm_316, zm_317, ⟨by decide +kernel, by decide +kernel, by decide +kernel⟩⟩
set_option maxRecDepth 100000 in
theorem zdf_1 : ∀ j, j < 1 → defaultValue (tyX1 j) = vp_V [.null] j := fun j hj => match j, hj with
  | 0, _ => rfl
  | n + 1, h => absurd h (by omega)
theorem zkn_1 : zKN yX1_init RX1 1 cX1_init 1 := ⟨zm_268, zm_139, rfl, rfl, zm_270, zm_271, ⟨by decide +kernel, by decide +kernel, by decide +kernel⟩⟩
set_option maxRecDepth 100000 in
theorem zdf_2 : ∀ j, j < 3 → defaultValue (tyX2 j) = vp_V [.null, .int 0, .int 0] j := fun j hj => match j, hj with
  | 0, _ => rfl
  | 1, _ => rfl
  | 2, _ => rfl
  | n + 3, h => absurd h (by omega)
theorem zkn_2 : zKN yX2_init RX2 3 cX2_init 2 := ⟨zm_203, zm_135, rfl, rfl, zm_205, zm_206, ⟨by decide +kernel, by decide +kernel, by decide +kernel⟩⟩
set_option maxRecDepth 100000 in
theorem zdf_3 : ∀ j, j < 2 → defaultValue (tyX3 j) = vp_V [.null, .int 0] j := fun j hj => match j, hj with
  | 0, _ => rfl
  | 1, _ => rfl
  | n + 2, h => absurd h (by omega)
theorem zkn_3 : zKN yX3_init RX3 2 cX3_init 1 := ⟨zm_254, zm_138, rfl, rfl, zm_256, zm_257, ⟨by decide +kernel, by decide +kernel, by decide +kernel⟩⟩
set_option maxRecDepth 100000 in
theorem zdf_4 : ∀ j, j < 4 → defaultValue (tyX4 j) = vp_V [.null, .null, .int 0, .int 0] j := fun j hj => match j, hj with
  | 0, _ => rfl
  | 1, _ => rfl
  | 2, _ => rfl
  | 3, _ => rfl
  | n + 4, h => absurd h (by omega)
theorem zkn_4 : zKN yX4_init RX4 4 cX4_init 1 := ⟨zm_164, zm_133, rfl, rfl, zm_166, zm_167, ⟨by decide +kernel, by decide +kernel, by decide +kernel⟩⟩
set_option maxRecDepth 100000 in
theorem zdf_5 : ∀ j, j < 8 → defaultValue (tyX5 j) = vp_V [.int 0, .int 0, .int 0, .int 0, .int 0, .int 0, .int 0, .int 0] j := fun j hj => match j, hj with
  | 0, _ => rfl
  | 1, _ => rfl
  | 2, _ => rfl
  | 3, _ => rfl
  | 4, _ => rfl
  | 5, _ => rfl
  | 6, _ => rfl
  | 7, _ => rfl
  | n + 8, h => absurd h (by omega)
theorem zkn_5 : zKN yX5_init RX5 8 cX5_init 1 := ⟨zm_278, zm_140, rfl, rfl, zm_280, zm_281, ⟨by decide +kernel, by decide +kernel, by decide +kernel⟩⟩
set_option maxRecDepth 100000 in
theorem zdf_6 : ∀ j, j < 2 → defaultValue (tyX6 j) = vp_V [.null, .int 0] j := fun j hj => match j, hj with
  | 0, _ => rfl
  | 1, _ => rfl
  | n + 2, h => absurd h (by omega)
theorem zkn_6 : zKN yX6_init RX6 2 cX6_init 1 := ⟨zm_170, zm_134, rfl, rfl, zm_172, zm_173, ⟨by decide +kernel, by decide +kernel, by decide +kernel⟩⟩
set_option maxRecDepth 100000 in
theorem zdf_7 : ∀ j, j < 2 → defaultValue (tyX7 j) = vp_V [.null, .int 0] j := fun j hj => match j, hj with
  | 0, _ => rfl
  | 1, _ => rfl
  | n + 2, h => absurd h (by omega)
theorem zkn_7 : zKN yX7_init RX7 2 cX7_init 1 := ⟨zm_223, zm_136, rfl, rfl, zm_225, zm_226, ⟨by decide +kernel, by decide +kernel, by decide +kernel⟩⟩
set_option maxRecDepth 100000 in
theorem zdf_8 : ∀ j, j < 2 → defaultValue (tyX8 j) = vp_V [.null, .int 0] j := fun j hj => match j, hj with
  | 0, _ => rfl
  | 1, _ => rfl
  | n + 2, h => absurd h (by omega)
theorem zkn_8 : zKN yX8_init RX8 2 cX8_init 1 := ⟨zm_239, zm_137, rfl, rfl, zm_241, zm_242, ⟨by decide +kernel, by decide +kernel, by decide +kernel⟩⟩
set_option maxRecDepth 100000 in
theorem zdf_9 : ∀ j, j < 12 → defaultValue (tyX9 j) = vp_V [.null, .null, .null, .null, .null, .null, .null, .null, .null, .null, .null, .int 0] j := fun j hj => match j, hj with
  | 0, _ => rfl
  | 1, _ => rfl
  | 2, _ => rfl
  | 3, _ => rfl
  | 4, _ => rfl
  | 5, _ => rfl
  | 6, _ => rfl
  | 7, _ => rfl
  | 8, _ => rfl
  | 9, _ => rfl
  | 10, _ => rfl
  | 11, _ => rfl
  | n + 12, h => absurd h (by omega)
theorem zkn_9 : zKN yX9_init RX9 12 cX9_init 1 := ⟨zm_156, zm_132, rfl, rfl, zm_158, zm_159, ⟨by decide +kernel, by decide +kernel, by decide +kernel⟩⟩
set_option maxRecDepth 100000 in
theorem zdf_10 : ∀ j, j < 36 → defaultValue (tyX10 j) = vp_V [.int 0, .int 0, .null, .null, .int 0, .int 0, .int 0, .int 0, .null, .int 0, .null, .null, .null, .null, .null, .int 0, .int 0, .int 0, .null, .int 0, .int 0, .null, .null, .int 0, .null, .int 0, .int 0, .null, .null, .null, .null, .null, .int 0, .null, .null, .int 0] j := fun j hj => match j, hj with
  | 0, _ => rfl
  | 1, _ => rfl
  | 2, _ => rfl
  | 3, _ => rfl
  | 4, _ => rfl
  | 5, _ => rfl
  | 6, _ => rfl
  | 7, _ => rfl
  | 8, _ => rfl
  | 9, _ => rfl
  | 10, _ => rfl
  | 11, _ => rfl
  | 12, _ => rfl
  | 13, _ => rfl
  | 14, _ => rfl
  | 15, _ => rfl
  | 16, _ => rfl
  | 17, _ => rfl
  | 18, _ => rfl
  | 19, _ => rfl
  | 20, _ => rfl
  | 21, _ => rfl
  | 22, _ => rfl
  | 23, _ => rfl
  | 24, _ => rfl
  | 25, _ => rfl
  | 26, _ => rfl
  | 27, _ => rfl
  | 28, _ => rfl
  | 29, _ => rfl
  | 30, _ => rfl
  | 31, _ => rfl
  | 32, _ => rfl
  | 33, _ => rfl
  | 34, _ => rfl
  | 35, _ => rfl
  | n + 36, h => absurd h (by omega)
theorem zkn_10 : zKN yX10_init RX10 36 cX10_init 1 := ⟨zm_1184, zm_142, rfl, rfl, zm_1186, zm_1187, ⟨by decide +kernel, by decide +kernel, by decide +kernel⟩⟩
set_option maxHeartbeats 4000000 in
set_option maxRecDepth 100000 in
theorem zn_X6 (l : Launch) (E : za_E) (w : Nat) (h0 : za_kd w = 2) : zMn l E yX6_init cX6_init 1 1 12 w 1 120 6 [.null, .int 0] := by
  refine zMn_of (g := zg E w (.inr (6, [.null, .int 0]))) (by decide) rfl (by decide) zg_w ?_
  intro p e s m args below meth c G hr hi hsz
  refine zn_aload_n (j := 0) G dX6_init_0 rfl rfl ?_
  refine zn_obj G zm_174 zm_161 zm_162 dX6_init_1 (Nat.le_of_ble_eq_true rfl) (Nat.le_of_ble_eq_true rfl) ?_
  refine zn_aload_n (j := 0) G dX6_init_4 rfl rfl ?_
  refine zn_bipush (v := 120) G dX6_init_5 (by decide) ?_
  refine zn_newa (atype := .int) (ty := .int) (t0 := 0) (a0 := (120, .inl (fun _ => 0))) (N' := 120) G rfl zm_185 rfl (fun _ _ h => h) ((zg_n (by omega)).trans (zfn_3 (zkd_2 h0))) (fun _ => rfl) (by decide) (by decide) (by decide) (by omega) (Nat.le_of_ble_eq_true rfl) (Nat.le_of_ble_eq_true rfl) dX6_init_7 ?_
  refine zn_cast (cells' := 1) (slots' := 120) (n' := 2) (pc' := 9) rfl rfl rfl rfl ?_
  refine zn_put (C := RX6) (T := TX6) (N := 2) (ci := 6) (fi := 0) (g' := (zg E w (.inr (6, [.ref (E.1 + (w + 1)), .int 0])))) G tyX6 tyX6_ok nmX6 zin_6 rfl hi (by decide) zm_175 rfl rfl (tyX6_ok 0 (by decide)) rfl rfl (Nat.le_of_ble_eq_true rfl) (Nat.le_of_ble_eq_true rfl) zg_w (fun _ h => zg_c h) zg_w dX6_init_9 ?_
  exact zn_ret (k9 := 1) (sl := 120) G hr dX6_init_12 (fun j _ => zg_f (zfn_2 h0))
set_option maxHeartbeats 4000000 in
set_option maxRecDepth 100000 in
theorem zn_X4 (l : Launch) (E : za_E) (w : Nat) (h0 : za_kd w = 1) : zMn l E yX4_init cX4_init 1 2 32 w 4 244 4 [.null, .null, .int 0, .int 0] := by
  refine zMn_of (g := zg E w (.inr (4, [.null, .null, .int 0, .int 0]))) (by decide) rfl (by decide) zg_w ?_
  intro p e s m args below meth c G hr hi hsz
  refine zn_aload_n (j := 0) G dX4_init_0 rfl rfl ?_
  refine zn_obj G zm_168 zm_161 zm_162 dX4_init_1 (Nat.le_of_ble_eq_true rfl) (Nat.le_of_ble_eq_true rfl) ?_
  refine zn_aload_n (j := 0) G dX4_init_4 rfl rfl ?_
  refine zn_subN (host := RX9) (C := RX6) (T := TX6) (N := 2) (ci := 6) (ik := 9) (ic := 11) (y := yX6_init) (bytes := cX6_init) (maxL := 1) (k9 := 1) (sl := 120) (fr := 1) (lo := 12) G tyX6 tyX6_ok zin_6 rfl zdf_6 zm_169 zkn_6 (zn_X6 l E (w + 1) (zkd_1 h0).1) zm_171 (fun i hi => zg_n (by omega)) (by omega) ⟨(Nat.le_of_ble_eq_true rfl), (Nat.le_of_ble_eq_true rfl)⟩ (Nat.le_of_ble_eq_true rfl) (Nat.le_of_ble_eq_true rfl) (Nat.le_of_ble_eq_true rfl) dX4_init_5 dX4_init_8 dX4_init_9 ?_
  refine zn_cast (cells' := 2) (slots' := 122) (n' := 3) (pc' := 12) rfl rfl rfl rfl ?_
  refine zn_put (C := RX4) (T := TX4) (N := 4) (ci := 4) (fi := 0) (g' := (zg E w (.inr (4, [.ref (E.1 + (w + 1)), .null, .int 0, .int 0])))) G tyX4 tyX4_ok nmX4 zin_4 rfl hi (by decide) zm_186 rfl rfl (tyX4_ok 0 (by decide)) rfl rfl (Nat.le_of_ble_eq_true rfl) (Nat.le_of_ble_eq_true rfl) zg_w (fun _ h => zg_c h) zg_w dX4_init_12 ?_
  refine zn_aload_n (j := 0) G dX4_init_15 rfl rfl ?_
  refine zn_subN (host := RX9) (C := RX6) (T := TX6) (N := 2) (ci := 6) (ik := 9) (ic := 11) (y := yX6_init) (bytes := cX6_init) (maxL := 1) (k9 := 1) (sl := 120) (fr := 1) (lo := 12) G tyX6 tyX6_ok zin_6 rfl zdf_6 zm_169 zkn_6 (zn_X6 l E (w + 3) (zkd_1 h0).2) zm_171 (fun i hi => zg_n (by omega)) (by omega) ⟨(Nat.le_of_ble_eq_true rfl), (Nat.le_of_ble_eq_true rfl)⟩ (Nat.le_of_ble_eq_true rfl) (Nat.le_of_ble_eq_true rfl) (Nat.le_of_ble_eq_true rfl) dX4_init_16 dX4_init_19 dX4_init_20 ?_
  refine zn_cast (cells' := 4) (slots' := 244) (n' := 5) (pc' := 23) rfl rfl rfl rfl ?_
  refine zn_put (C := RX4) (T := TX4) (N := 4) (ci := 4) (fi := 1) (g' := (zg E w (.inr (4, [.ref (E.1 + (w + 1)), .ref (E.1 + (w + 3)), .int 0, .int 0])))) G tyX4 tyX4_ok nmX4 zin_4 rfl hi (by decide) zm_188 rfl rfl (tyX4_ok 1 (by decide)) rfl rfl (Nat.le_of_ble_eq_true rfl) (Nat.le_of_ble_eq_true rfl) zg_w (fun _ h => zg_c h) zg_w dX4_init_23 ?_
  exact zn_ret (k9 := 4) (sl := 244) G hr dX4_init_26 (fun j _ => zg_f (zfn_1 h0))
set_option maxHeartbeats 4000000 in
set_option maxRecDepth 100000 in
theorem zn_X2 (l : Launch) (E : za_E) : zMn l E yX2_init cX2_init 2 3 52 11 56 2739 2 [.null, .int 0, .int 0] := by
  refine zMn_of (g := zg E 11 (.inr (2, [.null, .int 0, .int 0]))) (by decide) rfl (by decide) zg_w ?_
  intro p e s m args below meth c G hr hi hsz
  refine zn_aload_n (j := 0) G dX2_init_0 rfl rfl ?_
  refine zn_obj G zm_207 zm_161 zm_162 dX2_init_1 (Nat.le_of_ble_eq_true rfl) (Nat.le_of_ble_eq_true rfl) ?_
  refine zn_aload_n (j := 0) G dX2_init_4 rfl rfl ?_
  refine zn_bipush (v := 11) G dX2_init_5 (by decide) ?_
  refine zn_g (g' := (zh E 11 (.inr (2, [.null, .int 0, .int 0])) 12 (.inl (E.2.2.1 4, 11, .inr (.inr (.inr (.inr (zpf (E.1 + 13) 0)))))))) (fun j hj => if_neg (by omega)) ?_
  refine zn_newq (N' := 11) (f := zpf (E.1 + 13) 0) G zm_208 zh_a (fun j _ => zpf_0 _ _) (by decide) (by decide) (by decide) (by omega) (Nat.le_of_ble_eq_true rfl) (Nat.le_of_ble_eq_true rfl) dX2_init_7 ?_
  refine zn_cast (cells' := 1) (slots' := 11) (n' := 2) (pc' := 10) rfl rfl rfl rfl ?_
  refine zn_put (C := RX2) (T := TX2) (N := 3) (ci := 2) (fi := 0) (g' := (zh E 11 (.inr (2, [.ref (E.1 + (11 + 1)), .int 0, .int 0])) 12 (.inl (E.2.2.1 4, 11, .inr (.inr (.inr (.inr (zpf (E.1 + 13) 0)))))))) G tyX2 tyX2_ok nmX2 zin_2 rfl hi (by decide) zm_211 rfl rfl (tyX2_ok 0 (by decide)) rfl rfl (Nat.le_of_ble_eq_true rfl) (Nat.le_of_ble_eq_true rfl) (zh_w (by omega)) (fun _ h => zh_p h) (zh_w (by omega)) dX2_init_10 ?_
  refine zn_iconst (v := 0) G dX2_init_13 (by decide) ?_
  refine zn_istore_n G dX2_init_14 rfl (by decide) rfl ?_
  refine zn_iload_n (j := 0) G dX2_init_15 rfl rfl ?_
  refine zn_bipush (v := 11) G dX2_init_16 (by decide) ?_
  refine zn_geF (tgt := 40) G dX2_init_18 (by decide) (by decide) ?_
  refine zn_aload_n (j := 1) G dX2_init_21 rfl rfl ?_
  refine zn_get (C := RX2) (T := TX2) (N := 3) (ci := 2) (fi := 0) G zin_2 rfl (by decide) zm_211 (Nat.le_of_ble_eq_true rfl) (zh_w (by omega)) rfl dX2_init_22 ?_
  refine zn_iload_n (j := 0) G dX2_init_25 rfl rfl ?_
  refine zn_subN (host := RX9) (C := RX4) (T := TX4) (N := 4) (ci := 4) (ik := 9) (ic := 15) (y := yX4_init) (bytes := cX4_init) (maxL := 1) (k9 := 4) (sl := 244) (fr := 2) (lo := 32) G tyX4 tyX4_ok zin_4 rfl zdf_4 zm_208 zkn_4 (zn_X4 l E (11 + 2) (by decide +kernel : za_kd (11 + 2) = 1)) zm_210 (fun i hi => zh_n (by omega) (by omega)) (by omega) ⟨(Nat.le_of_ble_eq_true rfl), (Nat.le_of_ble_eq_true rfl)⟩ (Nat.le_of_ble_eq_true rfl) (Nat.le_of_ble_eq_true rfl) (Nat.le_of_ble_eq_true rfl) dX2_init_26 dX2_init_29 dX2_init_30 ?_
  refine zn_cast (cells' := 6) (slots' := 259) (n' := 7) (pc' := 33) rfl rfl rfl rfl ?_
  refine zn_aast (ka := 1) (kb := 2) (g' := (zh E 11 (.inr (2, [.ref (E.1 + (11 + 1)), .int 0, .int 0])) 12 (.inl (E.2.2.1 4, 11, .inr (.inr (.inr (.inr (zpf (E.1 + 13) 1)))))))) (f := zpf (E.1 + 13) 0) (f' := zpf (E.1 + 13) 1) G rfl rfl (Nat.le_of_ble_eq_true rfl) (Nat.le_of_ble_eq_true rfl) zh_a ((zh_n (by omega) (by omega)).trans (zfn_1 (by decide +kernel : za_kd (11 + 2) = 1))) (fun _ h => zh_c h) zh_a (fun j _ => zpf_u (by omega) (by decide)) (z_in (by decide) (by decide)) dX2_init_33 ?_
  refine zn_iinc (j := 0) (v := 1) G dX2_init_34 rfl (by decide) (by decide) rfl ?_
  refine zn_goto (tgt := 15) G dX2_init_37 (by decide) ?_
  refine zn_iload_n (j := 0) G dX2_init_15 rfl rfl ?_
  refine zn_bipush (v := 11) G dX2_init_16 (by decide) ?_
  refine zn_geF (tgt := 40) G dX2_init_18 (by decide) (by decide) ?_
  refine zn_aload_n (j := 1) G dX2_init_21 rfl rfl ?_
  refine zn_get (C := RX2) (T := TX2) (N := 3) (ci := 2) (fi := 0) G zin_2 rfl (by decide) zm_211 (Nat.le_of_ble_eq_true rfl) (zh_w (by omega)) rfl dX2_init_22 ?_
  refine zn_iload_n (j := 0) G dX2_init_25 rfl rfl ?_
  refine zn_subN (host := RX9) (C := RX4) (T := TX4) (N := 4) (ci := 4) (ik := 9) (ic := 15) (y := yX4_init) (bytes := cX4_init) (maxL := 1) (k9 := 4) (sl := 244) (fr := 2) (lo := 32) G tyX4 tyX4_ok zin_4 rfl zdf_4 zm_208 zkn_4 (zn_X4 l E (11 + 7) (by decide +kernel : za_kd (11 + 7) = 1)) zm_210 (fun i hi => zh_n (by omega) (by omega)) (by omega) ⟨(Nat.le_of_ble_eq_true rfl), (Nat.le_of_ble_eq_true rfl)⟩ (Nat.le_of_ble_eq_true rfl) (Nat.le_of_ble_eq_true rfl) (Nat.le_of_ble_eq_true rfl) dX2_init_26 dX2_init_29 dX2_init_30 ?_
  refine zn_cast (cells' := 11) (slots' := 507) (n' := 12) (pc' := 33) rfl rfl rfl rfl ?_
  refine zn_aast (ka := 1) (kb := 7) (g' := (zh E 11 (.inr (2, [.ref (E.1 + (11 + 1)), .int 0, .int 0])) 12 (.inl (E.2.2.1 4, 11, .inr (.inr (.inr (.inr (zpf (E.1 + 13) 2)))))))) (f := zpf (E.1 + 13) 1) (f' := zpf (E.1 + 13) 2) G rfl rfl (Nat.le_of_ble_eq_true rfl) (Nat.le_of_ble_eq_true rfl) zh_a ((zh_n (by omega) (by omega)).trans (zfn_1 (by decide +kernel : za_kd (11 + 7) = 1))) (fun _ h => zh_c h) zh_a (fun j _ => zpf_u (by omega) (by decide)) (z_in (by decide) (by decide)) dX2_init_33 ?_
  refine zn_iinc (j := 0) (v := 2) G dX2_init_34 rfl (by decide) (by decide) rfl ?_
  refine zn_goto (tgt := 15) G dX2_init_37 (by decide) ?_
  refine zn_iload_n (j := 0) G dX2_init_15 rfl rfl ?_
  refine zn_bipush (v := 11) G dX2_init_16 (by decide) ?_
  refine zn_geF (tgt := 40) G dX2_init_18 (by decide) (by decide) ?_
  refine zn_aload_n (j := 1) G dX2_init_21 rfl rfl ?_
  refine zn_get (C := RX2) (T := TX2) (N := 3) (ci := 2) (fi := 0) G zin_2 rfl (by decide) zm_211 (Nat.le_of_ble_eq_true rfl) (zh_w (by omega)) rfl dX2_init_22 ?_
  refine zn_iload_n (j := 0) G dX2_init_25 rfl rfl ?_
  refine zn_subN (host := RX9) (C := RX4) (T := TX4) (N := 4) (ci := 4) (ik := 9) (ic := 15) (y := yX4_init) (bytes := cX4_init) (maxL := 1) (k9 := 4) (sl := 244) (fr := 2) (lo := 32) G tyX4 tyX4_ok zin_4 rfl zdf_4 zm_208 zkn_4 (zn_X4 l E (11 + 12) (by decide +kernel : za_kd (11 + 12) = 1)) zm_210 (fun i hi => zh_n (by omega) (by omega)) (by omega) ⟨(Nat.le_of_ble_eq_true rfl), (Nat.le_of_ble_eq_true rfl)⟩ (Nat.le_of_ble_eq_true rfl) (Nat.le_of_ble_eq_true rfl) (Nat.le_of_ble_eq_true rfl) dX2_init_26 dX2_init_29 dX2_init_30 ?_
  refine zn_cast (cells' := 16) (slots' := 755) (n' := 17) (pc' := 33) rfl rfl rfl rfl ?_
  refine zn_aast (ka := 1) (kb := 12) (g' := (zh E 11 (.inr (2, [.ref (E.1 + (11 + 1)), .int 0, .int 0])) 12 (.inl (E.2.2.1 4, 11, .inr (.inr (.inr (.inr (zpf (E.1 + 13) 3)))))))) (f := zpf (E.1 + 13) 2) (f' := zpf (E.1 + 13) 3) G rfl rfl (Nat.le_of_ble_eq_true rfl) (Nat.le_of_ble_eq_true rfl) zh_a ((zh_n (by omega) (by omega)).trans (zfn_1 (by decide +kernel : za_kd (11 + 12) = 1))) (fun _ h => zh_c h) zh_a (fun j _ => zpf_u (by omega) (by decide)) (z_in (by decide) (by decide)) dX2_init_33 ?_
  refine zn_iinc (j := 0) (v := 3) G dX2_init_34 rfl (by decide) (by decide) rfl ?_
  refine zn_goto (tgt := 15) G dX2_init_37 (by decide) ?_
  refine zn_iload_n (j := 0) G dX2_init_15 rfl rfl ?_
  refine zn_bipush (v := 11) G dX2_init_16 (by decide) ?_
  refine zn_geF (tgt := 40) G dX2_init_18 (by decide) (by decide) ?_
  refine zn_aload_n (j := 1) G dX2_init_21 rfl rfl ?_
  refine zn_get (C := RX2) (T := TX2) (N := 3) (ci := 2) (fi := 0) G zin_2 rfl (by decide) zm_211 (Nat.le_of_ble_eq_true rfl) (zh_w (by omega)) rfl dX2_init_22 ?_
  refine zn_iload_n (j := 0) G dX2_init_25 rfl rfl ?_
  refine zn_subN (host := RX9) (C := RX4) (T := TX4) (N := 4) (ci := 4) (ik := 9) (ic := 15) (y := yX4_init) (bytes := cX4_init) (maxL := 1) (k9 := 4) (sl := 244) (fr := 2) (lo := 32) G tyX4 tyX4_ok zin_4 rfl zdf_4 zm_208 zkn_4 (zn_X4 l E (11 + 17) (by decide +kernel : za_kd (11 + 17) = 1)) zm_210 (fun i hi => zh_n (by omega) (by omega)) (by omega) ⟨(Nat.le_of_ble_eq_true rfl), (Nat.le_of_ble_eq_true rfl)⟩ (Nat.le_of_ble_eq_true rfl) (Nat.le_of_ble_eq_true rfl) (Nat.le_of_ble_eq_true rfl) dX2_init_26 dX2_init_29 dX2_init_30 ?_
  refine zn_cast (cells' := 21) (slots' := 1003) (n' := 22) (pc' := 33) rfl rfl rfl rfl ?_
  refine zn_aast (ka := 1) (kb := 17) (g' := (zh E 11 (.inr (2, [.ref (E.1 + (11 + 1)), .int 0, .int 0])) 12 (.inl (E.2.2.1 4, 11, .inr (.inr (.inr (.inr (zpf (E.1 + 13) 4)))))))) (f := zpf (E.1 + 13) 3) (f' := zpf (E.1 + 13) 4) G rfl rfl (Nat.le_of_ble_eq_true rfl) (Nat.le_of_ble_eq_true rfl) zh_a ((zh_n (by omega) (by omega)).trans (zfn_1 (by decide +kernel : za_kd (11 + 17) = 1))) (fun _ h => zh_c h) zh_a (fun j _ => zpf_u (by omega) (by decide)) (z_in (by decide) (by decide)) dX2_init_33 ?_
  refine zn_iinc (j := 0) (v := 4) G dX2_init_34 rfl (by decide) (by decide) rfl ?_
  refine zn_goto (tgt := 15) G dX2_init_37 (by decide) ?_
  refine zn_iload_n (j := 0) G dX2_init_15 rfl rfl ?_
  refine zn_bipush (v := 11) G dX2_init_16 (by decide) ?_
  refine zn_geF (tgt := 40) G dX2_init_18 (by decide) (by decide) ?_
  refine zn_aload_n (j := 1) G dX2_init_21 rfl rfl ?_
  refine zn_get (C := RX2) (T := TX2) (N := 3) (ci := 2) (fi := 0) G zin_2 rfl (by decide) zm_211 (Nat.le_of_ble_eq_true rfl) (zh_w (by omega)) rfl dX2_init_22 ?_
  refine zn_iload_n (j := 0) G dX2_init_25 rfl rfl ?_
  refine zn_subN (host := RX9) (C := RX4) (T := TX4) (N := 4) (ci := 4) (ik := 9) (ic := 15) (y := yX4_init) (bytes := cX4_init) (maxL := 1) (k9 := 4) (sl := 244) (fr := 2) (lo := 32) G tyX4 tyX4_ok zin_4 rfl zdf_4 zm_208 zkn_4 (zn_X4 l E (11 + 22) (by decide +kernel : za_kd (11 + 22) = 1)) zm_210 (fun i hi => zh_n (by omega) (by omega)) (by omega) ⟨(Nat.le_of_ble_eq_true rfl), (Nat.le_of_ble_eq_true rfl)⟩ (Nat.le_of_ble_eq_true rfl) (Nat.le_of_ble_eq_true rfl) (Nat.le_of_ble_eq_true rfl) dX2_init_26 dX2_init_29 dX2_init_30 ?_
  refine zn_cast (cells' := 26) (slots' := 1251) (n' := 27) (pc' := 33) rfl rfl rfl rfl ?_
  refine zn_aast (ka := 1) (kb := 22) (g' := (zh E 11 (.inr (2, [.ref (E.1 + (11 + 1)), .int 0, .int 0])) 12 (.inl (E.2.2.1 4, 11, .inr (.inr (.inr (.inr (zpf (E.1 + 13) 5)))))))) (f := zpf (E.1 + 13) 4) (f' := zpf (E.1 + 13) 5) G rfl rfl (Nat.le_of_ble_eq_true rfl) (Nat.le_of_ble_eq_true rfl) zh_a ((zh_n (by omega) (by omega)).trans (zfn_1 (by decide +kernel : za_kd (11 + 22) = 1))) (fun _ h => zh_c h) zh_a (fun j _ => zpf_u (by omega) (by decide)) (z_in (by decide) (by decide)) dX2_init_33 ?_
  refine zn_iinc (j := 0) (v := 5) G dX2_init_34 rfl (by decide) (by decide) rfl ?_
  refine zn_goto (tgt := 15) G dX2_init_37 (by decide) ?_
  refine zn_iload_n (j := 0) G dX2_init_15 rfl rfl ?_
  refine zn_bipush (v := 11) G dX2_init_16 (by decide) ?_
  refine zn_geF (tgt := 40) G dX2_init_18 (by decide) (by decide) ?_
  refine zn_aload_n (j := 1) G dX2_init_21 rfl rfl ?_
  refine zn_get (C := RX2) (T := TX2) (N := 3) (ci := 2) (fi := 0) G zin_2 rfl (by decide) zm_211 (Nat.le_of_ble_eq_true rfl) (zh_w (by omega)) rfl dX2_init_22 ?_
  refine zn_iload_n (j := 0) G dX2_init_25 rfl rfl ?_
  refine zn_subN (host := RX9) (C := RX4) (T := TX4) (N := 4) (ci := 4) (ik := 9) (ic := 15) (y := yX4_init) (bytes := cX4_init) (maxL := 1) (k9 := 4) (sl := 244) (fr := 2) (lo := 32) G tyX4 tyX4_ok zin_4 rfl zdf_4 zm_208 zkn_4 (zn_X4 l E (11 + 27) (by decide +kernel : za_kd (11 + 27) = 1)) zm_210 (fun i hi => zh_n (by omega) (by omega)) (by omega) ⟨(Nat.le_of_ble_eq_true rfl), (Nat.le_of_ble_eq_true rfl)⟩ (Nat.le_of_ble_eq_true rfl) (Nat.le_of_ble_eq_true rfl) (Nat.le_of_ble_eq_true rfl) dX2_init_26 dX2_init_29 dX2_init_30 ?_
  refine zn_cast (cells' := 31) (slots' := 1499) (n' := 32) (pc' := 33) rfl rfl rfl rfl ?_
  refine zn_aast (ka := 1) (kb := 27) (g' := (zh E 11 (.inr (2, [.ref (E.1 + (11 + 1)), .int 0, .int 0])) 12 (.inl (E.2.2.1 4, 11, .inr (.inr (.inr (.inr (zpf (E.1 + 13) 6)))))))) (f := zpf (E.1 + 13) 5) (f' := zpf (E.1 + 13) 6) G rfl rfl (Nat.le_of_ble_eq_true rfl) (Nat.le_of_ble_eq_true rfl) zh_a ((zh_n (by omega) (by omega)).trans (zfn_1 (by decide +kernel : za_kd (11 + 27) = 1))) (fun _ h => zh_c h) zh_a (fun j _ => zpf_u (by omega) (by decide)) (z_in (by decide) (by decide)) dX2_init_33 ?_
  refine zn_iinc (j := 0) (v := 6) G dX2_init_34 rfl (by decide) (by decide) rfl ?_
  refine zn_goto (tgt := 15) G dX2_init_37 (by decide) ?_
  refine zn_iload_n (j := 0) G dX2_init_15 rfl rfl ?_
  refine zn_bipush (v := 11) G dX2_init_16 (by decide) ?_
  refine zn_geF (tgt := 40) G dX2_init_18 (by decide) (by decide) ?_
  refine zn_aload_n (j := 1) G dX2_init_21 rfl rfl ?_
  refine zn_get (C := RX2) (T := TX2) (N := 3) (ci := 2) (fi := 0) G zin_2 rfl (by decide) zm_211 (Nat.le_of_ble_eq_true rfl) (zh_w (by omega)) rfl dX2_init_22 ?_
  refine zn_iload_n (j := 0) G dX2_init_25 rfl rfl ?_
  refine zn_subN (host := RX9) (C := RX4) (T := TX4) (N := 4) (ci := 4) (ik := 9) (ic := 15) (y := yX4_init) (bytes := cX4_init) (maxL := 1) (k9 := 4) (sl := 244) (fr := 2) (lo := 32) G tyX4 tyX4_ok zin_4 rfl zdf_4 zm_208 zkn_4 (zn_X4 l E (11 + 32) (by decide +kernel : za_kd (11 + 32) = 1)) zm_210 (fun i hi => zh_n (by omega) (by omega)) (by omega) ⟨(Nat.le_of_ble_eq_true rfl), (Nat.le_of_ble_eq_true rfl)⟩ (Nat.le_of_ble_eq_true rfl) (Nat.le_of_ble_eq_true rfl) (Nat.le_of_ble_eq_true rfl) dX2_init_26 dX2_init_29 dX2_init_30 ?_
  refine zn_cast (cells' := 36) (slots' := 1747) (n' := 37) (pc' := 33) rfl rfl rfl rfl ?_
  refine zn_aast (ka := 1) (kb := 32) (g' := (zh E 11 (.inr (2, [.ref (E.1 + (11 + 1)), .int 0, .int 0])) 12 (.inl (E.2.2.1 4, 11, .inr (.inr (.inr (.inr (zpf (E.1 + 13) 7)))))))) (f := zpf (E.1 + 13) 6) (f' := zpf (E.1 + 13) 7) G rfl rfl (Nat.le_of_ble_eq_true rfl) (Nat.le_of_ble_eq_true rfl) zh_a ((zh_n (by omega) (by omega)).trans (zfn_1 (by decide +kernel : za_kd (11 + 32) = 1))) (fun _ h => zh_c h) zh_a (fun j _ => zpf_u (by omega) (by decide)) (z_in (by decide) (by decide)) dX2_init_33 ?_
  refine zn_iinc (j := 0) (v := 7) G dX2_init_34 rfl (by decide) (by decide) rfl ?_
  refine zn_goto (tgt := 15) G dX2_init_37 (by decide) ?_
  refine zn_iload_n (j := 0) G dX2_init_15 rfl rfl ?_
  refine zn_bipush (v := 11) G dX2_init_16 (by decide) ?_
  refine zn_geF (tgt := 40) G dX2_init_18 (by decide) (by decide) ?_
  refine zn_aload_n (j := 1) G dX2_init_21 rfl rfl ?_
  refine zn_get (C := RX2) (T := TX2) (N := 3) (ci := 2) (fi := 0) G zin_2 rfl (by decide) zm_211 (Nat.le_of_ble_eq_true rfl) (zh_w (by omega)) rfl dX2_init_22 ?_
  refine zn_iload_n (j := 0) G dX2_init_25 rfl rfl ?_
  refine zn_subN (host := RX9) (C := RX4) (T := TX4) (N := 4) (ci := 4) (ik := 9) (ic := 15) (y := yX4_init) (bytes := cX4_init) (maxL := 1) (k9 := 4) (sl := 244) (fr := 2) (lo := 32) G tyX4 tyX4_ok zin_4 rfl zdf_4 zm_208 zkn_4 (zn_X4 l E (11 + 37) (by decide +kernel : za_kd (11 + 37) = 1)) zm_210 (fun i hi => zh_n (by omega) (by omega)) (by omega) ⟨(Nat.le_of_ble_eq_true rfl), (Nat.le_of_ble_eq_true rfl)⟩ (Nat.le_of_ble_eq_true rfl) (Nat.le_of_ble_eq_true rfl) (Nat.le_of_ble_eq_true rfl) dX2_init_26 dX2_init_29 dX2_init_30 ?_
  refine zn_cast (cells' := 41) (slots' := 1995) (n' := 42) (pc' := 33) rfl rfl rfl rfl ?_
  refine zn_aast (ka := 1) (kb := 37) (g' := (zh E 11 (.inr (2, [.ref (E.1 + (11 + 1)), .int 0, .int 0])) 12 (.inl (E.2.2.1 4, 11, .inr (.inr (.inr (.inr (zpf (E.1 + 13) 8)))))))) (f := zpf (E.1 + 13) 7) (f' := zpf (E.1 + 13) 8) G rfl rfl (Nat.le_of_ble_eq_true rfl) (Nat.le_of_ble_eq_true rfl) zh_a ((zh_n (by omega) (by omega)).trans (zfn_1 (by decide +kernel : za_kd (11 + 37) = 1))) (fun _ h => zh_c h) zh_a (fun j _ => zpf_u (by omega) (by decide)) (z_in (by decide) (by decide)) dX2_init_33 ?_
  refine zn_iinc (j := 0) (v := 8) G dX2_init_34 rfl (by decide) (by decide) rfl ?_
  refine zn_goto (tgt := 15) G dX2_init_37 (by decide) ?_
  refine zn_iload_n (j := 0) G dX2_init_15 rfl rfl ?_
  refine zn_bipush (v := 11) G dX2_init_16 (by decide) ?_
  refine zn_geF (tgt := 40) G dX2_init_18 (by decide) (by decide) ?_
  refine zn_aload_n (j := 1) G dX2_init_21 rfl rfl ?_
  refine zn_get (C := RX2) (T := TX2) (N := 3) (ci := 2) (fi := 0) G zin_2 rfl (by decide) zm_211 (Nat.le_of_ble_eq_true rfl) (zh_w (by omega)) rfl dX2_init_22 ?_
  refine zn_iload_n (j := 0) G dX2_init_25 rfl rfl ?_
  refine zn_subN (host := RX9) (C := RX4) (T := TX4) (N := 4) (ci := 4) (ik := 9) (ic := 15) (y := yX4_init) (bytes := cX4_init) (maxL := 1) (k9 := 4) (sl := 244) (fr := 2) (lo := 32) G tyX4 tyX4_ok zin_4 rfl zdf_4 zm_208 zkn_4 (zn_X4 l E (11 + 42) (by decide +kernel : za_kd (11 + 42) = 1)) zm_210 (fun i hi => zh_n (by omega) (by omega)) (by omega) ⟨(Nat.le_of_ble_eq_true rfl), (Nat.le_of_ble_eq_true rfl)⟩ (Nat.le_of_ble_eq_true rfl) (Nat.le_of_ble_eq_true rfl) (Nat.le_of_ble_eq_true rfl) dX2_init_26 dX2_init_29 dX2_init_30 ?_
  refine zn_cast (cells' := 46) (slots' := 2243) (n' := 47) (pc' := 33) rfl rfl rfl rfl ?_
  refine zn_aast (ka := 1) (kb := 42) (g' := (zh E 11 (.inr (2, [.ref (E.1 + (11 + 1)), .int 0, .int 0])) 12 (.inl (E.2.2.1 4, 11, .inr (.inr (.inr (.inr (zpf (E.1 + 13) 9)))))))) (f := zpf (E.1 + 13) 8) (f' := zpf (E.1 + 13) 9) G rfl rfl (Nat.le_of_ble_eq_true rfl) (Nat.le_of_ble_eq_true rfl) zh_a ((zh_n (by omega) (by omega)).trans (zfn_1 (by decide +kernel : za_kd (11 + 42) = 1))) (fun _ h => zh_c h) zh_a (fun j _ => zpf_u (by omega) (by decide)) (z_in (by decide) (by decide)) dX2_init_33 ?_
  refine zn_iinc (j := 0) (v := 9) G dX2_init_34 rfl (by decide) (by decide) rfl ?_
  refine zn_goto (tgt := 15) G dX2_init_37 (by decide) ?_
  refine zn_iload_n (j := 0) G dX2_init_15 rfl rfl ?_
  refine zn_bipush (v := 11) G dX2_init_16 (by decide) ?_
  refine zn_geF (tgt := 40) G dX2_init_18 (by decide) (by decide) ?_
  refine zn_aload_n (j := 1) G dX2_init_21 rfl rfl ?_
  refine zn_get (C := RX2) (T := TX2) (N := 3) (ci := 2) (fi := 0) G zin_2 rfl (by decide) zm_211 (Nat.le_of_ble_eq_true rfl) (zh_w (by omega)) rfl dX2_init_22 ?_
  refine zn_iload_n (j := 0) G dX2_init_25 rfl rfl ?_
  refine zn_subN (host := RX9) (C := RX4) (T := TX4) (N := 4) (ci := 4) (ik := 9) (ic := 15) (y := yX4_init) (bytes := cX4_init) (maxL := 1) (k9 := 4) (sl := 244) (fr := 2) (lo := 32) G tyX4 tyX4_ok zin_4 rfl zdf_4 zm_208 zkn_4 (zn_X4 l E (11 + 47) (by decide +kernel : za_kd (11 + 47) = 1)) zm_210 (fun i hi => zh_n (by omega) (by omega)) (by omega) ⟨(Nat.le_of_ble_eq_true rfl), (Nat.le_of_ble_eq_true rfl)⟩ (Nat.le_of_ble_eq_true rfl) (Nat.le_of_ble_eq_true rfl) (Nat.le_of_ble_eq_true rfl) dX2_init_26 dX2_init_29 dX2_init_30 ?_
  refine zn_cast (cells' := 51) (slots' := 2491) (n' := 52) (pc' := 33) rfl rfl rfl rfl ?_
  refine zn_aast (ka := 1) (kb := 47) (g' := (zh E 11 (.inr (2, [.ref (E.1 + (11 + 1)), .int 0, .int 0])) 12 (.inl (E.2.2.1 4, 11, .inr (.inr (.inr (.inr (zpf (E.1 + 13) 10)))))))) (f := zpf (E.1 + 13) 9) (f' := zpf (E.1 + 13) 10) G rfl rfl (Nat.le_of_ble_eq_true rfl) (Nat.le_of_ble_eq_true rfl) zh_a ((zh_n (by omega) (by omega)).trans (zfn_1 (by decide +kernel : za_kd (11 + 47) = 1))) (fun _ h => zh_c h) zh_a (fun j _ => zpf_u (by omega) (by decide)) (z_in (by decide) (by decide)) dX2_init_33 ?_
  refine zn_iinc (j := 0) (v := 10) G dX2_init_34 rfl (by decide) (by decide) rfl ?_
  refine zn_goto (tgt := 15) G dX2_init_37 (by decide) ?_
  refine zn_iload_n (j := 0) G dX2_init_15 rfl rfl ?_
  refine zn_bipush (v := 11) G dX2_init_16 (by decide) ?_
  refine zn_geF (tgt := 40) G dX2_init_18 (by decide) (by decide) ?_
  refine zn_aload_n (j := 1) G dX2_init_21 rfl rfl ?_
  refine zn_get (C := RX2) (T := TX2) (N := 3) (ci := 2) (fi := 0) G zin_2 rfl (by decide) zm_211 (Nat.le_of_ble_eq_true rfl) (zh_w (by omega)) rfl dX2_init_22 ?_
  refine zn_iload_n (j := 0) G dX2_init_25 rfl rfl ?_
  refine zn_subN (host := RX9) (C := RX4) (T := TX4) (N := 4) (ci := 4) (ik := 9) (ic := 15) (y := yX4_init) (bytes := cX4_init) (maxL := 1) (k9 := 4) (sl := 244) (fr := 2) (lo := 32) G tyX4 tyX4_ok zin_4 rfl zdf_4 zm_208 zkn_4 (zn_X4 l E (11 + 52) (by decide +kernel : za_kd (11 + 52) = 1)) zm_210 (fun i hi => zh_n (by omega) (by omega)) (by omega) ⟨(Nat.le_of_ble_eq_true rfl), (Nat.le_of_ble_eq_true rfl)⟩ (Nat.le_of_ble_eq_true rfl) (Nat.le_of_ble_eq_true rfl) (Nat.le_of_ble_eq_true rfl) dX2_init_26 dX2_init_29 dX2_init_30 ?_
  refine zn_cast (cells' := 56) (slots' := 2739) (n' := 57) (pc' := 33) rfl rfl rfl rfl ?_
  refine zn_aast (ka := 1) (kb := 52) (g' := (zh E 11 (.inr (2, [.ref (E.1 + (11 + 1)), .int 0, .int 0])) 12 (.inl (E.2.2.1 4, 11, .inr (.inr (.inr (.inr (fun i => some (E.1 + (13 + 5 * i)))))))))) (f := zpf (E.1 + 13) 10) (f' := fun i => some (E.1 + (13 + 5 * i))) G rfl rfl (Nat.le_of_ble_eq_true rfl) (Nat.le_of_ble_eq_true rfl) zh_a ((zh_n (by omega) (by omega)).trans (zfn_1 (by decide +kernel : za_kd (11 + 52) = 1))) (fun _ h => zh_c h) zh_a (fun j hj => zpf_l (by omega) (by decide) rfl hj) (z_in (by decide) (by decide)) dX2_init_33 ?_
  refine zn_g (g' := (zg E 11 (.inr (2, [.ref (E.1 + (11 + 1)), .int 0, .int 0])))) (fun j hj => (zh_g (by omega) (zfn_5 (by decide +kernel : za_kd (12) = 5))).symm) ?_
  refine zn_iinc (j := 0) (v := 11) G dX2_init_34 rfl (by decide) (by decide) rfl ?_
  refine zn_goto (tgt := 15) G dX2_init_37 (by decide) ?_
  refine zn_iload_n (j := 0) G dX2_init_15 rfl rfl ?_
  refine zn_bipush (v := 11) G dX2_init_16 (by decide) ?_
  refine zn_geT (tgt := 40) G dX2_init_18 (by decide) (by decide) ?_
  exact zn_ret (k9 := 56) (sl := 2739) G hr dX2_init_40 (fun j _ => zg_f (zfn_4 (by decide +kernel : za_kd 11 = 4)))
set_option maxHeartbeats 4000000 in
set_option maxRecDepth 100000 in
theorem zn_X7 (l : Launch) (E : za_E) : zMn l E yX7_init cX7_init 1 1 12 79 1 80 7 [.null, .int 0] := by
  refine zMn_of (g := zg E 79 (.inr (7, [.null, .int 0]))) (by decide) rfl (by decide) zg_w ?_
  intro p e s m args below meth c G hr hi hsz
  refine zn_aload_n (j := 0) G dX7_init_0 rfl rfl ?_
  refine zn_obj G zm_227 zm_161 zm_162 dX7_init_1 (Nat.le_of_ble_eq_true rfl) (Nat.le_of_ble_eq_true rfl) ?_
  refine zn_aload_n (j := 0) G dX7_init_4 rfl rfl ?_
  refine zn_bipush (v := 80) G dX7_init_5 (by decide) ?_
  refine zn_newa (atype := .char) (ty := .char) (t0 := 1) (a0 := (80, .inl (fun _ => 0))) (N' := 80) G rfl zm_237 rfl (fun _ _ h => h) ((zg_n (by omega)).trans (zfn_8 (by decide +kernel : za_kd (79 + 1) = 8))) (fun _ => rfl) (by decide) (by decide) (by decide) (by omega) (Nat.le_of_ble_eq_true rfl) (Nat.le_of_ble_eq_true rfl) dX7_init_7 ?_
  refine zn_cast (cells' := 1) (slots' := 80) (n' := 2) (pc' := 9) rfl rfl rfl rfl ?_
  refine zn_put (C := RX7) (T := TX7) (N := 2) (ci := 7) (fi := 0) (g' := (zg E 79 (.inr (7, [.ref (E.1 + (79 + 1)), .int 0])))) G tyX7 tyX7_ok nmX7 zin_7 rfl hi (by decide) zm_228 rfl rfl (tyX7_ok 0 (by decide)) rfl rfl (Nat.le_of_ble_eq_true rfl) (Nat.le_of_ble_eq_true rfl) zg_w (fun _ h => zg_c h) zg_w dX7_init_9 ?_
  exact zn_ret (k9 := 1) (sl := 80) G hr dX7_init_12 (fun j _ => zg_f (zfn_7 (by decide +kernel : za_kd 79 = 7)))
set_option maxHeartbeats 4000000 in
set_option maxRecDepth 100000 in
theorem zn_X8 (l : Launch) (E : za_E) : zMn l E yX8_init cX8_init 1 1 12 81 1 12 8 [.null, .int 0] := by
  refine zMn_of (g := zg E 81 (.inr (8, [.null, .int 0]))) (by decide) rfl (by decide) zg_w ?_
  intro p e s m args below meth c G hr hi hsz
  refine zn_aload_n (j := 0) G dX8_init_0 rfl rfl ?_
  refine zn_obj G zm_243 zm_161 zm_162 dX8_init_1 (Nat.le_of_ble_eq_true rfl) (Nat.le_of_ble_eq_true rfl) ?_
  refine zn_aload_n (j := 0) G dX8_init_4 rfl rfl ?_
  refine zn_bipush (v := 12) G dX8_init_5 (by decide) ?_
  refine zn_newa (atype := .long) (ty := .long) (t0 := 2) (a0 := (12, .inr (.inl (fun _ => 0)))) (N' := 12) G rfl zm_252 rfl (fun _ _ h => h) ((zg_n (by omega)).trans (zfn_10 (by decide +kernel : za_kd (81 + 1) = 10))) (fun _ => rfl) (by decide) (by decide) (by decide) (by omega) (Nat.le_of_ble_eq_true rfl) (Nat.le_of_ble_eq_true rfl) dX8_init_7 ?_
  refine zn_cast (cells' := 1) (slots' := 12) (n' := 2) (pc' := 9) rfl rfl rfl rfl ?_
  refine zn_put (C := RX8) (T := TX8) (N := 2) (ci := 8) (fi := 0) (g' := (zg E 81 (.inr (8, [.ref (E.1 + (81 + 1)), .int 0])))) G tyX8 tyX8_ok nmX8 zin_8 rfl hi (by decide) zm_244 rfl rfl (tyX8_ok 0 (by decide)) rfl rfl (Nat.le_of_ble_eq_true rfl) (Nat.le_of_ble_eq_true rfl) zg_w (fun _ h => zg_c h) zg_w dX8_init_9 ?_
  exact zn_ret (k9 := 1) (sl := 12) G hr dX8_init_12 (fun j _ => zg_f (zfn_9 (by decide +kernel : za_kd 81 = 9)))
set_option maxHeartbeats 4000000 in
set_option maxRecDepth 100000 in
theorem zn_X3 (l : Launch) (E : za_E) : zMn l E yX3_init cX3_init 1 1 12 83 1 12 3 [.null, .int 0] := by
  refine zMn_of (g := zg E 83 (.inr (3, [.null, .int 0]))) (by decide) rfl (by decide) zg_w ?_
  intro p e s m args below meth c G hr hi hsz
  refine zn_aload_n (j := 0) G dX3_init_0 rfl rfl ?_
  refine zn_obj G zm_258 zm_161 zm_162 dX3_init_1 (Nat.le_of_ble_eq_true rfl) (Nat.le_of_ble_eq_true rfl) ?_
  refine zn_aload_n (j := 0) G dX3_init_4 rfl rfl ?_
  refine zn_bipush (v := 12) G dX3_init_5 (by decide) ?_
  refine zn_newa (atype := .int) (ty := .int) (t0 := 0) (a0 := (12, .inl (fun _ => 0))) (N' := 12) G rfl zm_185 rfl (fun _ _ h => h) ((zg_n (by omega)).trans (zfn_12 (by decide +kernel : za_kd (83 + 1) = 12))) (fun _ => rfl) (by decide) (by decide) (by decide) (by omega) (Nat.le_of_ble_eq_true rfl) (Nat.le_of_ble_eq_true rfl) dX3_init_7 ?_
  refine zn_cast (cells' := 1) (slots' := 12) (n' := 2) (pc' := 9) rfl rfl rfl rfl ?_
  refine zn_put (C := RX3) (T := TX3) (N := 2) (ci := 3) (fi := 0) (g' := (zg E 83 (.inr (3, [.ref (E.1 + (83 + 1)), .int 0])))) G tyX3 tyX3_ok nmX3 zin_3 rfl hi (by decide) zm_259 rfl rfl (tyX3_ok 0 (by decide)) rfl rfl (Nat.le_of_ble_eq_true rfl) (Nat.le_of_ble_eq_true rfl) zg_w (fun _ h => zg_c h) zg_w dX3_init_9 ?_
  exact zn_ret (k9 := 1) (sl := 12) G hr dX3_init_12 (fun j _ => zg_f (zfn_11 (by decide +kernel : za_kd 83 = 11)))
set_option maxHeartbeats 4000000 in
set_option maxRecDepth 100000 in
theorem zn_X1 (l : Launch) (E : za_E) (w : Nat) (h0 : za_kd w = 13) : zMn l E yX1_init cX1_init 1 1 12 w 1 100 1 [.null] := by
  refine zMn_of (g := zg E w (.inr (1, [.null]))) (by decide) rfl (by decide) zg_w ?_
  intro p e s m args below meth c G hr hi hsz
  refine zn_aload_n (j := 0) G dX1_init_0 rfl rfl ?_
  refine zn_obj G zm_272 zm_161 zm_162 dX1_init_1 (Nat.le_of_ble_eq_true rfl) (Nat.le_of_ble_eq_true rfl) ?_
  refine zn_aload_n (j := 0) G dX1_init_4 rfl rfl ?_
  refine zn_bipush (v := 100) G dX1_init_5 (by decide) ?_
  refine zn_newa (atype := .int) (ty := .int) (t0 := 0) (a0 := (100, .inl (fun _ => 0))) (N' := 100) G rfl zm_185 rfl (fun _ _ h => h) ((zg_n (by omega)).trans (zfn_14 (zkd_13 h0))) (fun _ => rfl) (by decide) (by decide) (by decide) (by omega) (Nat.le_of_ble_eq_true rfl) (Nat.le_of_ble_eq_true rfl) dX1_init_7 ?_
  refine zn_cast (cells' := 1) (slots' := 100) (n' := 2) (pc' := 9) rfl rfl rfl rfl ?_
  refine zn_put (C := RX1) (T := TX1) (N := 1) (ci := 1) (fi := 0) (g' := (zg E w (.inr (1, [.ref (E.1 + (w + 1))])))) G tyX1 tyX1_ok nmX1 zin_1 rfl hi (by decide) zm_273 rfl rfl (tyX1_ok 0 (by decide)) rfl rfl (Nat.le_of_ble_eq_true rfl) (Nat.le_of_ble_eq_true rfl) zg_w (fun _ h => zg_c h) zg_w dX1_init_9 ?_
  exact zn_ret (k9 := 1) (sl := 100) G hr dX1_init_12 (fun j _ => zg_f (zfn_13 h0))
set_option maxHeartbeats 4000000 in
set_option maxRecDepth 100000 in
theorem zn_X5 (l : Launch) (E : za_E) : zMn l E yX5_init cX5_init 1 1 12 89 0 0 5 [.int 0, .int 0, .int 0, .int 0, .int 0, .int 0, .int 0, .int 0] := by
  refine zMn_of (g := zg E 89 (.inr (5, [.int 0, .int 0, .int 0, .int 0, .int 0, .int 0, .int 0, .int 0]))) (by decide) rfl (by decide) zg_w ?_
  intro p e s m args below meth c G hr hi hsz
  refine zn_aload_n (j := 0) G dX5_init_0 rfl rfl ?_
  refine zn_obj G zm_282 zm_161 zm_162 dX5_init_1 (Nat.le_of_ble_eq_true rfl) (Nat.le_of_ble_eq_true rfl) ?_
  exact zn_ret (k9 := 0) (sl := 0) G hr dX5_init_4 (fun j _ => zg_f (zfn_15 (by decide +kernel : za_kd 89 = 15)))
set_option maxHeartbeats 4000000 in
set_option maxRecDepth 100000 in
theorem zn_X0 (l : Launch) (E : za_E) : zMn l E yX0_init cX0_init 1 1 12 90 2 47 0 [.null, .null, .int 0, .int 0, .int 0] := by
  refine zMn_of (g := zg E 90 (.inr (0, [.null, .null, .int 0, .int 0, .int 0]))) (by decide) rfl (by decide) zg_w ?_
  intro p e s m args below meth c G hr hi hsz
  refine zn_aload_n (j := 0) G dX0_init_0 rfl rfl ?_
  refine zn_obj G zm_318 zm_161 zm_162 dX0_init_1 (Nat.le_of_ble_eq_true rfl) (Nat.le_of_ble_eq_true rfl) ?_
  refine zn_aload_n (j := 0) G dX0_init_4 rfl rfl ?_
  refine zn_bipush (v := 40) G dX0_init_5 (by decide) ?_
  refine zn_newa (atype := .char) (ty := .char) (t0 := 1) (a0 := (40, .inl (fun _ => 0))) (N' := 40) G rfl zm_237 rfl (fun _ _ h => h) ((zg_n (by omega)).trans (zfn_17 (by decide +kernel : za_kd (90 + 1) = 17))) (fun _ => rfl) (by decide) (by decide) (by decide) (by omega) (Nat.le_of_ble_eq_true rfl) (Nat.le_of_ble_eq_true rfl) dX0_init_7 ?_
  refine zn_cast (cells' := 1) (slots' := 40) (n' := 2) (pc' := 9) rfl rfl rfl rfl ?_
  refine zn_put (C := RX0) (T := TX0) (N := 5) (ci := 0) (fi := 0) (g' := (zg E 90 (.inr (0, [.ref (E.1 + (90 + 1)), .null, .int 0, .int 0, .int 0])))) G tyX0 tyX0_ok nmX0 zin_0 rfl hi (by decide) zm_319 rfl rfl (tyX0_ok 0 (by decide)) rfl rfl (Nat.le_of_ble_eq_true rfl) (Nat.le_of_ble_eq_true rfl) zg_w (fun _ h => zg_c h) zg_w dX0_init_9 ?_
  refine zn_aload_n (j := 0) G dX0_init_12 rfl rfl ?_
  refine zn_bipush (v := 7) G dX0_init_13 (by decide) ?_
  refine zn_newa (atype := .int) (ty := .int) (t0 := 0) (a0 := (7, .inl (fun _ => 0))) (N' := 7) G rfl zm_185 rfl (fun _ _ h => h) ((zg_n (by omega)).trans (zfn_18 (by decide +kernel : za_kd (90 + 2) = 18))) (fun _ => rfl) (by decide) (by decide) (by decide) (by omega) (Nat.le_of_ble_eq_true rfl) (Nat.le_of_ble_eq_true rfl) dX0_init_15 ?_
  refine zn_cast (cells' := 2) (slots' := 47) (n' := 3) (pc' := 17) rfl rfl rfl rfl ?_
  refine zn_put (C := RX0) (T := TX0) (N := 5) (ci := 0) (fi := 1) (g' := (zg E 90 (.inr (0, [.ref (E.1 + (90 + 1)), .ref (E.1 + (90 + 2)), .int 0, .int 0, .int 0])))) G tyX0 tyX0_ok nmX0 zin_0 rfl hi (by decide) zm_320 rfl rfl (tyX0_ok 1 (by decide)) rfl rfl (Nat.le_of_ble_eq_true rfl) (Nat.le_of_ble_eq_true rfl) zg_w (fun _ h => zg_c h) zg_w dX0_init_17 ?_
  exact zn_ret (k9 := 2) (sl := 47) G hr dX0_init_20 (fun j _ => zg_f (zfn_16 (by decide +kernel : za_kd 90 = 16)))
set_option maxHeartbeats 4000000 in
set_option maxRecDepth 100000 in
theorem zn_X9 (l : Launch) (E : za_E) : zMn l E yX9_init cX9_init 1 4 73 0 92 4108 9 [.null, .null, .null, .null, .null, .null, .null, .null, .null, .null, .null, .int 0] := by
  refine zMn_of (g := zg E 0 (.inr (9, [.null, .null, .null, .null, .null, .null, .null, .null, .null, .null, .null, .int 0]))) (by decide) rfl (by decide) zg_w ?_
  intro p e s m args below meth c G hr hi hsz
  refine zn_aload_n (j := 0) G dX9_init_0 rfl rfl ?_
  refine zn_obj G zm_160 zm_161 zm_162 dX9_init_1 (Nat.le_of_ble_eq_true rfl) (Nat.le_of_ble_eq_true rfl) ?_
  refine zn_aload_n (j := 0) G dX9_init_4 rfl rfl ?_
  refine zn_subN (host := RX9) (C := RX4) (T := TX4) (N := 4) (ci := 4) (ik := 7) (ic := 9) (y := yX4_init) (bytes := cX4_init) (maxL := 1) (k9 := 4) (sl := 244) (fr := 2) (lo := 32) G tyX4 tyX4_ok zin_4 rfl zdf_4 zm_163 zkn_4 (zn_X4 l E (0 + 1) (by decide +kernel : za_kd (0 + 1) = 1)) zm_165 (fun i hi => zg_n (by omega)) (by omega) ⟨(Nat.le_of_ble_eq_true rfl), (Nat.le_of_ble_eq_true rfl)⟩ (Nat.le_of_ble_eq_true rfl) (Nat.le_of_ble_eq_true rfl) (Nat.le_of_ble_eq_true rfl) dX9_init_5 dX9_init_8 dX9_init_9 ?_
  refine zn_cast (cells' := 5) (slots' := 248) (n' := 6) (pc' := 12) rfl rfl rfl rfl ?_
  refine zn_put (C := RX9) (T := TX9) (N := 12) (ci := 9) (fi := 0) (g' := (zg E 0 (.inr (9, [.ref (E.1 + (0 + 1)), .null, .null, .null, .null, .null, .null, .null, .null, .null, .null, .int 0])))) G tyX9 tyX9_ok nmX9 zin_9 rfl hi (by decide) zm_335 rfl rfl (tyX9_ok 0 (by decide)) rfl rfl (Nat.le_of_ble_eq_true rfl) (Nat.le_of_ble_eq_true rfl) zg_w (fun _ h => zg_c h) zg_w dX9_init_12 ?_
  refine zn_aload_n (j := 0) G dX9_init_15 rfl rfl ?_
  refine zn_subN (host := RX9) (C := RX4) (T := TX4) (N := 4) (ci := 4) (ik := 7) (ic := 9) (y := yX4_init) (bytes := cX4_init) (maxL := 1) (k9 := 4) (sl := 244) (fr := 2) (lo := 32) G tyX4 tyX4_ok zin_4 rfl zdf_4 zm_163 zkn_4 (zn_X4 l E (0 + 6) (by decide +kernel : za_kd (0 + 6) = 1)) zm_165 (fun i hi => zg_n (by omega)) (by omega) ⟨(Nat.le_of_ble_eq_true rfl), (Nat.le_of_ble_eq_true rfl)⟩ (Nat.le_of_ble_eq_true rfl) (Nat.le_of_ble_eq_true rfl) (Nat.le_of_ble_eq_true rfl) dX9_init_16 dX9_init_19 dX9_init_20 ?_
  refine zn_cast (cells' := 10) (slots' := 496) (n' := 11) (pc' := 23) rfl rfl rfl rfl ?_
  refine zn_put (C := RX9) (T := TX9) (N := 12) (ci := 9) (fi := 1) (g' := (zg E 0 (.inr (9, [.ref (E.1 + (0 + 1)), .ref (E.1 + (0 + 6)), .null, .null, .null, .null, .null, .null, .null, .null, .null, .int 0])))) G tyX9 tyX9_ok nmX9 zin_9 rfl hi (by decide) zm_336 rfl rfl (tyX9_ok 1 (by decide)) rfl rfl (Nat.le_of_ble_eq_true rfl) (Nat.le_of_ble_eq_true rfl) zg_w (fun _ h => zg_c h) zg_w dX9_init_23 ?_
  refine zn_aload_n (j := 0) G dX9_init_26 rfl rfl ?_
  refine zn_subN (host := RX9) (C := RX2) (T := TX2) (N := 3) (ci := 2) (ik := 19) (ic := 21) (y := yX2_init) (bytes := cX2_init) (maxL := 2) (k9 := 56) (sl := 2739) (fr := 3) (lo := 52) G tyX2 tyX2_ok zin_2 rfl zdf_2 zm_202 zkn_2 (zn_X2 l E) zm_204 (fun i hi => zg_n (by omega)) (by omega) ⟨(Nat.le_of_ble_eq_true rfl), (Nat.le_of_ble_eq_true rfl)⟩ (Nat.le_of_ble_eq_true rfl) (Nat.le_of_ble_eq_true rfl) (Nat.le_of_ble_eq_true rfl) dX9_init_27 dX9_init_30 dX9_init_31 ?_
  refine zn_cast (cells' := 67) (slots' := 3238) (n' := 68) (pc' := 34) rfl rfl rfl rfl ?_
  refine zn_put (C := RX9) (T := TX9) (N := 12) (ci := 9) (fi := 2) (g' := (zg E 0 (.inr (9, [.ref (E.1 + (0 + 1)), .ref (E.1 + (0 + 6)), .ref (E.1 + (0 + 11)), .null, .null, .null, .null, .null, .null, .null, .null, .int 0])))) G tyX9 tyX9_ok nmX9 zin_9 rfl hi (by decide) zm_337 rfl rfl (tyX9_ok 2 (by decide)) rfl rfl (Nat.le_of_ble_eq_true rfl) (Nat.le_of_ble_eq_true rfl) zg_w (fun _ h => zg_c h) zg_w dX9_init_34 ?_
  refine zn_aload_n (j := 0) G dX9_init_37 rfl rfl ?_
  refine zn_iconst (v := 2) G dX9_init_38 (by decide) ?_
  refine zn_g (g' := (zh E 0 (.inr (9, [.ref (E.1 + (0 + 1)), .ref (E.1 + (0 + 6)), .ref (E.1 + (0 + 11)), .null, .null, .null, .null, .null, .null, .null, .null, .int 0])) 68 (.inl (E.2.2.1 4, 2, .inr (.inr (.inr (.inr (zpf (E.1 + 69) 0)))))))) (fun j hj => if_neg (by omega)) ?_
  refine zn_newq (N' := 2) (f := zpf (E.1 + 69) 0) G zm_163 zh_a (fun j _ => zpf_0 _ _) (by decide) (by decide) (by decide) (by omega) (Nat.le_of_ble_eq_true rfl) (Nat.le_of_ble_eq_true rfl) dX9_init_39 ?_
  refine zn_cast (cells' := 68) (slots' := 3240) (n' := 69) (pc' := 42) rfl rfl rfl rfl ?_
  refine zn_dup G dX9_init_42 rfl ?_
  refine zn_iconst (v := 0) G dX9_init_43 (by decide) ?_
  refine zn_subN (host := RX9) (C := RX4) (T := TX4) (N := 4) (ci := 4) (ik := 7) (ic := 9) (y := yX4_init) (bytes := cX4_init) (maxL := 1) (k9 := 4) (sl := 244) (fr := 2) (lo := 32) G tyX4 tyX4_ok zin_4 rfl zdf_4 zm_163 zkn_4 (zn_X4 l E (0 + 69) (by decide +kernel : za_kd (0 + 69) = 1)) zm_165 (fun i hi => zh_n (by omega) (by omega)) (by omega) ⟨(Nat.le_of_ble_eq_true rfl), (Nat.le_of_ble_eq_true rfl)⟩ (Nat.le_of_ble_eq_true rfl) (Nat.le_of_ble_eq_true rfl) (Nat.le_of_ble_eq_true rfl) dX9_init_44 dX9_init_47 dX9_init_48 ?_
  refine zn_cast (cells' := 73) (slots' := 3488) (n' := 74) (pc' := 51) rfl rfl rfl rfl ?_
  refine zn_aast (ka := 68) (kb := 69) (g' := (zh E 0 (.inr (9, [.ref (E.1 + (0 + 1)), .ref (E.1 + (0 + 6)), .ref (E.1 + (0 + 11)), .null, .null, .null, .null, .null, .null, .null, .null, .int 0])) 68 (.inl (E.2.2.1 4, 2, .inr (.inr (.inr (.inr (zpf (E.1 + 69) 1)))))))) (f := zpf (E.1 + 69) 0) (f' := zpf (E.1 + 69) 1) G rfl rfl (Nat.le_of_ble_eq_true rfl) (Nat.le_of_ble_eq_true rfl) zh_a ((zh_n (by omega) (by omega)).trans (zfn_1 (by decide +kernel : za_kd (0 + 69) = 1))) (fun _ h => zh_c h) zh_a (fun j _ => zpf_u (by omega) (by decide)) (z_in (by decide) (by decide)) dX9_init_51 ?_
  refine zn_dup G dX9_init_52 rfl ?_
  refine zn_iconst (v := 1) G dX9_init_53 (by decide) ?_
  refine zn_subN (host := RX9) (C := RX4) (T := TX4) (N := 4) (ci := 4) (ik := 7) (ic := 9) (y := yX4_init) (bytes := cX4_init) (maxL := 1) (k9 := 4) (sl := 244) (fr := 2) (lo := 32) G tyX4 tyX4_ok zin_4 rfl zdf_4 zm_163 zkn_4 (zn_X4 l E (0 + 74) (by decide +kernel : za_kd (0 + 74) = 1)) zm_165 (fun i hi => zh_n (by omega) (by omega)) (by omega) ⟨(Nat.le_of_ble_eq_true rfl), (Nat.le_of_ble_eq_true rfl)⟩ (Nat.le_of_ble_eq_true rfl) (Nat.le_of_ble_eq_true rfl) (Nat.le_of_ble_eq_true rfl) dX9_init_54 dX9_init_57 dX9_init_58 ?_
  refine zn_cast (cells' := 78) (slots' := 3736) (n' := 79) (pc' := 61) rfl rfl rfl rfl ?_
  refine zn_aast (ka := 68) (kb := 74) (g' := (zh E 0 (.inr (9, [.ref (E.1 + (0 + 1)), .ref (E.1 + (0 + 6)), .ref (E.1 + (0 + 11)), .null, .null, .null, .null, .null, .null, .null, .null, .int 0])) 68 (.inl (E.2.2.1 4, 2, .inr (.inr (.inr (.inr (fun i => some (E.1 + (69 + 5 * i)))))))))) (f := zpf (E.1 + 69) 1) (f' := fun i => some (E.1 + (69 + 5 * i))) G rfl rfl (Nat.le_of_ble_eq_true rfl) (Nat.le_of_ble_eq_true rfl) zh_a ((zh_n (by omega) (by omega)).trans (zfn_1 (by decide +kernel : za_kd (0 + 74) = 1))) (fun _ h => zh_c h) zh_a (fun j hj => zpf_l (by omega) (by decide) rfl hj) (z_in (by decide) (by decide)) dX9_init_61 ?_
  refine zn_g (g' := (zg E 0 (.inr (9, [.ref (E.1 + (0 + 1)), .ref (E.1 + (0 + 6)), .ref (E.1 + (0 + 11)), .null, .null, .null, .null, .null, .null, .null, .null, .int 0])))) (fun j hj => (zh_g (by omega) (zfn_6 (by decide +kernel : za_kd (68) = 6))).symm) ?_
  refine zn_put (C := RX9) (T := TX9) (N := 12) (ci := 9) (fi := 3) (g' := (zg E 0 (.inr (9, [.ref (E.1 + (0 + 1)), .ref (E.1 + (0 + 6)), .ref (E.1 + (0 + 11)), .ref (E.1 + (0 + 68)), .null, .null, .null, .null, .null, .null, .null, .int 0])))) G tyX9 tyX9_ok nmX9 zin_9 rfl hi (by decide) zm_338 rfl rfl (tyX9_ok 3 (by decide)) rfl rfl (Nat.le_of_ble_eq_true rfl) (Nat.le_of_ble_eq_true rfl) zg_w (fun _ h => zg_c h) zg_w dX9_init_62 ?_
  refine zn_aload_n (j := 0) G dX9_init_65 rfl rfl ?_
  refine zn_subN (host := RX9) (C := RX7) (T := TX7) (N := 2) (ci := 7) (ik := 30) (ic := 32) (y := yX7_init) (bytes := cX7_init) (maxL := 1) (k9 := 1) (sl := 80) (fr := 1) (lo := 12) G tyX7 tyX7_ok zin_7 rfl zdf_7 zm_222 zkn_7 (zn_X7 l E) zm_224 (fun i hi => zg_n (by omega)) (by omega) ⟨(Nat.le_of_ble_eq_true rfl), (Nat.le_of_ble_eq_true rfl)⟩ (Nat.le_of_ble_eq_true rfl) (Nat.le_of_ble_eq_true rfl) (Nat.le_of_ble_eq_true rfl) dX9_init_66 dX9_init_69 dX9_init_70 ?_
  refine zn_cast (cells' := 80) (slots' := 3818) (n' := 81) (pc' := 73) rfl rfl rfl rfl ?_
  refine zn_put (C := RX9) (T := TX9) (N := 12) (ci := 9) (fi := 4) (g' := (zg E 0 (.inr (9, [.ref (E.1 + (0 + 1)), .ref (E.1 + (0 + 6)), .ref (E.1 + (0 + 11)), .ref (E.1 + (0 + 68)), .ref (E.1 + (0 + 79)), .null, .null, .null, .null, .null, .null, .int 0])))) G tyX9 tyX9_ok nmX9 zin_9 rfl hi (by decide) zm_339 rfl rfl (tyX9_ok 4 (by decide)) rfl rfl (Nat.le_of_ble_eq_true rfl) (Nat.le_of_ble_eq_true rfl) zg_w (fun _ h => zg_c h) zg_w dX9_init_73 ?_
  refine zn_aload_n (j := 0) G dX9_init_76 rfl rfl ?_
  refine zn_subN (host := RX9) (C := RX8) (T := TX8) (N := 2) (ci := 8) (ik := 37) (ic := 39) (y := yX8_init) (bytes := cX8_init) (maxL := 1) (k9 := 1) (sl := 12) (fr := 1) (lo := 12) G tyX8 tyX8_ok zin_8 rfl zdf_8 zm_238 zkn_8 (zn_X8 l E) zm_240 (fun i hi => zg_n (by omega)) (by omega) ⟨(Nat.le_of_ble_eq_true rfl), (Nat.le_of_ble_eq_true rfl)⟩ (Nat.le_of_ble_eq_true rfl) (Nat.le_of_ble_eq_true rfl) (Nat.le_of_ble_eq_true rfl) dX9_init_77 dX9_init_80 dX9_init_81 ?_
  refine zn_cast (cells' := 82) (slots' := 3832) (n' := 83) (pc' := 84) rfl rfl rfl rfl ?_
  refine zn_put (C := RX9) (T := TX9) (N := 12) (ci := 9) (fi := 5) (g' := (zg E 0 (.inr (9, [.ref (E.1 + (0 + 1)), .ref (E.1 + (0 + 6)), .ref (E.1 + (0 + 11)), .ref (E.1 + (0 + 68)), .ref (E.1 + (0 + 79)), .ref (E.1 + (0 + 81)), .null, .null, .null, .null, .null, .int 0])))) G tyX9 tyX9_ok nmX9 zin_9 rfl hi (by decide) zm_340 rfl rfl (tyX9_ok 5 (by decide)) rfl rfl (Nat.le_of_ble_eq_true rfl) (Nat.le_of_ble_eq_true rfl) zg_w (fun _ h => zg_c h) zg_w dX9_init_84 ?_
  refine zn_aload_n (j := 0) G dX9_init_87 rfl rfl ?_
  refine zn_subN (host := RX9) (C := RX3) (T := TX3) (N := 2) (ci := 3) (ik := 44) (ic := 46) (y := yX3_init) (bytes := cX3_init) (maxL := 1) (k9 := 1) (sl := 12) (fr := 1) (lo := 12) G tyX3 tyX3_ok zin_3 rfl zdf_3 zm_253 zkn_3 (zn_X3 l E) zm_255 (fun i hi => zg_n (by omega)) (by omega) ⟨(Nat.le_of_ble_eq_true rfl), (Nat.le_of_ble_eq_true rfl)⟩ (Nat.le_of_ble_eq_true rfl) (Nat.le_of_ble_eq_true rfl) (Nat.le_of_ble_eq_true rfl) dX9_init_88 dX9_init_91 dX9_init_92 ?_
  refine zn_cast (cells' := 84) (slots' := 3846) (n' := 85) (pc' := 95) rfl rfl rfl rfl ?_
  refine zn_put (C := RX9) (T := TX9) (N := 12) (ci := 9) (fi := 6) (g' := (zg E 0 (.inr (9, [.ref (E.1 + (0 + 1)), .ref (E.1 + (0 + 6)), .ref (E.1 + (0 + 11)), .ref (E.1 + (0 + 68)), .ref (E.1 + (0 + 79)), .ref (E.1 + (0 + 81)), .ref (E.1 + (0 + 83)), .null, .null, .null, .null, .int 0])))) G tyX9 tyX9_ok nmX9 zin_9 rfl hi (by decide) zm_341 rfl rfl (tyX9_ok 6 (by decide)) rfl rfl (Nat.le_of_ble_eq_true rfl) (Nat.le_of_ble_eq_true rfl) zg_w (fun _ h => zg_c h) zg_w dX9_init_95 ?_
  refine zn_aload_n (j := 0) G dX9_init_98 rfl rfl ?_
  refine zn_subN (host := RX9) (C := RX1) (T := TX1) (N := 1) (ci := 1) (ik := 51) (ic := 53) (y := yX1_init) (bytes := cX1_init) (maxL := 1) (k9 := 1) (sl := 100) (fr := 1) (lo := 12) G tyX1 tyX1_ok zin_1 rfl zdf_1 zm_267 zkn_1 (zn_X1 l E (0 + 85) (by decide +kernel : za_kd (0 + 85) = 13)) zm_269 (fun i hi => zg_n (by omega)) (by omega) ⟨(Nat.le_of_ble_eq_true rfl), (Nat.le_of_ble_eq_true rfl)⟩ (Nat.le_of_ble_eq_true rfl) (Nat.le_of_ble_eq_true rfl) (Nat.le_of_ble_eq_true rfl) dX9_init_99 dX9_init_102 dX9_init_103 ?_
  refine zn_cast (cells' := 86) (slots' := 3947) (n' := 87) (pc' := 106) rfl rfl rfl rfl ?_
  refine zn_put (C := RX9) (T := TX9) (N := 12) (ci := 9) (fi := 7) (g' := (zg E 0 (.inr (9, [.ref (E.1 + (0 + 1)), .ref (E.1 + (0 + 6)), .ref (E.1 + (0 + 11)), .ref (E.1 + (0 + 68)), .ref (E.1 + (0 + 79)), .ref (E.1 + (0 + 81)), .ref (E.1 + (0 + 83)), .ref (E.1 + (0 + 85)), .null, .null, .null, .int 0])))) G tyX9 tyX9_ok nmX9 zin_9 rfl hi (by decide) zm_342 rfl rfl (tyX9_ok 7 (by decide)) rfl rfl (Nat.le_of_ble_eq_true rfl) (Nat.le_of_ble_eq_true rfl) zg_w (fun _ h => zg_c h) zg_w dX9_init_106 ?_
  refine zn_aload_n (j := 0) G dX9_init_109 rfl rfl ?_
  refine zn_subN (host := RX9) (C := RX1) (T := TX1) (N := 1) (ci := 1) (ik := 51) (ic := 53) (y := yX1_init) (bytes := cX1_init) (maxL := 1) (k9 := 1) (sl := 100) (fr := 1) (lo := 12) G tyX1 tyX1_ok zin_1 rfl zdf_1 zm_267 zkn_1 (zn_X1 l E (0 + 87) (by decide +kernel : za_kd (0 + 87) = 13)) zm_269 (fun i hi => zg_n (by omega)) (by omega) ⟨(Nat.le_of_ble_eq_true rfl), (Nat.le_of_ble_eq_true rfl)⟩ (Nat.le_of_ble_eq_true rfl) (Nat.le_of_ble_eq_true rfl) (Nat.le_of_ble_eq_true rfl) dX9_init_110 dX9_init_113 dX9_init_114 ?_
  refine zn_cast (cells' := 88) (slots' := 4048) (n' := 89) (pc' := 117) rfl rfl rfl rfl ?_
  refine zn_put (C := RX9) (T := TX9) (N := 12) (ci := 9) (fi := 8) (g' := (zg E 0 (.inr (9, [.ref (E.1 + (0 + 1)), .ref (E.1 + (0 + 6)), .ref (E.1 + (0 + 11)), .ref (E.1 + (0 + 68)), .ref (E.1 + (0 + 79)), .ref (E.1 + (0 + 81)), .ref (E.1 + (0 + 83)), .ref (E.1 + (0 + 85)), .ref (E.1 + (0 + 87)), .null, .null, .int 0])))) G tyX9 tyX9_ok nmX9 zin_9 rfl hi (by decide) zm_343 rfl rfl (tyX9_ok 8 (by decide)) rfl rfl (Nat.le_of_ble_eq_true rfl) (Nat.le_of_ble_eq_true rfl) zg_w (fun _ h => zg_c h) zg_w dX9_init_117 ?_
  refine zn_aload_n (j := 0) G dX9_init_120 rfl rfl ?_
  refine zn_subN (host := RX9) (C := RX5) (T := TX5) (N := 8) (ci := 5) (ik := 61) (ic := 63) (y := yX5_init) (bytes := cX5_init) (maxL := 1) (k9 := 0) (sl := 0) (fr := 1) (lo := 12) G tyX5 tyX5_ok zin_5 rfl zdf_5 zm_277 zkn_5 (zn_X5 l E) zm_279 (fun i hi => zg_n (by omega)) (by omega) ⟨(Nat.le_of_ble_eq_true rfl), (Nat.le_of_ble_eq_true rfl)⟩ (Nat.le_of_ble_eq_true rfl) (Nat.le_of_ble_eq_true rfl) (Nat.le_of_ble_eq_true rfl) dX9_init_121 dX9_init_124 dX9_init_125 ?_
  refine zn_cast (cells' := 89) (slots' := 4056) (n' := 90) (pc' := 128) rfl rfl rfl rfl ?_
  refine zn_put (C := RX9) (T := TX9) (N := 12) (ci := 9) (fi := 9) (g' := (zg E 0 (.inr (9, [.ref (E.1 + (0 + 1)), .ref (E.1 + (0 + 6)), .ref (E.1 + (0 + 11)), .ref (E.1 + (0 + 68)), .ref (E.1 + (0 + 79)), .ref (E.1 + (0 + 81)), .ref (E.1 + (0 + 83)), .ref (E.1 + (0 + 85)), .ref (E.1 + (0 + 87)), .ref (E.1 + (0 + 89)), .null, .int 0])))) G tyX9 tyX9_ok nmX9 zin_9 rfl hi (by decide) zm_344 rfl rfl (tyX9_ok 9 (by decide)) rfl rfl (Nat.le_of_ble_eq_true rfl) (Nat.le_of_ble_eq_true rfl) zg_w (fun _ h => zg_c h) zg_w dX9_init_128 ?_
  refine zn_aload_n (j := 0) G dX9_init_131 rfl rfl ?_
  refine zn_subN (host := RX9) (C := RX0) (T := TX0) (N := 5) (ci := 0) (ik := 68) (ic := 70) (y := yX0_init) (bytes := cX0_init) (maxL := 1) (k9 := 2) (sl := 47) (fr := 1) (lo := 12) G tyX0 tyX0_ok zin_0 rfl zdf_0 zm_313 zkn_0 (zn_X0 l E) zm_315 (fun i hi => zg_n (by omega)) (by omega) ⟨(Nat.le_of_ble_eq_true rfl), (Nat.le_of_ble_eq_true rfl)⟩ (Nat.le_of_ble_eq_true rfl) (Nat.le_of_ble_eq_true rfl) (Nat.le_of_ble_eq_true rfl) dX9_init_132 dX9_init_135 dX9_init_136 ?_
  refine zn_cast (cells' := 92) (slots' := 4108) (n' := 93) (pc' := 139) rfl rfl rfl rfl ?_
  refine zn_put (C := RX9) (T := TX9) (N := 12) (ci := 9) (fi := 10) (g' := (zg E 0 (.inr (9, [.ref (E.1 + (0 + 1)), .ref (E.1 + (0 + 6)), .ref (E.1 + (0 + 11)), .ref (E.1 + (0 + 68)), .ref (E.1 + (0 + 79)), .ref (E.1 + (0 + 81)), .ref (E.1 + (0 + 83)), .ref (E.1 + (0 + 85)), .ref (E.1 + (0 + 87)), .ref (E.1 + (0 + 89)), .ref (E.1 + (0 + 90)), .int 0])))) G tyX9 tyX9_ok nmX9 zin_9 rfl hi (by decide) zm_345 rfl rfl (tyX9_ok 10 (by decide)) rfl rfl (Nat.le_of_ble_eq_true rfl) (Nat.le_of_ble_eq_true rfl) zg_w (fun _ h => zg_c h) zg_w dX9_init_139 ?_
  exact zn_ret (k9 := 92) (sl := 4108) G hr dX9_init_142 (fun j _ => zg_f (zfn_0 (by decide +kernel : za_kd 0 = 0)))
set_option maxHeartbeats 4000000 in
set_option maxRecDepth 100000 in
theorem zn_X10 (l : Launch) (E : za_E) : zMn l E yX10_init cX10_init 1 1 12 93 99 33033 10 [.int 0, .int 0, .null, .null, .int 0, .int 0, .int 0, .int 0, .null, .int 0, .null, .null, .null, .null, .null, .int 0, .int 0, .int 0, .null, .int 0, .int 0, .null, .null, .int 0, .null, .int 0, .int 0, .null, .null, .null, .null, .null, .int 0, .null, .null, .int 0] := by
  refine zMn_of (g := zg E 93 (.inr (10, [.int 0, .int 0, .null, .null, .int 0, .int 0, .int 0, .int 0, .null, .int 0, .null, .null, .null, .null, .null, .int 0, .int 0, .int 0, .null, .int 0, .int 0, .null, .null, .int 0, .null, .int 0, .int 0, .null, .null, .null, .null, .null, .int 0, .null, .null, .int 0]))) (by decide) rfl (by decide) zg_w ?_
  intro p e s m args below meth c G hr hi hsz
  refine zn_aload_n (j := 0) G dX10_init_0 rfl rfl ?_
  refine zn_obj G zm_1188 zm_161 zm_162 dX10_init_1 (Nat.le_of_ble_eq_true rfl) (Nat.le_of_ble_eq_true rfl) ?_
  refine zn_aload_n (j := 0) G dX10_init_4 rfl rfl ?_
  refine zn_bipush (v := 24) G dX10_init_5 (by decide) ?_
  refine zn_newa (atype := .long) (ty := .long) (t0 := 2) (a0 := (24, .inr (.inl (fun _ => 0)))) (N' := 24) G rfl zm_252 rfl (fun _ _ h => h) ((zg_n (by omega)).trans (zfn_20 (by decide +kernel : za_kd (93 + 1) = 20))) (fun _ => rfl) (by decide) (by decide) (by decide) (by omega) (Nat.le_of_ble_eq_true rfl) (Nat.le_of_ble_eq_true rfl) dX10_init_7 ?_
  refine zn_cast (cells' := 1) (slots' := 24) (n' := 2) (pc' := 9) rfl rfl rfl rfl ?_
  refine zn_put (C := RX10) (T := TX10) (N := 36) (ci := 10) (fi := 2) (g' := (zg E 93 (.inr (10, [.int 0, .int 0, .ref (E.1 + (93 + 1)), .null, .int 0, .int 0, .int 0, .int 0, .null, .int 0, .null, .null, .null, .null, .null, .int 0, .int 0, .int 0, .null, .int 0, .int 0, .null, .null, .int 0, .null, .int 0, .int 0, .null, .null, .null, .null, .null, .int 0, .null, .null, .int 0])))) G tyX10 tyX10_ok nmX10 zin_10 rfl hi (by decide) zm_1193 rfl rfl (tyX10_ok 2 (by decide)) rfl rfl (Nat.le_of_ble_eq_true rfl) (Nat.le_of_ble_eq_true rfl) zg_w (fun _ h => zg_c h) zg_w dX10_init_9 ?_
  refine zn_aload_n (j := 0) G dX10_init_12 rfl rfl ?_
  refine zn_bipush (v := 80) G dX10_init_13 (by decide) ?_
  refine zn_newa (atype := .int) (ty := .int) (t0 := 0) (a0 := (80, .inl (fun _ => 0))) (N' := 80) G rfl zm_185 rfl (fun _ _ h => h) ((zg_n (by omega)).trans (zfn_21 (by decide +kernel : za_kd (93 + 2) = 21))) (fun _ => rfl) (by decide) (by decide) (by decide) (by omega) (Nat.le_of_ble_eq_true rfl) (Nat.le_of_ble_eq_true rfl) dX10_init_15 ?_
  refine zn_cast (cells' := 2) (slots' := 104) (n' := 3) (pc' := 17) rfl rfl rfl rfl ?_
  refine zn_put (C := RX10) (T := TX10) (N := 36) (ci := 10) (fi := 3) (g' := (zg E 93 (.inr (10, [.int 0, .int 0, .ref (E.1 + (93 + 1)), .ref (E.1 + (93 + 2)), .int 0, .int 0, .int 0, .int 0, .null, .int 0, .null, .null, .null, .null, .null, .int 0, .int 0, .int 0, .null, .int 0, .int 0, .null, .null, .int 0, .null, .int 0, .int 0, .null, .null, .null, .null, .null, .int 0, .null, .null, .int 0])))) G tyX10 tyX10_ok nmX10 zin_10 rfl hi (by decide) zm_1194 rfl rfl (tyX10_ok 3 (by decide)) rfl rfl (Nat.le_of_ble_eq_true rfl) (Nat.le_of_ble_eq_true rfl) zg_w (fun _ h => zg_c h) zg_w dX10_init_17 ?_
  refine zn_aload_n (j := 0) G dX10_init_20 rfl rfl ?_
  refine zn_bipush (v := 80) G dX10_init_21 (by decide) ?_
  refine zn_newa (atype := .int) (ty := .int) (t0 := 0) (a0 := (80, .inl (fun _ => 0))) (N' := 80) G rfl zm_185 rfl (fun _ _ h => h) ((zg_n (by omega)).trans (zfn_21 (by decide +kernel : za_kd (93 + 3) = 21))) (fun _ => rfl) (by decide) (by decide) (by decide) (by omega) (Nat.le_of_ble_eq_true rfl) (Nat.le_of_ble_eq_true rfl) dX10_init_23 ?_
  refine zn_cast (cells' := 3) (slots' := 184) (n' := 4) (pc' := 25) rfl rfl rfl rfl ?_
  refine zn_put (C := RX10) (T := TX10) (N := 36) (ci := 10) (fi := 8) (g' := (zg E 93 (.inr (10, [.int 0, .int 0, .ref (E.1 + (93 + 1)), .ref (E.1 + (93 + 2)), .int 0, .int 0, .int 0, .int 0, .ref (E.1 + (93 + 3)), .int 0, .null, .null, .null, .null, .null, .int 0, .int 0, .int 0, .null, .int 0, .int 0, .null, .null, .int 0, .null, .int 0, .int 0, .null, .null, .null, .null, .null, .int 0, .null, .null, .int 0])))) G tyX10 tyX10_ok nmX10 zin_10 rfl hi (by decide) zm_1199 rfl rfl (tyX10_ok 8 (by decide)) rfl rfl (Nat.le_of_ble_eq_true rfl) (Nat.le_of_ble_eq_true rfl) zg_w (fun _ h => zg_c h) zg_w dX10_init_25 ?_
  refine zn_aload_n (j := 0) G dX10_init_28 rfl rfl ?_
  refine zn_bipush (v := 80) G dX10_init_29 (by decide) ?_
  refine zn_newa (atype := .int) (ty := .int) (t0 := 0) (a0 := (80, .inl (fun _ => 0))) (N' := 80) G rfl zm_185 rfl (fun _ _ h => h) ((zg_n (by omega)).trans (zfn_21 (by decide +kernel : za_kd (93 + 4) = 21))) (fun _ => rfl) (by decide) (by decide) (by decide) (by omega) (Nat.le_of_ble_eq_true rfl) (Nat.le_of_ble_eq_true rfl) dX10_init_31 ?_
  refine zn_cast (cells' := 4) (slots' := 264) (n' := 5) (pc' := 33) rfl rfl rfl rfl ?_
  refine zn_put (C := RX10) (T := TX10) (N := 36) (ci := 10) (fi := 10) (g' := (zg E 93 (.inr (10, [.int 0, .int 0, .ref (E.1 + (93 + 1)), .ref (E.1 + (93 + 2)), .int 0, .int 0, .int 0, .int 0, .ref (E.1 + (93 + 3)), .int 0, .ref (E.1 + (93 + 4)), .null, .null, .null, .null, .int 0, .int 0, .int 0, .null, .int 0, .int 0, .null, .null, .int 0, .null, .int 0, .int 0, .null, .null, .null, .null, .null, .int 0, .null, .null, .int 0])))) G tyX10 tyX10_ok nmX10 zin_10 rfl hi (by decide) zm_1201 rfl rfl (tyX10_ok 10 (by decide)) rfl rfl (Nat.le_of_ble_eq_true rfl) (Nat.le_of_ble_eq_true rfl) zg_w (fun _ h => zg_c h) zg_w dX10_init_33 ?_
  refine zn_aload_n (j := 0) G dX10_init_36 rfl rfl ?_
  refine zn_bipush (v := 7) G dX10_init_37 (by decide) ?_
  refine zn_newa (atype := .int) (ty := .int) (t0 := 0) (a0 := (7, .inl (fun _ => 0))) (N' := 7) G rfl zm_185 rfl (fun _ _ h => h) ((zg_n (by omega)).trans (zfn_32 (by decide +kernel : za_kd (93 + 5) = 32))) (fun _ => rfl) (by decide) (by decide) (by decide) (by omega) (Nat.le_of_ble_eq_true rfl) (Nat.le_of_ble_eq_true rfl) dX10_init_39 ?_
  refine zn_cast (cells' := 5) (slots' := 271) (n' := 6) (pc' := 41) rfl rfl rfl rfl ?_
  refine zn_put (C := RX10) (T := TX10) (N := 36) (ci := 10) (fi := 11) (g' := (zg E 93 (.inr (10, [.int 0, .int 0, .ref (E.1 + (93 + 1)), .ref (E.1 + (93 + 2)), .int 0, .int 0, .int 0, .int 0, .ref (E.1 + (93 + 3)), .int 0, .ref (E.1 + (93 + 4)), .ref (E.1 + (93 + 5)), .null, .null, .null, .int 0, .int 0, .int 0, .null, .int 0, .int 0, .null, .null, .int 0, .null, .int 0, .int 0, .null, .null, .null, .null, .null, .int 0, .null, .null, .int 0])))) G tyX10 tyX10_ok nmX10 zin_10 rfl hi (by decide) zm_1202 rfl rfl (tyX10_ok 11 (by decide)) rfl rfl (Nat.le_of_ble_eq_true rfl) (Nat.le_of_ble_eq_true rfl) zg_w (fun _ h => zg_c h) zg_w dX10_init_41 ?_
  refine zn_aload_n (j := 0) G dX10_init_44 rfl rfl ?_
  refine zn_sipush (v := 2001) G dX10_init_45 (by decide) ?_
  refine zn_newa (atype := .int) (ty := .int) (t0 := 0) (a0 := (2001, .inl (fun _ => 0))) (N' := 2001) G rfl zm_185 rfl (fun _ _ h => h) ((zg_n (by omega)).trans (zfn_22 (by decide +kernel : za_kd (93 + 6) = 22))) (fun _ => rfl) (by decide) (by decide) (by decide) (by omega) (Nat.le_of_ble_eq_true rfl) (Nat.le_of_ble_eq_true rfl) dX10_init_48 ?_
  refine zn_cast (cells' := 6) (slots' := 2272) (n' := 7) (pc' := 50) rfl rfl rfl rfl ?_
  refine zn_put (C := RX10) (T := TX10) (N := 36) (ci := 10) (fi := 12) (g' := (zg E 93 (.inr (10, [.int 0, .int 0, .ref (E.1 + (93 + 1)), .ref (E.1 + (93 + 2)), .int 0, .int 0, .int 0, .int 0, .ref (E.1 + (93 + 3)), .int 0, .ref (E.1 + (93 + 4)), .ref (E.1 + (93 + 5)), .ref (E.1 + (93 + 6)), .null, .null, .int 0, .int 0, .int 0, .null, .int 0, .int 0, .null, .null, .int 0, .null, .int 0, .int 0, .null, .null, .null, .null, .null, .int 0, .null, .null, .int 0])))) G tyX10 tyX10_ok nmX10 zin_10 rfl hi (by decide) zm_1203 rfl rfl (tyX10_ok 12 (by decide)) rfl rfl (Nat.le_of_ble_eq_true rfl) (Nat.le_of_ble_eq_true rfl) zg_w (fun _ h => zg_c h) zg_w dX10_init_50 ?_
  refine zn_aload_n (j := 0) G dX10_init_53 rfl rfl ?_
  refine zn_sipush (v := 2001) G dX10_init_54 (by decide) ?_
  refine zn_newa (atype := .int) (ty := .int) (t0 := 0) (a0 := (2001, .inl (fun _ => 0))) (N' := 2001) G rfl zm_185 rfl (fun _ _ h => h) ((zg_n (by omega)).trans (zfn_22 (by decide +kernel : za_kd (93 + 7) = 22))) (fun _ => rfl) (by decide) (by decide) (by decide) (by omega) (Nat.le_of_ble_eq_true rfl) (Nat.le_of_ble_eq_true rfl) dX10_init_57 ?_
  refine zn_cast (cells' := 7) (slots' := 4273) (n' := 8) (pc' := 59) rfl rfl rfl rfl ?_
  refine zn_put (C := RX10) (T := TX10) (N := 36) (ci := 10) (fi := 13) (g' := (zg E 93 (.inr (10, [.int 0, .int 0, .ref (E.1 + (93 + 1)), .ref (E.1 + (93 + 2)), .int 0, .int 0, .int 0, .int 0, .ref (E.1 + (93 + 3)), .int 0, .ref (E.1 + (93 + 4)), .ref (E.1 + (93 + 5)), .ref (E.1 + (93 + 6)), .ref (E.1 + (93 + 7)), .null, .int 0, .int 0, .int 0, .null, .int 0, .int 0, .null, .null, .int 0, .null, .int 0, .int 0, .null, .null, .null, .null, .null, .int 0, .null, .null, .int 0])))) G tyX10 tyX10_ok nmX10 zin_10 rfl hi (by decide) zm_1204 rfl rfl (tyX10_ok 13 (by decide)) rfl rfl (Nat.le_of_ble_eq_true rfl) (Nat.le_of_ble_eq_true rfl) zg_w (fun _ h => zg_c h) zg_w dX10_init_59 ?_
  refine zn_aload_n (j := 0) G dX10_init_62 rfl rfl ?_
  refine zn_sipush (v := 2001) G dX10_init_63 (by decide) ?_
  refine zn_newa (atype := .int) (ty := .int) (t0 := 0) (a0 := (2001, .inl (fun _ => 0))) (N' := 2001) G rfl zm_185 rfl (fun _ _ h => h) ((zg_n (by omega)).trans (zfn_22 (by decide +kernel : za_kd (93 + 8) = 22))) (fun _ => rfl) (by decide) (by decide) (by decide) (by omega) (Nat.le_of_ble_eq_true rfl) (Nat.le_of_ble_eq_true rfl) dX10_init_66 ?_
  refine zn_cast (cells' := 8) (slots' := 6274) (n' := 9) (pc' := 68) rfl rfl rfl rfl ?_
  refine zn_put (C := RX10) (T := TX10) (N := 36) (ci := 10) (fi := 14) (g' := (zg E 93 (.inr (10, [.int 0, .int 0, .ref (E.1 + (93 + 1)), .ref (E.1 + (93 + 2)), .int 0, .int 0, .int 0, .int 0, .ref (E.1 + (93 + 3)), .int 0, .ref (E.1 + (93 + 4)), .ref (E.1 + (93 + 5)), .ref (E.1 + (93 + 6)), .ref (E.1 + (93 + 7)), .ref (E.1 + (93 + 8)), .int 0, .int 0, .int 0, .null, .int 0, .int 0, .null, .null, .int 0, .null, .int 0, .int 0, .null, .null, .null, .null, .null, .int 0, .null, .null, .int 0])))) G tyX10 tyX10_ok nmX10 zin_10 rfl hi (by decide) zm_1205 rfl rfl (tyX10_ok 14 (by decide)) rfl rfl (Nat.le_of_ble_eq_true rfl) (Nat.le_of_ble_eq_true rfl) zg_w (fun _ h => zg_c h) zg_w dX10_init_68 ?_
  refine zn_aload_n (j := 0) G dX10_init_71 rfl rfl ?_
  refine zn_sipush (v := 22011) G dX10_init_72 (by decide) ?_
  refine zn_newa (atype := .int) (ty := .int) (t0 := 0) (a0 := (22011, .inl (fun _ => 0))) (N' := 22011) G rfl zm_185 rfl (fun _ _ h => h) ((zg_n (by omega)).trans (zfn_23 (by decide +kernel : za_kd (93 + 9) = 23))) (fun _ => rfl) (by decide) (by decide) (by decide) (by omega) (Nat.le_of_ble_eq_true rfl) (Nat.le_of_ble_eq_true rfl) dX10_init_75 ?_
  refine zn_cast (cells' := 9) (slots' := 28285) (n' := 10) (pc' := 77) rfl rfl rfl rfl ?_
  refine zn_put (C := RX10) (T := TX10) (N := 36) (ci := 10) (fi := 18) (g' := (zg E 93 (.inr (10, [.int 0, .int 0, .ref (E.1 + (93 + 1)), .ref (E.1 + (93 + 2)), .int 0, .int 0, .int 0, .int 0, .ref (E.1 + (93 + 3)), .int 0, .ref (E.1 + (93 + 4)), .ref (E.1 + (93 + 5)), .ref (E.1 + (93 + 6)), .ref (E.1 + (93 + 7)), .ref (E.1 + (93 + 8)), .int 0, .int 0, .int 0, .ref (E.1 + (93 + 9)), .int 0, .int 0, .null, .null, .int 0, .null, .int 0, .int 0, .null, .null, .null, .null, .null, .int 0, .null, .null, .int 0])))) G tyX10 tyX10_ok nmX10 zin_10 rfl hi (by decide) zm_1209 rfl rfl (tyX10_ok 18 (by decide)) rfl rfl (Nat.le_of_ble_eq_true rfl) (Nat.le_of_ble_eq_true rfl) zg_w (fun _ h => zg_c h) zg_w dX10_init_77 ?_
  refine zn_aload_n (j := 0) G dX10_init_80 rfl rfl ?_
  refine zn_bipush (v := 80) G dX10_init_81 (by decide) ?_
  refine zn_newa (atype := .int) (ty := .int) (t0 := 0) (a0 := (80, .inl (fun _ => 0))) (N' := 80) G rfl zm_185 rfl (fun _ _ h => h) ((zg_n (by omega)).trans (zfn_21 (by decide +kernel : za_kd (93 + 10) = 21))) (fun _ => rfl) (by decide) (by decide) (by decide) (by omega) (Nat.le_of_ble_eq_true rfl) (Nat.le_of_ble_eq_true rfl) dX10_init_83 ?_
  refine zn_cast (cells' := 10) (slots' := 28365) (n' := 11) (pc' := 85) rfl rfl rfl rfl ?_
  refine zn_put (C := RX10) (T := TX10) (N := 36) (ci := 10) (fi := 21) (g' := (zg E 93 (.inr (10, [.int 0, .int 0, .ref (E.1 + (93 + 1)), .ref (E.1 + (93 + 2)), .int 0, .int 0, .int 0, .int 0, .ref (E.1 + (93 + 3)), .int 0, .ref (E.1 + (93 + 4)), .ref (E.1 + (93 + 5)), .ref (E.1 + (93 + 6)), .ref (E.1 + (93 + 7)), .ref (E.1 + (93 + 8)), .int 0, .int 0, .int 0, .ref (E.1 + (93 + 9)), .int 0, .int 0, .ref (E.1 + (93 + 10)), .null, .int 0, .null, .int 0, .int 0, .null, .null, .null, .null, .null, .int 0, .null, .null, .int 0])))) G tyX10 tyX10_ok nmX10 zin_10 rfl hi (by decide) zm_1212 rfl rfl (tyX10_ok 21 (by decide)) rfl rfl (Nat.le_of_ble_eq_true rfl) (Nat.le_of_ble_eq_true rfl) zg_w (fun _ h => zg_c h) zg_w dX10_init_85 ?_
  refine zn_aload_n (j := 0) G dX10_init_88 rfl rfl ?_
  refine zn_bipush (v := 80) G dX10_init_89 (by decide) ?_
  refine zn_iconst (v := 5) G dX10_init_91 (by decide) ?_
  refine zn_mna (N' := 80) (K' := 5) (f := fun i => some (E.1 + (105 + 1 * i))) G zm_1189 zm_185 ((zg_n (by omega)).trans (zfn_24 (by decide +kernel : za_kd (93 + 11) = 24))) (fun j _ => congrArg some (by omega)) (fun j hj => ((zg_n (by omega))).trans (zfn_25 ((by decide +kernel : ∀ j, j < 80 → za_kd (93 + (11 + 1 + j)) = 25) j hj))) (by decide) (by decide) (by decide) (by decide) (by decide) (by decide) (by decide) (by omega) (Nat.le_of_ble_eq_true rfl) (Nat.le_of_ble_eq_true rfl) dX10_init_92 ?_
  refine zn_cast (cells' := 91) (slots' := 28845) (n' := 92) (pc' := 96) rfl rfl rfl rfl ?_
  refine zn_put (C := RX10) (T := TX10) (N := 36) (ci := 10) (fi := 22) (g' := (zg E 93 (.inr (10, [.int 0, .int 0, .ref (E.1 + (93 + 1)), .ref (E.1 + (93 + 2)), .int 0, .int 0, .int 0, .int 0, .ref (E.1 + (93 + 3)), .int 0, .ref (E.1 + (93 + 4)), .ref (E.1 + (93 + 5)), .ref (E.1 + (93 + 6)), .ref (E.1 + (93 + 7)), .ref (E.1 + (93 + 8)), .int 0, .int 0, .int 0, .ref (E.1 + (93 + 9)), .int 0, .int 0, .ref (E.1 + (93 + 10)), .ref (E.1 + (93 + 11)), .int 0, .null, .int 0, .int 0, .null, .null, .null, .null, .null, .int 0, .null, .null, .int 0])))) G tyX10 tyX10_ok nmX10 zin_10 rfl hi (by decide) zm_1213 rfl rfl (tyX10_ok 22 (by decide)) rfl rfl (Nat.le_of_ble_eq_true rfl) (Nat.le_of_ble_eq_true rfl) zg_w (fun _ h => zg_c h) zg_w dX10_init_96 ?_
  refine zn_aload_n (j := 0) G dX10_init_99 rfl rfl ?_
  refine zn_bipush (v := 100) G dX10_init_100 (by decide) ?_
  refine zn_newa (atype := .int) (ty := .int) (t0 := 0) (a0 := (100, .inl (fun _ => 0))) (N' := 100) G rfl zm_185 rfl (fun _ _ h => h) ((zg_n (by omega)).trans (zfn_31 (by decide +kernel : za_kd (93 + 92) = 31))) (fun _ => rfl) (by decide) (by decide) (by decide) (by omega) (Nat.le_of_ble_eq_true rfl) (Nat.le_of_ble_eq_true rfl) dX10_init_102 ?_
  refine zn_cast (cells' := 92) (slots' := 28945) (n' := 93) (pc' := 104) rfl rfl rfl rfl ?_
  refine zn_put (C := RX10) (T := TX10) (N := 36) (ci := 10) (fi := 24) (g' := (zg E 93 (.inr (10, [.int 0, .int 0, .ref (E.1 + (93 + 1)), .ref (E.1 + (93 + 2)), .int 0, .int 0, .int 0, .int 0, .ref (E.1 + (93 + 3)), .int 0, .ref (E.1 + (93 + 4)), .ref (E.1 + (93 + 5)), .ref (E.1 + (93 + 6)), .ref (E.1 + (93 + 7)), .ref (E.1 + (93 + 8)), .int 0, .int 0, .int 0, .ref (E.1 + (93 + 9)), .int 0, .int 0, .ref (E.1 + (93 + 10)), .ref (E.1 + (93 + 11)), .int 0, .ref (E.1 + (93 + 92)), .int 0, .int 0, .null, .null, .null, .null, .null, .int 0, .null, .null, .int 0])))) G tyX10 tyX10_ok nmX10 zin_10 rfl hi (by decide) zm_1215 rfl rfl (tyX10_ok 24 (by decide)) rfl rfl (Nat.le_of_ble_eq_true rfl) (Nat.le_of_ble_eq_true rfl) zg_w (fun _ h => zg_c h) zg_w dX10_init_104 ?_
  refine zn_aload_n (j := 0) G dX10_init_107 rfl rfl ?_
  refine zn_bipush (v := 20) G dX10_init_108 (by decide) ?_
  refine zn_newa (atype := .int) (ty := .int) (t0 := 0) (a0 := (20, .inl (fun _ => 0))) (N' := 20) G rfl zm_185 rfl (fun _ _ h => h) ((zg_n (by omega)).trans (zfn_26 (by decide +kernel : za_kd (93 + 93) = 26))) (fun _ => rfl) (by decide) (by decide) (by decide) (by omega) (Nat.le_of_ble_eq_true rfl) (Nat.le_of_ble_eq_true rfl) dX10_init_110 ?_
  refine zn_cast (cells' := 93) (slots' := 28965) (n' := 94) (pc' := 112) rfl rfl rfl rfl ?_
  refine zn_put (C := RX10) (T := TX10) (N := 36) (ci := 10) (fi := 27) (g' := (zg E 93 (.inr (10, [.int 0, .int 0, .ref (E.1 + (93 + 1)), .ref (E.1 + (93 + 2)), .int 0, .int 0, .int 0, .int 0, .ref (E.1 + (93 + 3)), .int 0, .ref (E.1 + (93 + 4)), .ref (E.1 + (93 + 5)), .ref (E.1 + (93 + 6)), .ref (E.1 + (93 + 7)), .ref (E.1 + (93 + 8)), .int 0, .int 0, .int 0, .ref (E.1 + (93 + 9)), .int 0, .int 0, .ref (E.1 + (93 + 10)), .ref (E.1 + (93 + 11)), .int 0, .ref (E.1 + (93 + 92)), .int 0, .int 0, .ref (E.1 + (93 + 93)), .null, .null, .null, .null, .int 0, .null, .null, .int 0])))) G tyX10 tyX10_ok nmX10 zin_10 rfl hi (by decide) zm_1218 rfl rfl (tyX10_ok 27 (by decide)) rfl rfl (Nat.le_of_ble_eq_true rfl) (Nat.le_of_ble_eq_true rfl) zg_w (fun _ h => zg_c h) zg_w dX10_init_112 ?_
  refine zn_aload_n (j := 0) G dX10_init_115 rfl rfl ?_
  refine zn_bipush (v := 20) G dX10_init_116 (by decide) ?_
  refine zn_newa (atype := .int) (ty := .int) (t0 := 0) (a0 := (20, .inl (fun _ => 0))) (N' := 20) G rfl zm_185 rfl (fun _ _ h => h) ((zg_n (by omega)).trans (zfn_26 (by decide +kernel : za_kd (93 + 94) = 26))) (fun _ => rfl) (by decide) (by decide) (by decide) (by omega) (Nat.le_of_ble_eq_true rfl) (Nat.le_of_ble_eq_true rfl) dX10_init_118 ?_
  refine zn_cast (cells' := 94) (slots' := 28985) (n' := 95) (pc' := 120) rfl rfl rfl rfl ?_
  refine zn_put (C := RX10) (T := TX10) (N := 36) (ci := 10) (fi := 28) (g' := (zg E 93 (.inr (10, [.int 0, .int 0, .ref (E.1 + (93 + 1)), .ref (E.1 + (93 + 2)), .int 0, .int 0, .int 0, .int 0, .ref (E.1 + (93 + 3)), .int 0, .ref (E.1 + (93 + 4)), .ref (E.1 + (93 + 5)), .ref (E.1 + (93 + 6)), .ref (E.1 + (93 + 7)), .ref (E.1 + (93 + 8)), .int 0, .int 0, .int 0, .ref (E.1 + (93 + 9)), .int 0, .int 0, .ref (E.1 + (93 + 10)), .ref (E.1 + (93 + 11)), .int 0, .ref (E.1 + (93 + 92)), .int 0, .int 0, .ref (E.1 + (93 + 93)), .ref (E.1 + (93 + 94)), .null, .null, .null, .int 0, .null, .null, .int 0])))) G tyX10 tyX10_ok nmX10 zin_10 rfl hi (by decide) zm_1219 rfl rfl (tyX10_ok 28 (by decide)) rfl rfl (Nat.le_of_ble_eq_true rfl) (Nat.le_of_ble_eq_true rfl) zg_w (fun _ h => zg_c h) zg_w dX10_init_120 ?_
  refine zn_aload_n (j := 0) G dX10_init_123 rfl rfl ?_
  refine zn_bipush (v := 20) G dX10_init_124 (by decide) ?_
  refine zn_newa (atype := .int) (ty := .int) (t0 := 0) (a0 := (20, .inl (fun _ => 0))) (N' := 20) G rfl zm_185 rfl (fun _ _ h => h) ((zg_n (by omega)).trans (zfn_26 (by decide +kernel : za_kd (93 + 95) = 26))) (fun _ => rfl) (by decide) (by decide) (by decide) (by omega) (Nat.le_of_ble_eq_true rfl) (Nat.le_of_ble_eq_true rfl) dX10_init_126 ?_
  refine zn_cast (cells' := 95) (slots' := 29005) (n' := 96) (pc' := 128) rfl rfl rfl rfl ?_
  refine zn_put (C := RX10) (T := TX10) (N := 36) (ci := 10) (fi := 29) (g' := (zg E 93 (.inr (10, [.int 0, .int 0, .ref (E.1 + (93 + 1)), .ref (E.1 + (93 + 2)), .int 0, .int 0, .int 0, .int 0, .ref (E.1 + (93 + 3)), .int 0, .ref (E.1 + (93 + 4)), .ref (E.1 + (93 + 5)), .ref (E.1 + (93 + 6)), .ref (E.1 + (93 + 7)), .ref (E.1 + (93 + 8)), .int 0, .int 0, .int 0, .ref (E.1 + (93 + 9)), .int 0, .int 0, .ref (E.1 + (93 + 10)), .ref (E.1 + (93 + 11)), .int 0, .ref (E.1 + (93 + 92)), .int 0, .int 0, .ref (E.1 + (93 + 93)), .ref (E.1 + (93 + 94)), .ref (E.1 + (93 + 95)), .null, .null, .int 0, .null, .null, .int 0])))) G tyX10 tyX10_ok nmX10 zin_10 rfl hi (by decide) zm_1220 rfl rfl (tyX10_ok 29 (by decide)) rfl rfl (Nat.le_of_ble_eq_true rfl) (Nat.le_of_ble_eq_true rfl) zg_w (fun _ h => zg_c h) zg_w dX10_init_128 ?_
  refine zn_aload_n (j := 0) G dX10_init_131 rfl rfl ?_
  refine zn_iconst (v := 2) G dX10_init_132 (by decide) ?_
  refine zn_newa (atype := .boolean) (ty := .boolean) (t0 := 3) (a0 := (2, .inl (fun _ => 0))) (N' := 2) G rfl zm_1300 rfl (fun _ _ h => h) ((zg_n (by omega)).trans (zfn_27 (by decide +kernel : za_kd (93 + 96) = 27))) (fun _ => rfl) (by decide) (by decide) (by decide) (by omega) (Nat.le_of_ble_eq_true rfl) (Nat.le_of_ble_eq_true rfl) dX10_init_133 ?_
  refine zn_cast (cells' := 96) (slots' := 29007) (n' := 97) (pc' := 135) rfl rfl rfl rfl ?_
  refine zn_put (C := RX10) (T := TX10) (N := 36) (ci := 10) (fi := 30) (g' := (zg E 93 (.inr (10, [.int 0, .int 0, .ref (E.1 + (93 + 1)), .ref (E.1 + (93 + 2)), .int 0, .int 0, .int 0, .int 0, .ref (E.1 + (93 + 3)), .int 0, .ref (E.1 + (93 + 4)), .ref (E.1 + (93 + 5)), .ref (E.1 + (93 + 6)), .ref (E.1 + (93 + 7)), .ref (E.1 + (93 + 8)), .int 0, .int 0, .int 0, .ref (E.1 + (93 + 9)), .int 0, .int 0, .ref (E.1 + (93 + 10)), .ref (E.1 + (93 + 11)), .int 0, .ref (E.1 + (93 + 92)), .int 0, .int 0, .ref (E.1 + (93 + 93)), .ref (E.1 + (93 + 94)), .ref (E.1 + (93 + 95)), .ref (E.1 + (93 + 96)), .null, .int 0, .null, .null, .int 0])))) G tyX10 tyX10_ok nmX10 zin_10 rfl hi (by decide) zm_1221 rfl rfl (tyX10_ok 30 (by decide)) rfl rfl (Nat.le_of_ble_eq_true rfl) (Nat.le_of_ble_eq_true rfl) zg_w (fun _ h => zg_c h) zg_w dX10_init_135 ?_
  refine zn_aload_n (j := 0) G dX10_init_138 rfl rfl ?_
  refine zn_sipush (v := 4002) G dX10_init_139 (by decide) ?_
  refine zn_newa (atype := .int) (ty := .int) (t0 := 0) (a0 := (4002, .inl (fun _ => 0))) (N' := 4002) G rfl zm_185 rfl (fun _ _ h => h) ((zg_n (by omega)).trans (zfn_28 (by decide +kernel : za_kd (93 + 97) = 28))) (fun _ => rfl) (by decide) (by decide) (by decide) (by omega) (Nat.le_of_ble_eq_true rfl) (Nat.le_of_ble_eq_true rfl) dX10_init_142 ?_
  refine zn_cast (cells' := 97) (slots' := 33009) (n' := 98) (pc' := 144) rfl rfl rfl rfl ?_
  refine zn_put (C := RX10) (T := TX10) (N := 36) (ci := 10) (fi := 31) (g' := (zg E 93 (.inr (10, [.int 0, .int 0, .ref (E.1 + (93 + 1)), .ref (E.1 + (93 + 2)), .int 0, .int 0, .int 0, .int 0, .ref (E.1 + (93 + 3)), .int 0, .ref (E.1 + (93 + 4)), .ref (E.1 + (93 + 5)), .ref (E.1 + (93 + 6)), .ref (E.1 + (93 + 7)), .ref (E.1 + (93 + 8)), .int 0, .int 0, .int 0, .ref (E.1 + (93 + 9)), .int 0, .int 0, .ref (E.1 + (93 + 10)), .ref (E.1 + (93 + 11)), .int 0, .ref (E.1 + (93 + 92)), .int 0, .int 0, .ref (E.1 + (93 + 93)), .ref (E.1 + (93 + 94)), .ref (E.1 + (93 + 95)), .ref (E.1 + (93 + 96)), .ref (E.1 + (93 + 97)), .int 0, .null, .null, .int 0])))) G tyX10 tyX10_ok nmX10 zin_10 rfl hi (by decide) zm_1222 rfl rfl (tyX10_ok 31 (by decide)) rfl rfl (Nat.le_of_ble_eq_true rfl) (Nat.le_of_ble_eq_true rfl) zg_w (fun _ h => zg_c h) zg_w dX10_init_144 ?_
  refine zn_aload_n (j := 0) G dX10_init_147 rfl rfl ?_
  refine zn_bipush (v := 12) G dX10_init_148 (by decide) ?_
  refine zn_newa (atype := .int) (ty := .int) (t0 := 0) (a0 := (12, .inl (fun _ => 0))) (N' := 12) G rfl zm_185 rfl (fun _ _ h => h) ((zg_n (by omega)).trans (zfn_30 (by decide +kernel : za_kd (93 + 98) = 30))) (fun _ => rfl) (by decide) (by decide) (by decide) (by omega) (Nat.le_of_ble_eq_true rfl) (Nat.le_of_ble_eq_true rfl) dX10_init_150 ?_
  refine zn_cast (cells' := 98) (slots' := 33021) (n' := 99) (pc' := 152) rfl rfl rfl rfl ?_
  refine zn_put (C := RX10) (T := TX10) (N := 36) (ci := 10) (fi := 33) (g' := (zg E 93 (.inr (10, [.int 0, .int 0, .ref (E.1 + (93 + 1)), .ref (E.1 + (93 + 2)), .int 0, .int 0, .int 0, .int 0, .ref (E.1 + (93 + 3)), .int 0, .ref (E.1 + (93 + 4)), .ref (E.1 + (93 + 5)), .ref (E.1 + (93 + 6)), .ref (E.1 + (93 + 7)), .ref (E.1 + (93 + 8)), .int 0, .int 0, .int 0, .ref (E.1 + (93 + 9)), .int 0, .int 0, .ref (E.1 + (93 + 10)), .ref (E.1 + (93 + 11)), .int 0, .ref (E.1 + (93 + 92)), .int 0, .int 0, .ref (E.1 + (93 + 93)), .ref (E.1 + (93 + 94)), .ref (E.1 + (93 + 95)), .ref (E.1 + (93 + 96)), .ref (E.1 + (93 + 97)), .int 0, .ref (E.1 + (93 + 98)), .null, .int 0])))) G tyX10 tyX10_ok nmX10 zin_10 rfl hi (by decide) zm_1224 rfl rfl (tyX10_ok 33 (by decide)) rfl rfl (Nat.le_of_ble_eq_true rfl) (Nat.le_of_ble_eq_true rfl) zg_w (fun _ h => zg_c h) zg_w dX10_init_152 ?_
  refine zn_aload_n (j := 0) G dX10_init_155 rfl rfl ?_
  refine zn_bipush (v := 12) G dX10_init_156 (by decide) ?_
  refine zn_newa (atype := .int) (ty := .int) (t0 := 0) (a0 := (12, .inl (fun _ => 0))) (N' := 12) G rfl zm_185 rfl (fun _ _ h => h) ((zg_n (by omega)).trans (zfn_30 (by decide +kernel : za_kd (93 + 99) = 30))) (fun _ => rfl) (by decide) (by decide) (by decide) (by omega) (Nat.le_of_ble_eq_true rfl) (Nat.le_of_ble_eq_true rfl) dX10_init_158 ?_
  refine zn_cast (cells' := 99) (slots' := 33033) (n' := 100) (pc' := 160) rfl rfl rfl rfl ?_
  refine zn_put (C := RX10) (T := TX10) (N := 36) (ci := 10) (fi := 34) (g' := (zg E 93 (.inr (10, [.int 0, .int 0, .ref (E.1 + (93 + 1)), .ref (E.1 + (93 + 2)), .int 0, .int 0, .int 0, .int 0, .ref (E.1 + (93 + 3)), .int 0, .ref (E.1 + (93 + 4)), .ref (E.1 + (93 + 5)), .ref (E.1 + (93 + 6)), .ref (E.1 + (93 + 7)), .ref (E.1 + (93 + 8)), .int 0, .int 0, .int 0, .ref (E.1 + (93 + 9)), .int 0, .int 0, .ref (E.1 + (93 + 10)), .ref (E.1 + (93 + 11)), .int 0, .ref (E.1 + (93 + 92)), .int 0, .int 0, .ref (E.1 + (93 + 93)), .ref (E.1 + (93 + 94)), .ref (E.1 + (93 + 95)), .ref (E.1 + (93 + 96)), .ref (E.1 + (93 + 97)), .int 0, .ref (E.1 + (93 + 98)), .ref (E.1 + (93 + 99)), .int 0])))) G tyX10 tyX10_ok nmX10 zin_10 rfl hi (by decide) zm_1225 rfl rfl (tyX10_ok 34 (by decide)) rfl rfl (Nat.le_of_ble_eq_true rfl) (Nat.le_of_ble_eq_true rfl) zg_w (fun _ h => zg_c h) zg_w dX10_init_160 ?_
  exact zn_ret (k9 := 99) (sl := 33033) G hr dX10_init_163 (fun j _ => zg_f (zfn_19 (by decide +kernel : za_kd 93 = 19)))
