/-! a method that throws NoSuchElementException, and its catching -/
def zXN : String := "java/util/NoSuchElementException"
def zXs : List String := ["java/lang/RuntimeException", "java/lang/Exception"]
def zXb : List Cond := [.castable zXN zXN, .declares ⟨"java/lang/RuntimeException", "<init>", "()V"⟩, .declares ⟨"java/lang/Exception", "<init>", "()V"⟩, .declares ⟨"java/lang/Throwable", "<init>", "()V"⟩]
theorem zXb_in : ∀ w ∈ (vx_at0 RX9 97 zXN zXs).filter (fun w => !goodWord w), w ∈ zXb := by decide +kernel
theorem zXg : ∀ w ∈ (vx_at0 RX9 97 zXN zXs).filter goodWord, w ∈ zWW := fun w h => List.mem_filter.mpr ⟨(by decide +kernel : ∀ w ∈ (vx_at0 RX9 97 zXN zXs).filter goodWord, w ∈ lw_tbl) w h, (List.mem_filter.mp h).2⟩
theorem zXot : ∀ w ∈ Cond.classLink RX9 95 zXN :: Cond.initialized zXN :: vx_at0 RX9 97 zXN zXs, vx_ot w = true := by decide +kernel
theorem zXb_t : ∀ w ∈ zXb, w.onTables = true := by decide
/-- what a throw needs of the state, beside the words -/
def zX (E : za_E) (U : State) (H : Heap) : Prop := (∀ w ∈ zXb, va_Nw w U) ∧ vx_Zq Bundle.tN "UNASSIGNED_STACK" Bundle.steD (za_A E) U H ∧ vx_Zq Bundle.tN "SUPPRESSED_SENTINEL" Bundle.listD (za_A E) U H
theorem zX_warm {E : za_E} {s U : State} {H0 H : Heap} (hW : s.WarmedH U.vm) (hk : ∀ a : Nat, a < H0.size → ¬ za_A E a → H[a]? = H0[a]?) (h : zX E s H0) : zX E U H := by
  refine ⟨fun w hw => ?_, (vx_Zq.moved hW.alike h.2.1).kept hk, (vx_Zq.moved hW.alike h.2.2).kept hk⟩
  have h1 := h.1 w hw
  simp only [zXb, List.mem_cons, List.not_mem_nil, or_false] at hw
  rcases hw with rfl | rfl | rfl | rfl
  · exact va_Nw.warmC hW h1
  · exact va_Nw.warmD hW h1
  · exact va_Nw.warmD hW h1
  · exact va_Nw.warmD hW h1
theorem zX_calling {E : za_E} {U : State} {g : JFrame} {mk : MethodId} {a : Array Value} (h : zX E U U.heap) : zX E (U.calling g mk a) (U.calling g mk a).heap :=
  ⟨fun w hw => va_Nw.same (u := U) (U := U.calling g mk a) (zXb_t w hw) rfl (h.1 w hw), vx_Zq.moved (u := U) (U := U.calling g mk a) (Vm.Alike.refl U.vm) h.2.1, vx_Zq.moved (u := U) (U := U.calling g mk a) (Vm.Alike.refl U.vm) h.2.2⟩
def zPx (E : za_E) (as : List za_V) (σ : za_S) : Array Value → State → Prop := fun a U => zPc E as σ a U ∧ zX E U U.heap
theorem zPx_blind {E : za_E} {as : List za_V} {σ : za_S} : FrameBlind (zPx E as σ) := fun _ _ _ _ h => ⟨zPc_blind _ _ _ _ h.1, zX_calling h.2⟩
def zRx (fr lo : Nat) : Room := { frames := fr, cells := 1, slots := 6, locals := lo }
def zXC (E : za_E) (σ : za_S) : String → State → State → Prop := vx_X (fun u : za_S => u = σ) (fun N u t => N = zXN ∧ zB E u t) (za_A E)
def zMxi (l : Launch) (E : za_E) (y : MethodName) (cc : ByteArray) (maxL : Nat) (ret : Option FieldType) (fr lo : Nat) (as : List za_V) (σ : za_S) (P : Int32 → za_S → Prop) : Prop := vx_Met l y (.code y cc maxL ret :: zWW) (zRx fr lo) (zPx E as σ) (va_Qi P (zB E) (za_A E)) (zXC E σ) 1 6 (za_A E)
def zMxl (l : Launch) (E : za_E) (y : MethodName) (cc : ByteArray) (maxL : Nat) (ret : Option FieldType) (fr lo : Nat) (as : List za_V) (σ : za_S) (P : Int64 → za_S → Prop) : Prop := vx_Met l y (.code y cc maxL ret :: zWW) (zRx fr lo) (zPx E as σ) (va_Ql P (zB E) (za_A E)) (zXC E σ) 1 6 (za_A E)
section ZX
variable {p : Program} {l : Launch} {e : Env} {R : Room} {s : State} {m : MethodId} {args : Array Value} {below : List Frame} {meth : Method} {c : Code} {cells slots : Nat} {Q : State → Prop}
variable {E : za_E} {A : Nat → Prop} {nL : Nat} {cc : ByteArray} {own : String} {pc : Nat} {lv lv' : List (Nat × za_V)} {st : List za_V} {σ : za_S}
theorem zMxi_of {y : MethodName} {maxL fr lo : Nat} {ret : Option FieldType} {as : List za_V} {P : Int32 → za_S → Prop} (lv : List (Nat × za_V)) (hy : plainName y.cls = true) (hargs : lv_args 0 (as.map (za_c E)) = lv.map fun q => (q.1, za_c E q.2)) (has : lv.map (fun q => q.2) = as) (hlen : (as.map za_cat).sum ≤ maxL)
    (body : (∀ v ∈ as, za_ok v) → ∀ (p : Program) (e : Env) (s : State) (m : MethodId) (args : Array Value) (below : List Frame) (meth : Method) (c : Code), zC p s m args meth c cc y.cls maxL E (za_A E) → meth.sig.returnType = ret → zX E s s.heap → (∀ x ∈ c.exceptionTable.toList, False) → zV p l e (zRx fr lo) s m args below meth c E (za_A E) maxL 0 0 (vx_MQ below (va_Qi P (zB E) (za_A E)) (zXC E σ) args s 1 6 (za_A E)) 0 lv [] σ) : zMxi l E y cc maxL ret fr lo as σ P := by
  refine vx_ofW (cc := cc) (maxL := maxL) (ret := ret) hy rfl ?_
  intro p e s m args below meth c s₁ B hml ht hv
  obtain ⟨⟨rfl, hoas, hP, hY⟩, hX⟩ := hv
  have hts := atoms_spec (ws := .code y cc maxL ret :: zWW) B.pre
  have hown : s.vm.findClass y.cls = some m.cls := findClass_of_methodNamed B.named
  rw [lg_entry_eq]
  have hl := lv_entry (as.map (za_c E)) (n := maxL) (by rw [za_lgl]; exact hlen)
  rw [hargs] at hl
  exact body hoas p e s m _ below meth c ⟨B.exec, B.bytes, hml, hown, fun w hw => hts w (List.mem_cons_of_mem _ hw), hY, fun _ h => h, fun _ _ h => h, B.notSynchronized⟩ B.returns hX ht s.heap [] _ (fun q hq => hoas q.2 (by rw [← has]; exact List.mem_map.mpr ⟨q, hq, rfl⟩)) (fun v h => nomatch h) hP va_S.rf hl
theorem zMxl_of {y : MethodName} {maxL fr lo : Nat} {ret : Option FieldType} {as : List za_V} {P : Int64 → za_S → Prop} (lv : List (Nat × za_V)) (hy : plainName y.cls = true) (hargs : lv_args 0 (as.map (za_c E)) = lv.map fun q => (q.1, za_c E q.2)) (has : lv.map (fun q => q.2) = as) (hlen : (as.map za_cat).sum ≤ maxL)
    (body : (∀ v ∈ as, za_ok v) → ∀ (p : Program) (e : Env) (s : State) (m : MethodId) (args : Array Value) (below : List Frame) (meth : Method) (c : Code), zC p s m args meth c cc y.cls maxL E (za_A E) → meth.sig.returnType = ret → zX E s s.heap → (∀ x ∈ c.exceptionTable.toList, False) → zV p l e (zRx fr lo) s m args below meth c E (za_A E) maxL 0 0 (vx_MQ below (va_Ql P (zB E) (za_A E)) (zXC E σ) args s 1 6 (za_A E)) 0 lv [] σ) : zMxl l E y cc maxL ret fr lo as σ P := by
  refine vx_ofW (cc := cc) (maxL := maxL) (ret := ret) hy rfl ?_
  intro p e s m args below meth c s₁ B hml ht hv
  obtain ⟨⟨rfl, hoas, hP, hY⟩, hX⟩ := hv
  have hts := atoms_spec (ws := .code y cc maxL ret :: zWW) B.pre
  have hown : s.vm.findClass y.cls = some m.cls := findClass_of_methodNamed B.named
  rw [lg_entry_eq]
  have hl := lv_entry (as.map (za_c E)) (n := maxL) (by rw [za_lgl]; exact hlen)
  rw [hargs] at hl
  exact body hoas p e s m _ below meth c ⟨B.exec, B.bytes, hml, hown, fun w hw => hts w (List.mem_cons_of_mem _ hw), hY, fun _ h => h, fun _ _ h => h, B.notSynchronized⟩ B.returns hX ht s.heap [] _ (fun q hq => hoas q.2 (by rw [← has]; exact List.mem_map.mpr ⟨q, hq, rfl⟩)) (fun v h => nomatch h) hP va_S.rf hl
theorem zvx_iret (G : zC p s m args meth c cc own nL E (za_A E)) {P : Int32 → za_S → Prop} {XC : String → State → State → Prop} {x : Int32} (hr : meth.sig.returnType = some .int) (hd : decode cc pc = .ok (.ireturn, 1)) (hp : P x σ) : zV p l e R s m args below meth c E (za_A E) nL 0 0 (vx_MQ below (va_Qi P (zB E) (za_A E)) XC args s 1 6 (za_A E)) pc lv [za_I x] σ := by
  intro H locs ls ho hs hP hS hl
  refine vx_ret (W.widen (k := 1) (n := 6) (Nat.zero_le _) (Nat.zero_le _) ?_)
  exact W.iret G.1 G.2.1 hr (fun t ht hW => ⟨⟨x, σ, rfl, hp, by show va_P _ _ _ t.heap; rw [ht]; exact hP⟩, hS.F ht⟩) hS.2.2 hd G.2.2.2.2.2.2.2.2
theorem zvx_lret (G : zC p s m args meth c cc own nL E (za_A E)) {P : Int64 → za_S → Prop} {XC : String → State → State → Prop} {x : Int64} (hr : meth.sig.returnType = some .long) (hd : decode cc pc = .ok (.lreturn, 1)) (hp : P x σ) : zV p l e R s m args below meth c E (za_A E) nL 0 0 (vx_MQ below (va_Ql P (zB E) (za_A E)) XC args s 1 6 (za_A E)) pc lv [za_L x] σ := by
  intro H locs ls ho hs hP hS hl
  refine vx_ret (W.widen (k := 1) (n := 6) (Nat.zero_le _) (Nat.zero_le _) ?_)
  exact W.lret G.1 G.2.1 hr (fun t ht hW => ⟨⟨x, σ, rfl, hp, by show va_P _ _ _ t.heap; rw [ht]; exact hP⟩, hS.F ht⟩) hS.2.2 hd G.2.2.2.2.2.2.2.2
theorem zvx_throw {Qc : Array Value → State → Outcome → State → Prop} (G : zC p s m args meth c cc RX9 nL E (za_A E)) (hl : l.stackTraces = false) (hX : zX E s s.heap) (ht : ∀ x ∈ c.exceptionTable.toList, False) (hR : 5 < R.frames ∧ 81 ≤ R.locals ∧ 1 ≤ R.cells ∧ 6 ≤ R.slots)
    (d0 : decode cc pc = .ok (.new 95, 3)) (d3 : decode cc (pc + 3) = .ok (.dup, 1)) (d4 : decode cc (pc + 4) = .ok (.invokespecial 97, 3)) (d7 : decode cc (pc + 7) = .ok (.athrow, 1)) : zV p l e R s m args below meth c E (za_A E) nL 0 0 (vx_MQ below Qc (zXC E σ) args s 1 6 (za_A E)) pc lv [] σ := by
  intro H locs ls ho hs hP hS hl9
  have h1 : ∀ w ∈ (vx_at0 RX9 97 zXN zXs).filter goodWord, w.before args s = true := fun w hw => G.2.2.2.2.1 w (zXg w hw)
  have h3 : ∀ w ∈ zXb, w.before args s = true := fun w hw => va_Nw.use (zXb_t w hw) (hX.1 w hw)
  refine vx_throw0 (own := RX9) (cls := zXN) (names := zXs) (ik := 95) (ic := 97) (A := za_A E) G.1 G.2.1 hl G.2.2.2.1 (by decide +kernel) (by decide +kernel) (G.2.2.2.2.1 _ zm_1100) (G.2.2.2.2.1 _ zm_146) (vx_hat h1 zXb_in h3) zXot hX.2.1 hX.2.2 hS (hl9.1.trans G.2.2.1.symm) d0 d3 d4 d7 (fun x hx => (ht x hx).elim) hR.1 hR.2.1 (by rw [Nat.zero_add]; exact hR.2.2.1) (by rw [Nat.zero_add]; exact hR.2.2.2) G.2.2.2.2.2.2.2.2 ?_ hS.2.2 (Nat.le_refl _) (Nat.le_refl _)
  intro t _ hz hk
  exact ⟨σ, rfl, ⟨rfl, hP.kept (fun k q hq => hk q.1 ((hP k q hq).lt))⟩, Nat.le_trans hS.1 hz, fun q a1 a2 => (hk q (Nat.lt_of_lt_of_le a1 hS.1)).trans (hS.2.1 q a1 a2)⟩
theorem za_PreVx (G : zC p s m args meth c cc own nL E A) (hX : zX E s s.heap) {H : Heap} {locs : List Loc} {kd w ci N : Nat} {fs : List Value} {C : String} {T : u_T} {as : List za_V} (hk : kd < 50) (he : za_e E (σ.1 w) (σ.2 w) kd w = .inr (ci, fs)) (hc : vwCl[ci]? = some (C, T, N)) (hP : va_P E.2.1 vwCl (za_w E σ) H) (hS : va_S A s.heap H locs) (ho : ∀ v ∈ za_O kd w :: as, za_ok v) : PreV s H C (E.1 + w) (zPx E (za_O kd w :: as) σ) (as.map (za_c E)) := by
  obtain ⟨-, h2, h3⟩ := za_PreV G hk he hc hP hS ho
  refine ⟨zPx_blind, h2, fun U hU hW => ⟨h3 U hU hW, ?_⟩⟩
  exact zX_warm hW (fun a ha hn => by rw [hU]; exact hS.2.1 a ha (fun q => hn (G.2.2.2.2.2.2.2.1 a ha q))) hX
theorem zvx_callVi (G : zC p s m args meth c cc own nL E A) (hX : zX E s s.heap) {kd w ci N idx maxL n fr lo : Nat} {C : String} {T : u_T} {fs : List Value} {y : MethodName} {bytes : ByteArray} {ret : Option FieldType} {as : List za_V} {P : Int32 → za_S → Prop} (hk : kd < 50) (he : za_e E (σ.1 w) (σ.2 w) kd w = .inr (ci, fs)) (hc : vwCl[ci]? = some (C, T, N)) (hM : zMxi l E y bytes maxL ret fr lo (za_O kd w :: as) σ P) (K : zKV y C bytes maxL ret n) (hlink : Cond.methodLink own idx y ∈ zWW) (hn : as.length = n) (hR : fr + 1 ≤ R.frames ∧ 8 + (maxL + 11) + lo ≤ R.locals) (hcs : cells + 1 ≤ R.cells ∧ slots + 6 ≤ R.slots) (hst : (st.map za_cat).sum ≤ 8) (hd : decode cc pc = .ok (.invokevirtual idx, 3))
    (kx : ∀ (ce : Cell) (q9 : Addr) (H1 : Heap) (locs1 : List Loc) (ls : Array Slot), (∀ q ∈ lv, za_ok q.2) → va_P E.2.1 vwCl (za_w E σ) H1 → va_S A s.heap H1 locs1 → lv_has ls nL (lv.map fun q => (q.1, za_c E q.2)) → H1[q9]? = some ce → ce.vm = .none → s.vm.findClass zXN = some ce.cls → vx_W p l e R s m args below meth c H1 locs1 (cells + 1) (slots + 6) Q (F0 m pc ls (st.map (za_c E))) q9)
    (kk : ∀ (r : Int32) (σ' : za_S), P r σ' → zV p l e R s m args below meth c E A nL (cells + 1) (slots + 6) Q (pc + 3) lv (za_I r :: st) σ') : zV p l e R s m args below meth c E A nL cells slots Q pc lv (as.reverse ++ za_O kd w :: st) σ := by
  intro H locs ls ho hs hP hS hl
  obtain ⟨ho1, ho2⟩ := za_oks hs
  have hpre := za_PreVx G hX hk he hc hP hS ho1
  rw [za_stk hk]
  have hM1 : vx_Met l y (.code y bytes maxL ret :: zWW) (zRx fr lo) (zPx E (za_O kd w :: as) σ) _ (zXC E σ) 1 6 (za_A E) := hM
  refine vx_calli (vx_runV (As := as.map (za_c E)) (rest := st.map (za_c E)) (n := n) ⟨G.1, G.2.1, G.2.2.1, G.2.2.2.1, G.2.2.2.2.1⟩ hM1 (cwV n G.2.2.2.2.1 (za_goodV K hlink) rfl rfl rfl K.2.2.2.2 hR) hpre rfl ((List.length_map ..).trans hn) hl.1 rfl (lv_room (za_cats st hst)) hd hcs) hS (fun q _ h => G.2.2.2.2.2.2.1 q h) G.2.2.2.2.2.2.1 (fun q _ h => G.2.2.2.2.2.2.1 q h) (fun N ce q9 u t H1 locs1 ht _ hu hB _ _ hS1 g1 g2 g3 => ?_) (fun r u t H1 locs1 ht _ hp hB _ _ hS1 => ?_)
  · subst hu
    obtain ⟨rfl, hB⟩ := hB
    exact kx ce q9 H1 locs1 ls ho (by rw [← ht]; exact hB) hS1 hl g1 g2 g3
  · exact kk r u hp H1 locs1 ls ho (za_fm (za_okI r) ho2) (by rw [← ht]; exact hB) hS1 hl
theorem zvx_callVl (G : zC p s m args meth c cc own nL E A) (hX : zX E s s.heap) {kd w ci N idx maxL n fr lo : Nat} {C : String} {T : u_T} {fs : List Value} {y : MethodName} {bytes : ByteArray} {ret : Option FieldType} {as : List za_V} {P : Int64 → za_S → Prop} (hk : kd < 50) (he : za_e E (σ.1 w) (σ.2 w) kd w = .inr (ci, fs)) (hc : vwCl[ci]? = some (C, T, N)) (hM : zMxl l E y bytes maxL ret fr lo (za_O kd w :: as) σ P) (K : zKV y C bytes maxL ret n) (hlink : Cond.methodLink own idx y ∈ zWW) (hn : as.length = n) (hR : fr + 1 ≤ R.frames ∧ 8 + (maxL + 11) + lo ≤ R.locals) (hcs : cells + 1 ≤ R.cells ∧ slots + 6 ≤ R.slots) (hst : (st.map za_cat).sum ≤ 8) (hd : decode cc pc = .ok (.invokevirtual idx, 3))
    (kx : ∀ (ce : Cell) (q9 : Addr) (H1 : Heap) (locs1 : List Loc) (ls : Array Slot), (∀ q ∈ lv, za_ok q.2) → va_P E.2.1 vwCl (za_w E σ) H1 → va_S A s.heap H1 locs1 → lv_has ls nL (lv.map fun q => (q.1, za_c E q.2)) → H1[q9]? = some ce → ce.vm = .none → s.vm.findClass zXN = some ce.cls → vx_W p l e R s m args below meth c H1 locs1 (cells + 1) (slots + 6) Q (F0 m pc ls (st.map (za_c E))) q9)
    (kk : ∀ (r : Int64) (σ' : za_S), P r σ' → zV p l e R s m args below meth c E A nL (cells + 1) (slots + 6) Q (pc + 3) lv (za_L r :: st) σ') : zV p l e R s m args below meth c E A nL cells slots Q pc lv (as.reverse ++ za_O kd w :: st) σ := by
  intro H locs ls ho hs hP hS hl
  obtain ⟨ho1, ho2⟩ := za_oks hs
  have hpre := za_PreVx G hX hk he hc hP hS ho1
  rw [za_stk hk]
  have hM1 : vx_Met l y (.code y bytes maxL ret :: zWW) (zRx fr lo) (zPx E (za_O kd w :: as) σ) _ (zXC E σ) 1 6 (za_A E) := hM
  refine vx_calll (vx_runV (As := as.map (za_c E)) (rest := st.map (za_c E)) (n := n) ⟨G.1, G.2.1, G.2.2.1, G.2.2.2.1, G.2.2.2.2.1⟩ hM1 (cwV n G.2.2.2.2.1 (za_goodV K hlink) rfl rfl rfl K.2.2.2.2 hR) hpre rfl ((List.length_map ..).trans hn) hl.1 rfl (lv_room (za_cats st hst)) hd hcs) hS (fun q _ h => G.2.2.2.2.2.2.1 q h) G.2.2.2.2.2.2.1 (fun q _ h => G.2.2.2.2.2.2.1 q h) (fun N ce q9 u t H1 locs1 ht _ hu hB _ _ hS1 g1 g2 g3 => ?_) (fun r u t H1 locs1 ht _ hp hB _ _ hS1 => ?_)
  · subst hu
    obtain ⟨rfl, hB⟩ := hB
    exact kx ce q9 H1 locs1 ls ho (by rw [← ht]; exact hB) hS1 hl g1 g2 g3
  · exact kk r u hp H1 locs1 ls ho (za_fm (za_okL r) ho2) (by rw [← ht]; exact hB) hS1 hl
theorem za_cR (E : za_E) (a : Nat) : za_c E (za_O 52 (a + 1)) = .ref a := rfl
theorem za_ok52 (w : Nat) : za_ok (za_O 52 w) := trivial
theorem zv_aldR (G : zC p s m args meth c cc own nL E A) {k9 : Fin 4} {j i a : Nat} (hd : decode cc pc = .ok (.aload_n k9, 1)) (hi : (k9 : Nat) = i) (hq : lv[j]? = some (i, za_O 52 (a + 1))) (k : zV p l e R s m args below meth c E A nL cells slots Q (pc + 1) lv (za_O 52 (a + 1) :: st) σ) : zV p l e R s m args below meth c E A nL cells slots Q pc lv st σ := by
  intro H locs ls ho hs hP hS hl
  have h1 := za_lat hl hq
  rw [za_cR] at h1
  have h2 := k H locs ls ho (za_fm (za_ok52 _) hs) hP hS hl
  rw [List.map_cons, za_cR] at h2
  exact lv_aload_n G.1 G.2.1 hd hi h1 h2
theorem zv_astR_n (G : zC p s m args meth c cc own nL E A) {k9 : Fin 4} {i a : Nat} (hd : decode cc pc = .ok (.astore_n k9, 1)) (hi : (k9 : Nat) = i) (hn : i < nL) (h9 : (i, za_O 52 (a + 1)) :: lv.filter (fun q => !(q.1 == i) && !(q.1 + 1 == i && za_cat q.2 == 2)) = lv') (k : zV p l e R s m args below meth c E A nL cells slots Q (pc + 1) lv' st σ) : zV p l e R s m args below meth c E A nL cells slots Q pc lv (za_O 52 (a + 1) :: st) σ := by
  intro H locs ls ho hs hP hS hl
  have h1 := za_lst (E := E) h9
  rw [za_cR] at h1
  rw [List.map_cons, za_cR]
  exact lv_astore_n G.1 G.2.1 hd hi hl hn h1 (fun ls hl => k H locs ls (za_lok h9 ho (List.forall_mem_cons.mp hs).1) (List.forall_mem_cons.mp hs).2 hP hS hl)
theorem zv_astR (G : zC p s m args meth c cc own nL E A) {i a : Nat} (hd : decode cc pc = .ok (.astore i, 2)) (hn : i < nL) (h9 : (i, za_O 52 (a + 1)) :: lv.filter (fun q => !(q.1 == i) && !(q.1 + 1 == i && za_cat q.2 == 2)) = lv') (k : zV p l e R s m args below meth c E A nL cells slots Q (pc + 2) lv' st σ) : zV p l e R s m args below meth c E A nL cells slots Q pc lv (za_O 52 (a + 1) :: st) σ := by
  intro H locs ls ho hs hP hS hl
  have h1 := za_lst (E := E) h9
  rw [za_cR] at h1
  rw [List.map_cons, za_cR]
  exact lv_astore G.1 G.2.1 hd hl hn h1 (fun ls hl => k H locs ls (za_lok h9 ho (List.forall_mem_cons.mp hs).1) (List.forall_mem_cons.mp hs).2 hP hS hl)
theorem zvy_iret (G : zC p s m args meth c cc own nL E (za_A E)) {P : Int32 → za_S → Prop} {x : Int32} (hr : meth.sig.returnType = some .int) (hd : decode cc pc = .ok (.ireturn, 1)) (hp : P x σ) (hc : cells ≤ 1 ∧ slots ≤ 6) : zV p l e R s m args below meth c E (za_A E) nL cells slots (MQ below (va_Qi P (zB E) (za_A E)) args s 1 6 (za_A E)) pc lv [za_I x] σ := by
  intro H locs ls ho hs hP hS hl
  refine W.widen (k := 1) (n := 6) hc.1 hc.2 ?_
  exact W.iret G.1 G.2.1 hr (fun t ht hW => ⟨⟨x, σ, rfl, hp, by show va_P _ _ _ t.heap; rw [ht]; exact hP⟩, hS.F ht⟩) hS.2.2 hd G.2.2.2.2.2.2.2.2
/-- the law's own static methods, with their tables -/
def zMy (l : Launch) (E : za_E) (y : MethodName) (cc : ByteArray) (maxL : Nat) (hh : List (Nat × Nat × Nat × Nat)) (fr lo : Nat) (as : List za_V) (σ : za_S) (P : Int32 → za_S → Prop) : Prop := Met l y (.codeWith y cc maxL (some .int) hh :: zWW) (zRx fr lo) (zPx E as σ) (va_Qi P (zB E) (za_A E)) 1 6 (za_A E)
theorem zMy_of {y : MethodName} {maxL fr lo : Nat} {hh : List (Nat × Nat × Nat × Nat)} {as : List za_V} {P : Int32 → za_S → Prop} (lv : List (Nat × za_V)) (hy : plainName y.cls = true) (hargs : lv_args 0 (as.map (za_c E)) = lv.map fun q => (q.1, za_c E q.2)) (has : lv.map (fun q => q.2) = as) (hlen : (as.map za_cat).sum ≤ maxL)
    (body : (∀ v ∈ as, za_ok v) → ∀ (p : Program) (e : Env) (s : State) (m : MethodId) (args : Array Value) (below : List Frame) (meth : Method) (c : Code), zC p s m args meth c cc y.cls maxL E (za_A E) → meth.sig.returnType = some .int → zX E s s.heap → c.exceptionTable.toList = tableOf hh → zV p l e (zRx fr lo) s m args below meth c E (za_A E) maxL 0 0 (MQ below (va_Qi P (zB E) (za_A E)) args s 1 6 (za_A E)) 0 lv [] σ) : zMy l E y cc maxL hh fr lo as σ P := by
  refine va_MetW (cc := cc) (maxL := maxL) (ret := some .int) (hh := hh) hy rfl ?_
  intro p e s m args below meth c s₁ B hml hv
  obtain ⟨⟨rfl, hoas, hP, hY⟩, hX⟩ := hv
  have hts := atoms_spec (ws := .codeWith y cc maxL (some .int) hh :: zWW) B.pre
  have hown : s.vm.findClass y.cls = some m.cls := findClass_of_methodNamed B.named
  have htb := vx_table (x := y) B (hts _ List.mem_cons_self)
  rw [lg_entry_eq]
  have hl := lv_entry (as.map (za_c E)) (n := maxL) (by rw [za_lgl]; exact hlen)
  rw [hargs] at hl
  exact body hoas p e s m _ below meth c ⟨B.exec, B.bytes, hml, hown, fun w hw => hts w (List.mem_cons_of_mem _ hw), hY, fun _ h => h, fun _ _ h => h, B.notSynchronized⟩ B.returns hX htb s.heap [] _ (fun q hq => hoas q.2 (by rw [← has]; exact List.mem_map.mpr ⟨q, hq, rfl⟩)) (fun v h => nomatch h) hP va_S.rf hl
theorem za_PreSx (G : zC p s m args meth c cc own nL E A) (hX : zX E s s.heap) {H : Heap} {locs : List Loc} {as : List za_V} (hP : va_P E.2.1 vwCl (za_w E σ) H) (hS : va_S A s.heap H locs) (ho : ∀ v ∈ as, za_ok v) : PreS s H (zPx E as σ) (as.map (za_c E)) := by
  obtain ⟨-, h3⟩ := za_PreS G hP hS ho
  refine ⟨zPx_blind, fun U hU hW => ⟨h3 U hU hW, ?_⟩⟩
  exact zX_warm hW (fun a ha hn => by rw [hU]; exact hS.2.1 a ha (fun q => hn (G.2.2.2.2.2.2.2.1 a ha q))) hX
theorem zvy_callS (G : zC p s m args meth c cc own nL E A) (hX : zX E s s.heap) {idx maxL n fr lo : Nat} {hh : List (Nat × Nat × Nat × Nat)} {y : MethodName} {bytes : ByteArray} {as : List za_V} {P : Int32 → za_S → Prop} (hM : zMy l E y bytes maxL hh fr lo as σ P) (h1 : Cond.static y ∈ zWW) (h2 : Cond.initialized y.cls ∈ zWW) (h3 : Cond.codeWith y bytes maxL (some .int) hh ∈ zWW) (hds : zDsc y n) (hlink : Cond.methodLink own idx y ∈ zWW) (hn : as.length = n) (hR : fr + 1 ≤ R.frames ∧ 8 + (maxL + 11) + lo ≤ R.locals) (hcs : cells + 1 ≤ R.cells ∧ slots + 6 ≤ R.slots) (hst : (st.map za_cat).sum ≤ 8) (hd : decode cc pc = .ok (.invokestatic idx, 3)) (kk : ∀ (r : Int32) (σ' : za_S), P r σ' → zV p l e R s m args below meth c E A nL (cells + 1) (slots + 6) Q (pc + 3) lv (za_I r :: st) σ') : zV p l e R s m args below meth c E A nL cells slots Q pc lv (as.reverse ++ st) σ := by
  intro H locs ls ho hs hP hS hl
  obtain ⟨ho1, ho2⟩ := za_oksS hs
  have hpre := za_PreSx G hX hP hS ho1
  rw [za_stkS]
  have hM1 : Met l y (.codeWith y bytes maxL (some .int) hh :: zWW) (zRx fr lo) (zPx E as σ) _ 1 6 (za_A E) := hM
  have hg : GoodIn zWW (va_wsS own idx y (.codeWith y bytes maxL (some .int) hh :: zWW)) := zGood (fun w hw => by
    simp only [va_wsS, List.mem_append, List.mem_cons, List.not_mem_nil, or_false] at hw
    rcases hw with (rfl | rfl | rfl) | (rfl | hw)
    all_goals first | assumption)
  refine va_calli (vx_runSW (As := as.map (za_c E)) (rest := st.map (za_c E)) (n := n) ⟨G.1, G.2.1, G.2.2.1, G.2.2.2.1, G.2.2.2.2.1⟩ hM1 (vx_cwSW n G.2.2.2.2.1 hg rfl rfl rfl hds hR) hpre rfl ((List.length_map ..).trans hn) hl.1 rfl (lv_room (za_cats st hst)) hd hcs) hS (fun q _ h => G.2.2.2.2.2.2.1 q h) G.2.2.2.2.2.2.1 (fun r u t H1 locs1 ht _ hp hB _ _ hS1 => ?_)
  exact kk r u hp H1 locs1 ls ho (za_fm (za_okI r) ho2) (by rw [← ht]; exact hB) hS1 hl
end ZX
theorem zm_1094x : Cond.codeWith yL_entry cL_entry 6 (some .int) [(0, 12, 15, 13)] ∈ zWW := zmem 1094 (by decide +kernel) rfl
theorem zm_1163x : Cond.codeWith yL_row cL_row 4 (some .int) [(0, 8, 11, 13)] ∈ zWW := zmem 1163 (by decide +kernel) rfl
set_option maxHeartbeats 4000000 in
set_option maxRecDepth 100000 in
theorem zx_X9_entry (l : Launch) (hl : l.stackTraces = false) (E : za_E) (a1 : Int32) (a2 : Int32) (a3 : Int32) (σ : za_S)  : zMxi l E yX9_entry cX9_entry 4 (Option.some Jvm.ClassFile.FieldType.int) 6 81 [za_O 0 0, za_I a1, za_I a2, za_I a3] σ (fun r σ' => σ' = σ) := by
  refine zMxi_of [(0, za_O 0 0), (1, za_I a1), (2, za_I a2), (3, za_I a3)] (by decide) rfl rfl (Nat.le_of_ble_eq_true rfl) ?_
  intro ho p e s m args below meth c G hr hX ht
  refine zv_iload_n (j := 1) G dX9_entry_0 rfl rfl ?_
  refine zv_callSi (as := [za_I a1]) G (zc_X9_isTable l E a1 σ ) zk_X9_isTable zm_438 rfl ⟨(Nat.le_of_ble_eq_true rfl), (Nat.le_of_ble_eq_true rfl)⟩ ⟨Nat.zero_le _, Nat.zero_le _⟩ (Nat.le_of_ble_eq_true rfl) dX9_entry_1 (fun r_1 σ h_1 => ?_)
  obtain ⟨h_1, rfl⟩ := h_1
  refine zv_if_eq (tgt := 31) G dX9_entry_4 (by decide) (fun c_4 => ?_) (fun c_4 => ?_)
  · exact zvx_throw G hl hX ht ⟨(Nat.le_of_ble_eq_true rfl), (Nat.le_of_ble_eq_true rfl), (Nat.le_of_ble_eq_true rfl), (Nat.le_of_ble_eq_true rfl)⟩ dX9_entry_31 dX9_entry_34 dX9_entry_35 dX9_entry_38
  · refine zv_aload_n (j := 0) G dX9_entry_7 rfl rfl ?_
    refine zg_X9_10 G dX9_entry_8 ?_
    refine zv_iload_n (j := 1) G dX9_entry_11 rfl rfl ?_
    refine zv_callVNr (as := [za_I a1]) G (by decide) rfl rfl (zc_X4_table l E 1 a1 σ ) zk_X4_table zm_453 rfl ⟨(Nat.le_of_ble_eq_true rfl), (Nat.le_of_ble_eq_true rfl)⟩ ⟨Nat.zero_le _, Nat.zero_le _⟩ (Nat.le_of_ble_eq_true rfl) dX9_entry_12 (fun r_12 σ h_12 => ?_)
    obtain ⟨w_12, rfl, h_w_12, t_12, rfl⟩ := h_12
    refine zv_iload_n (j := 2) G dX9_entry_15 rfl rfl ?_
    refine zv_callVNi (as := [za_I a2]) G (by decide) rfl rfl (zc_X6_has l E w_12 a2 σ ) zk_X6_has zm_799 rfl ⟨(Nat.le_of_ble_eq_true rfl), (Nat.le_of_ble_eq_true rfl)⟩ ⟨Nat.zero_le _, Nat.zero_le _⟩ (Nat.le_of_ble_eq_true rfl) dX9_entry_16 (fun r_16 σ h_16 => ?_)
    obtain ⟨h_16, rfl⟩ := h_16
    refine zv_if_eq (tgt := 31) G dX9_entry_19 (by decide) (fun c_19 => ?_) (fun c_19 => ?_)
    · exact zvx_throw G hl hX ht ⟨(Nat.le_of_ble_eq_true rfl), (Nat.le_of_ble_eq_true rfl), (Nat.le_of_ble_eq_true rfl), (Nat.le_of_ble_eq_true rfl)⟩ dX9_entry_31 dX9_entry_34 dX9_entry_35 dX9_entry_38
    · refine zv_iload_n (j := 3) G dX9_entry_22 rfl rfl ?_
      refine zv_if_lt (tgt := 31) G dX9_entry_23 (by decide) (fun c_23 => ?_) (fun c_23 => ?_)
      · exact zvx_throw G hl hX ht ⟨(Nat.le_of_ble_eq_true rfl), (Nat.le_of_ble_eq_true rfl), (Nat.le_of_ble_eq_true rfl), (Nat.le_of_ble_eq_true rfl)⟩ dX9_entry_31 dX9_entry_34 dX9_entry_35 dX9_entry_38
      · refine zv_iload_n (j := 3) G dX9_entry_26 rfl rfl ?_
        refine zv_iconst (v := 5) G dX9_entry_27 (by decide) ?_
        refine zv_icmp_lt (tgt := 39) G dX9_entry_28 (by decide) (fun c_28 => ?_) (fun c_28 => ?_)
        · refine zv_aload_n (j := 0) G dX9_entry_39 rfl rfl ?_
          refine zg_X9_10 G dX9_entry_40 ?_
          refine zv_iload_n (j := 1) G dX9_entry_43 rfl rfl ?_
          refine zv_callVNr (as := [za_I a1]) G (by decide) rfl rfl (zc_X4_table l E 1 a1 σ ) zk_X4_table zm_453 rfl ⟨(Nat.le_of_ble_eq_true rfl), (Nat.le_of_ble_eq_true rfl)⟩ ⟨Nat.zero_le _, Nat.zero_le _⟩ (Nat.le_of_ble_eq_true rfl) dX9_entry_44 (fun r_44 σ h_44 => ?_)
          obtain ⟨w_44, rfl, h_w_44, t_44, rfl⟩ := h_44
          refine zv_iload_n (j := 2) G dX9_entry_47 rfl rfl ?_
          refine zv_iload_n (j := 3) G dX9_entry_48 rfl rfl ?_
          refine zv_callVNi (as := [za_I a2, za_I a3]) G (by decide) rfl rfl (zc_X6_cell l E w_44 a2 a3 σ ) zk_X6_cell zm_592 rfl ⟨(Nat.le_of_ble_eq_true rfl), (Nat.le_of_ble_eq_true rfl)⟩ ⟨Nat.zero_le _, Nat.zero_le _⟩ (Nat.le_of_ble_eq_true rfl) dX9_entry_49 (fun r_49 σ h_49 => ?_)
          subst h_49
          exact zvx_iret G hr dX9_entry_52 rfl
        · exact zvx_throw G hl hX ht ⟨(Nat.le_of_ble_eq_true rfl), (Nat.le_of_ble_eq_true rfl), (Nat.le_of_ble_eq_true rfl), (Nat.le_of_ble_eq_true rfl)⟩ dX9_entry_31 dX9_entry_34 dX9_entry_35 dX9_entry_38
set_option maxHeartbeats 4000000 in
set_option maxRecDepth 100000 in
theorem zx_X9_row (l : Launch) (hl : l.stackTraces = false) (E : za_E) (a1 : Int32) (σ : za_S)  : zMxl l E yX9_row cX9_row 2 (Option.some Jvm.ClassFile.FieldType.long) 6 81 [za_O 0 0, za_I a1] σ (fun r σ' => σ' = σ) := by
  refine zMxl_of [(0, za_O 0 0), (1, za_I a1)] (by decide) rfl rfl (Nat.le_of_ble_eq_true rfl) ?_
  intro ho p e s m args below meth c G hr hX ht
  refine zv_iload_n (j := 1) G dX9_row_0 rfl rfl ?_
  refine zv_if_lt (tgt := 15) G dX9_row_1 (by decide) (fun c_1 => ?_) (fun c_1 => ?_)
  · exact zvx_throw G hl hX ht ⟨(Nat.le_of_ble_eq_true rfl), (Nat.le_of_ble_eq_true rfl), (Nat.le_of_ble_eq_true rfl), (Nat.le_of_ble_eq_true rfl)⟩ dX9_row_15 dX9_row_18 dX9_row_19 dX9_row_22
  · refine zv_iload_n (j := 1) G dX9_row_4 rfl rfl ?_
    refine zv_aload_n (j := 0) G dX9_row_5 rfl rfl ?_
    refine zg_X9_40 G dX9_row_6 ?_
    refine zg_X9_386 G dX9_row_9 ?_
    refine zv_icmp_lt (tgt := 23) G dX9_row_12 (by decide) (fun c_12 => ?_) (fun c_12 => ?_)
    · refine zv_aload_n (j := 0) G dX9_row_23 rfl rfl ?_
      refine zg_X9_40 G dX9_row_24 ?_
      refine zv_iload_n (j := 1) G dX9_row_27 rfl rfl ?_
      refine zv_callVNl (as := [za_I a1]) G (by decide) rfl rfl (zc_X8_number l E a1 σ ) zk_X8_number zm_1168 rfl ⟨(Nat.le_of_ble_eq_true rfl), (Nat.le_of_ble_eq_true rfl)⟩ ⟨Nat.zero_le _, Nat.zero_le _⟩ (Nat.le_of_ble_eq_true rfl) dX9_row_28 (fun r_28 σ h_28 => ?_)
      subst h_28
      exact zvx_lret G hr dX9_row_31 rfl
    · exact zvx_throw G hl hX ht ⟨(Nat.le_of_ble_eq_true rfl), (Nat.le_of_ble_eq_true rfl), (Nat.le_of_ble_eq_true rfl), (Nat.le_of_ble_eq_true rfl)⟩ dX9_row_15 dX9_row_18 dX9_row_19 dX9_row_22
/-- but for the law's own long[1], nothing -/
def zol (σ σ' : za_S) : Prop := σ'.1 = σ.1 ∧ ∀ w, w < 193 → σ'.2 w = σ.2 w
set_option maxHeartbeats 4000000 in
set_option maxRecDepth 100000 in
theorem zy_entry (l : Launch) (hl : l.stackTraces = false) (E : za_E) (a1 a2 a3 : Int32) (σ : za_S) : zMy l E yL_entry cL_entry 6 [(0, 12, 15, 13)] 7 104 [za_O 0 0, za_I a1, za_I a2, za_I a3, za_O 29 193] σ (fun _ σ' => zol σ σ') := by
  refine zMy_of [(0, za_O 0 0), (1, za_I a1), (2, za_I a2), (3, za_I a3), (4, za_O 29 193)] (by decide) rfl rfl (Nat.le_of_ble_eq_true rfl) ?_
  intro ho p e s m args below meth c G hr hX ht
  refine zv_aload (j := 4) G dL_entry_0 rfl ?_
  refine zv_iconst (v := 0) G dL_entry_2 (by decide) ?_
  refine zv_aload_n (j := 0) G dL_entry_3 rfl rfl ?_
  refine zv_iload_n (j := 1) G dL_entry_4 rfl rfl ?_
  refine zv_iload_n (j := 2) G dL_entry_5 rfl rfl ?_
  refine zv_iload_n (j := 3) G dL_entry_6 rfl rfl ?_
  refine zvx_callVi (as := [za_I a1, za_I a2, za_I a3]) G hX (by decide) rfl rfl (zx_X9_entry l hl E a1 a2 a3 σ) zk_X9_entry zm_1096 rfl ⟨Nat.le_of_ble_eq_true rfl, Nat.le_of_ble_eq_true rfl⟩ ⟨Nat.le_of_ble_eq_true rfl, Nat.le_of_ble_eq_true rfl⟩ (Nat.le_of_ble_eq_true rfl) dL_entry_7 (fun ce q9 H1 locs1 ls ho1 hP1 hS1 hl1 g1 g2 g3 => ?_) (fun r σ' h => ?_)
  · refine vx_catch (own := RL) (name := zXN) (E := zXN) G.2.2.2.1 [] ⟨0, 12, 15, 13⟩ [] ht (fun z hz => nomatch hz) (by decide) (by decide) (G.2.2.2.2.1 _ zm_1095) (va_Nw.use (zXb_t _ (List.mem_cons_self)) (hX.1 _ (List.mem_cons_self))) g1 g2 g3 ?_
    refine (show zV p l e _ s m args below meth c E (za_A E) 6 (0 + 1) (0 + 6) _ 15 [(0, za_O 0 0), (1, za_I a1), (2, za_I a2), (3, za_I a3), (4, za_O 29 193)] [za_O 52 (q9 + 1)] σ from ?_) H1 locs1 ls ho1 (za_fm (za_ok52 _) (fun v h => nomatch h)) hP1 hS1 hl1
    refine zv_astR G dL_entry_15 (by decide) rfl ?_
    refine zv_iconst (v := 1) G dL_entry_17 (by decide) ?_
    exact zvy_iret G hr dL_entry_18 ⟨rfl, fun _ _ => rfl⟩ (by decide)
  · subst h
    refine zv_i2l G dL_entry_10 ?_
    refine zv_last (n := 1) G (by decide) rfl (fun _ => rfl) (z_in (by decide) (by decide)) dL_entry_11 ?_
    refine zv_goto (tgt := 19) G dL_entry_12 (by decide) ?_
    refine zv_iconst (v := 0) G dL_entry_19 (by decide) ?_
    exact zvy_iret G hr dL_entry_20 ⟨rfl, fun w hw => if_neg (by omega)⟩ (by decide)
set_option maxHeartbeats 4000000 in
set_option maxRecDepth 100000 in
theorem zy_row (l : Launch) (hl : l.stackTraces = false) (E : za_E) (a1 : Int32) (σ : za_S) : zMy l E yL_row cL_row 4 [(0, 8, 11, 13)] 7 102 [za_O 0 0, za_I a1, za_O 29 193] σ (fun _ σ' => zol σ σ') := by
  refine zMy_of [(0, za_O 0 0), (1, za_I a1), (2, za_O 29 193)] (by decide) rfl rfl (Nat.le_of_ble_eq_true rfl) ?_
  intro ho p e s m args below meth c G hr hX ht
  refine zv_aload_n (j := 2) G dL_row_0 rfl rfl ?_
  refine zv_iconst (v := 0) G dL_row_1 (by decide) ?_
  refine zv_aload_n (j := 0) G dL_row_2 rfl rfl ?_
  refine zv_iload_n (j := 1) G dL_row_3 rfl rfl ?_
  refine zvx_callVl (as := [za_I a1]) G hX (by decide) rfl rfl (zx_X9_row l hl E a1 σ) zk_X9_row zm_1164 rfl ⟨Nat.le_of_ble_eq_true rfl, Nat.le_of_ble_eq_true rfl⟩ ⟨Nat.le_of_ble_eq_true rfl, Nat.le_of_ble_eq_true rfl⟩ (Nat.le_of_ble_eq_true rfl) dL_row_4 (fun ce q9 H1 locs1 ls ho1 hP1 hS1 hl1 g1 g2 g3 => ?_) (fun r σ' h => ?_)
  · refine vx_catch (own := RL) (name := zXN) (E := zXN) G.2.2.2.1 [] ⟨0, 8, 11, 13⟩ [] ht (fun z hz => nomatch hz) (by decide) (by decide) (G.2.2.2.2.1 _ zm_1095) (va_Nw.use (zXb_t _ (List.mem_cons_self)) (hX.1 _ (List.mem_cons_self))) g1 g2 g3 ?_
    refine (show zV p l e _ s m args below meth c E (za_A E) 4 (0 + 1) (0 + 6) _ 11 [(0, za_O 0 0), (1, za_I a1), (2, za_O 29 193)] [za_O 52 (q9 + 1)] σ from ?_) H1 locs1 ls ho1 (za_fm (za_ok52 _) (fun v h => nomatch h)) hP1 hS1 hl1
    refine zv_astR_n G dL_row_11 rfl (by decide) rfl ?_
    refine zv_iconst (v := 1) G dL_row_12 (by decide) ?_
    exact zvy_iret G hr dL_row_13 ⟨rfl, fun _ _ => rfl⟩ (by decide)
  · subst h
    refine zv_last (n := 1) G (by decide) rfl (fun _ => rfl) (z_in (by decide) (by decide)) dL_row_7 ?_
    refine zv_goto (tgt := 14) G dL_row_8 (by decide) ?_
    refine zv_iconst (v := 0) G dL_row_14 (by decide) ?_
    exact zvy_iret G hr dL_row_15 ⟨rfl, fun w hw => if_neg (by omega)⟩ (by decide)
