/-! THE CLAIM OUT OF ONE WALK OF THE LAW'S BODY. Your part is whole_start (and what it stands on); all else here is the same for every law, but numbers. -/
def R_law : String := "PeriodTablesLaw"
def lw_P (b : Addr) (xs : List Int32) (args : Array Value) (s : State) : Prop := args = #[.ref b] ∧ s.IntsAt b xs ∧ xs.length ≤ 3072 ∧ (Jvm.Cond.and given_1 narrow_1).before args s = true
def lw_Q (_ : Array Value) (s : State) (o : Outcome) (t : State) : Prop := o = .returned (some (.int 1)) ∧ Framed s o t [] 601024 7293034
def lw_Z (below : List Frame) (a : Array Value) (s : State) : State → Prop := fun t => ∃ o, t.status = .running ∧ Ended t below o ∧ lw_Q a s o t
/-- the law's own end, with 1 on the stack, nothing written that was there before, its room as the claim has it -/
theorem lw_ret {p : Program} {l : Launch} {e : Env} {s : State} {m : MethodId} {below : List Frame} {meth : Method} {c : Code} {b : Nat} (hx : p.tables.exec = Jvm.exec) (hb : c.code = code) (hr : meth.sig.returnType = ret) (hlocks : meth.locks = false) {pc : Nat} {H : Heap} {ls : Array Slot} (hdg : decode code pc = .ok (.ireturn, 1)) : W p l e room_1 s m #[Value.ref b] below meth c H [] 601024 7293034 (lw_Z below #[Value.ref b] s) (F0 m pc ls [.int 1]) := by
  intro T hT X
  obtain ⟨fs, hret, hrun, hended, hW, hframe⟩ := X.leave (v := some (.int 1)) (hlocks := hlocks) (fun h => by rw [hr] at h; cases h)
  have hmeth' : T.vm.method? m = some meth := X.method'
  refine ⟨T.setFrames fs, ?_, .returned (some (.int 1)), hrun, hended, rfl, ⟨_, rfl⟩, hW, hframe⟩
  jvm_step X.here [X.here.top, hx, hb, hdg, hmeth', hr, ret, narrow_b1]
  (try refine ⟨rfl, ?_⟩); (try refine ⟨rfl, ?_⟩)
  first | (intro acts; rw [hret _ acts rfl rfl rfl]) | rw [hret _ _ rfl rfl rfl]
  exact Steps.refl _
/-- what holds at the law's entry: the machine, the code, the tables' words (any of lw_tbl by 'hts w (by decide +kernel)'), the script of L ints xs at the cell b, what the Statement gives of the start (any of its parts by flat_of_before) -/
def lw_At (p : Program) (s : State) (m : MethodId) (meth : Method) (c : Code) (b L : Nat) (xs : Nat → Int32) : Prop :=
  p.tables.exec = Jvm.exec ∧ c.code = code ∧ meth.sig.returnType = ret ∧ c.maxLocals = 8 ∧ s.vm.findClass R_law = some m.cls ∧ (∀ w ∈ lw_tbl, w.before #[Value.ref b] s = true) ∧ va_X b L xs s s.heap ∧ b < s.heap.size ∧ meth.locks = false ∧ (Jvm.Cond.and given_1 narrow_1).before #[Value.ref b] s = true
def z0 : za_S := (fun _ _ => 0, fun _ _ => 0)
theorem fb_ct_0 (p : Nat → Bool) (h : ∀ k, p k = false) : ∀ n, fb_ct p n = 0
  | 0 => rfl
  | n + 1 => by rw [fb_ct_succ, fb_ct_0 p h n, h n]; rfl
theorem zG_0 : zG (fun _ => 0) := by
  refine ⟨fun i _ => (by decide : 0 ≤ (0 : Int32).toInt ∧ (0 : Int32).toInt ≤ 2200), fun i _ h => absurd h (by decide : ¬ (0 < (0 : Int32).toInt)), ?_, ?_⟩
  · unfold zcn
    rw [fb_ct_0 (zp (fun _ => 0) 0) (fun k => (by decide +kernel : zbB (0 : Int32) = false))]
    decide
  · unfold zcn
    rw [fb_ct_0 (zp (fun _ => 0) 1) (fun k => (by decide +kernel : zbB (0 : Int32) = false))]
    decide
theorem zI_0 : zI z0 := ⟨⟨⟨by decide, by decide⟩, fun _ _ => (by decide : 0 ≤ (0 : Int32).toInt ∧ (0 : Int32).toInt ≤ 19), by decide, by decide, by decide, by decide, zG_0, fun _ _ => zG_0, fun _ _ => zG_0⟩, rfl, rfl, rfl, rfl⟩
theorem zwf_w (E : za_E) : zwf E 0 194 (zfn E) = za_w E z0 := by
  unfold zwf za_w
  apply List.map_congr_left
  intro j _
  rw [Nat.zero_add]
  rfl
def zFl : List Cond := flatC (Jvm.Cond.and given_1 narrow_1)
def zTm (i : Nat) : Term := match za_str.find? (fun q => q.2.2.2 == i) with
  | some q => .string q.1 q.2.1
  | none => .string "" 0
theorem zsv_ao : Cond.arrayOver (.object "PeriodTables$State") ∈ lw_tbl := by decide +kernel
theorem zsv_aa : Cond.arrayOver (.array .int) ∈ lw_tbl := by decide +kernel
theorem zsv_x : ∀ i, i < 19 → Cond.exactly (zTm i) "java/lang/String" ∈ zFl := by decide +kernel
theorem zsv_c : ∀ i, i < 19 → Cond.eq (.field (zTm i) "java/lang/String" "coder" "B") (.int 0) ∈ zFl := by decide +kernel
theorem zsv_a : ∀ i, i < 19 → Cond.arrayOf (.field (zTm i) "java/lang/String" "value" "[B") .byte ∈ zFl := by decide +kernel
theorem zsv_l : ∀ i, i < 19 → Cond.eq (.length (.field (zTm i) "java/lang/String" "value" "[B")) (.int (Int32.ofNat (za_len.getD i 0))) ∈ zFl := by decide +kernel
theorem zsv_e : ∀ i, i < 19 → ∀ j, j < za_len.getD i 0 → Cond.eq (.elem (.field (zTm i) "java/lang/String" "value" "[B") (.int (Int32.ofNat j))) (.int ((za_byt.getD i []).getD j 0)) ∈ zFl := by decide +kernel
def zNo0 : List (Nat × Nat × Nat) := [(0, 1, 45), (0, 2, 56), (1, 2, 57), (0, 3, 63), (1, 3, 64), (2, 3, 65), (0, 4, 71), (1, 4, 72), (2, 4, 73), (3, 4, 74), (0, 5, 79), (1, 5, 80), (2, 5, 81), (3, 5, 82), (4, 5, 83), (0, 6, 95), (1, 6, 96), (2, 6, 97), (3, 6, 98)]
theorem zno0 : ∀ q ∈ zNo0, zFl[q.2.2]? = some (Cond.not (Cond.eq (zTm q.1) (zTm q.2.1))) := by decide +kernel
def zNo1 : List (Nat × Nat × Nat) := [(4, 6, 99), (5, 6, 100), (0, 7, 111), (1, 7, 112), (2, 7, 113), (3, 7, 114), (4, 7, 115), (5, 7, 116), (6, 7, 117), (0, 8, 127), (1, 8, 128), (2, 8, 129), (3, 8, 130), (4, 8, 131), (5, 8, 132), (6, 8, 133), (7, 8, 134), (0, 9, 143), (1, 9, 144)]
theorem zno1 : ∀ q ∈ zNo1, zFl[q.2.2]? = some (Cond.not (Cond.eq (zTm q.1) (zTm q.2.1))) := by decide +kernel
def zNo2 : List (Nat × Nat × Nat) := [(2, 9, 145), (3, 9, 146), (4, 9, 147), (5, 9, 148), (6, 9, 149), (7, 9, 150), (8, 9, 151), (0, 10, 160), (1, 10, 161), (2, 10, 162), (3, 10, 163), (4, 10, 164), (5, 10, 165), (6, 10, 166), (7, 10, 167), (8, 10, 168), (9, 10, 169), (0, 11, 175), (1, 11, 176)]
theorem zno2 : ∀ q ∈ zNo2, zFl[q.2.2]? = some (Cond.not (Cond.eq (zTm q.1) (zTm q.2.1))) := by decide +kernel
def zNo3 : List (Nat × Nat × Nat) := [(2, 11, 177), (3, 11, 178), (4, 11, 179), (5, 11, 180), (6, 11, 181), (7, 11, 182), (8, 11, 183), (9, 11, 184), (10, 11, 185), (0, 12, 191), (1, 12, 192), (2, 12, 193), (3, 12, 194), (4, 12, 195), (5, 12, 196), (6, 12, 197), (7, 12, 198), (8, 12, 199), (9, 12, 200)]
theorem zno3 : ∀ q ∈ zNo3, zFl[q.2.2]? = some (Cond.not (Cond.eq (zTm q.1) (zTm q.2.1))) := by decide +kernel
def zNo4 : List (Nat × Nat × Nat) := [(10, 12, 201), (11, 12, 202), (0, 13, 209), (1, 13, 210), (2, 13, 211), (3, 13, 212), (4, 13, 213), (5, 13, 214), (6, 13, 215), (7, 13, 216), (8, 13, 217), (9, 13, 218), (10, 13, 219), (11, 13, 220), (12, 13, 221), (0, 14, 229), (1, 14, 230), (2, 14, 231), (3, 14, 232)]
theorem zno4 : ∀ q ∈ zNo4, zFl[q.2.2]? = some (Cond.not (Cond.eq (zTm q.1) (zTm q.2.1))) := by decide +kernel
def zNo5 : List (Nat × Nat × Nat) := [(4, 14, 233), (5, 14, 234), (6, 14, 235), (7, 14, 236), (8, 14, 237), (9, 14, 238), (10, 14, 239), (11, 14, 240), (12, 14, 241), (13, 14, 242), (0, 15, 254), (1, 15, 255), (2, 15, 256), (3, 15, 257), (4, 15, 258), (5, 15, 259), (6, 15, 260), (7, 15, 261), (8, 15, 262)]
theorem zno5 : ∀ q ∈ zNo5, zFl[q.2.2]? = some (Cond.not (Cond.eq (zTm q.1) (zTm q.2.1))) := by decide +kernel
def zNo6 : List (Nat × Nat × Nat) := [(9, 15, 263), (10, 15, 264), (11, 15, 265), (12, 15, 266), (13, 15, 267), (14, 15, 268), (0, 16, 276), (1, 16, 277), (2, 16, 278), (3, 16, 279), (4, 16, 280), (5, 16, 281), (6, 16, 282), (7, 16, 283), (8, 16, 284), (9, 16, 285), (10, 16, 286), (11, 16, 287), (12, 16, 288)]
theorem zno6 : ∀ q ∈ zNo6, zFl[q.2.2]? = some (Cond.not (Cond.eq (zTm q.1) (zTm q.2.1))) := by decide +kernel
def zNo7 : List (Nat × Nat × Nat) := [(13, 16, 289), (14, 16, 290), (15, 16, 291), (0, 17, 298), (1, 17, 299), (2, 17, 300), (3, 17, 301), (4, 17, 302), (5, 17, 303), (6, 17, 304), (7, 17, 305), (8, 17, 306), (9, 17, 307), (10, 17, 308), (11, 17, 309), (12, 17, 310), (13, 17, 311), (14, 17, 312), (15, 17, 313)]
theorem zno7 : ∀ q ∈ zNo7, zFl[q.2.2]? = some (Cond.not (Cond.eq (zTm q.1) (zTm q.2.1))) := by decide +kernel
def zNo8 : List (Nat × Nat × Nat) := [(16, 17, 314), (0, 18, 321), (1, 18, 322), (2, 18, 323), (3, 18, 324), (4, 18, 325), (5, 18, 326), (6, 18, 327), (7, 18, 328), (8, 18, 329), (9, 18, 330), (10, 18, 331), (11, 18, 332), (12, 18, 333), (13, 18, 334), (14, 18, 335), (15, 18, 336), (16, 18, 337), (17, 18, 338)]
theorem zno8 : ∀ q ∈ zNo8, zFl[q.2.2]? = some (Cond.not (Cond.eq (zTm q.1) (zTm q.2.1))) := by decide +kernel
def zNo : List (Nat × Nat × Nat) := zNo0 ++ (zNo1 ++ (zNo2 ++ (zNo3 ++ (zNo4 ++ (zNo5 ++ (zNo6 ++ (zNo7 ++ (zNo8))))))))
theorem zno : ∀ q ∈ zNo, zFl[q.2.2]? = some (Cond.not (Cond.eq (zTm q.1) (zTm q.2.1))) := List.forall_mem_append.mpr ⟨zno0, List.forall_mem_append.mpr ⟨zno1, List.forall_mem_append.mpr ⟨zno2, List.forall_mem_append.mpr ⟨zno3, List.forall_mem_append.mpr ⟨zno4, List.forall_mem_append.mpr ⟨zno5, List.forall_mem_append.mpr ⟨zno6, List.forall_mem_append.mpr ⟨zno7, zno8⟩⟩⟩⟩⟩⟩⟩⟩
theorem zsv_n (i : Nat) (hi : i < 19) (j : Nat) (hj : j < 19) (h : i ≠ j) : Cond.not (Cond.eq (zTm i) (zTm j)) ∈ zFl ∨ Cond.not (Cond.eq (zTm j) (zTm i)) ∈ zFl := by
  have h9 := (by decide +kernel : ∀ i, i < 19 → ∀ j, j < 19 → i ≠ j → (zNo.any (fun q => q.1 == i && q.2.1 == j) = true ∨ zNo.any (fun q => q.1 == j && q.2.1 == i) = true)) i hi j hj h
  rcases h9 with h9 | h9
  · obtain ⟨q, hq, h8⟩ := List.any_eq_true.mp h9
    simp only [Bool.and_eq_true, beq_iff_eq] at h8
    have h7 := List.mem_of_getElem? (zno q hq)
    rw [h8.1, h8.2] at h7
    exact Or.inl h7
  · obtain ⟨q, hq, h8⟩ := List.any_eq_true.mp h9
    simp only [Bool.and_eq_true, beq_iff_eq] at h8
    have h7 := List.mem_of_getElem? (zno q hq)
    rw [h8.1, h8.2] at h7
    exact Or.inr h7
theorem zsv_str : ∀ q ∈ za_str, Cond.stringRef q.1 q.2.1 q.2.2.1 ∈ lw_tbl ∧ zTm q.2.2.2 = Term.string q.1 q.2.1 ∧ q.2.2.2 < 19 := by decide +kernel
theorem zsv_cl : Cond.laysStatic "java/lang/String" "COMPACT_STRINGS" "Z" ∈ lw_tbl := by decide +kernel
theorem zsv_ci : Cond.initialized "java/lang/String" ∈ lw_tbl := by decide +kernel
theorem zsv_cv : Cond.eq (.static "java/lang/String" "COMPACT_STRINGS" "Z") (.int 1) ∈ zFl := by decide +kernel
theorem zsv_fl : Cond.laysStatic "jdk/internal/util/Preconditions" "SIOOBE_FORMATTER" "Ljava/util/function/BiFunction;" ∈ lw_tbl := by decide +kernel
theorem zsv_fi : Cond.initialized "jdk/internal/util/Preconditions" ∈ lw_tbl := by decide +kernel
theorem zsv_fv : Cond.isRef (.static "jdk/internal/util/Preconditions" "SIOOBE_FORMATTER" "Ljava/util/function/BiFunction;") ∈ zFl := by decide +kernel
theorem zsv_xb : ∀ w ∈ zXb, w ∈ lw_tbl := by decide +kernel
theorem zsv_ti : Cond.initialized Bundle.tN ∈ lw_tbl := by decide +kernel
theorem zsv_ul : Cond.laysStatic Bundle.tN "UNASSIGNED_STACK" Bundle.steD ∈ lw_tbl := by decide +kernel
theorem zsv_uv : Cond.isRef (.static Bundle.tN "UNASSIGNED_STACK" Bundle.steD) ∈ zFl := by decide +kernel
theorem zsv_sl : Cond.laysStatic Bundle.tN "SUPPRESSED_SENTINEL" Bundle.listD ∈ lw_tbl := by decide +kernel
theorem zsv_sv : Cond.isRef (.static Bundle.tN "SUPPRESSED_SENTINEL" Bundle.listD) ∈ zFl := by decide +kernel
section ZS
variable {p : Program} {l : Launch} {e : Env} {s : State} {m : MethodId} {args : Array Value} {below : List Frame} {meth : Method} {c : Code} {cells slots : Nat} {Q : State → Prop} {R : Room}
variable {E : za_E} {A : Nat → Prop} {nL pc : Nat} {σ : za_S} {b : Nat} {lv : List (Nat × Value)} {lw : List (Nat × za_V)}
theorem zn_zv {lvz : List (Nat × za_V)} (h1 : lv = lvz.map fun q => (q.1, za_c E q.2)) (h2 : ∀ q ∈ lvz, za_ok q.2) (k : zV p l e R s m args below meth c E A nL cells slots Q pc lvz [] z0) : zN p l e R s m args below meth c E A nL cells slots Q pc lv [] 0 194 (zfn E) := by
  intro H locs ls hP hS hl
  subst h1
  rw [zwf_w] at hP
  exact k H locs ls h2 (fun v h => nomatch h) hP hS hl
theorem zv_end (G : zC p s m #[Value.ref b] meth c cL_law RL nL E A) (hr : meth.sig.returnType = ret) (hA : ∀ q, A q → s.heap.size ≤ q) (hcs : cells ≤ 601024 ∧ slots ≤ 7293034) (hd : decode cL_law pc = .ok (.ireturn, 1)) : zV p l e room_1 s m #[Value.ref b] below meth c E A nL cells slots (lw_Z below #[Value.ref b] s) pc lw [za_I 1] σ := by
  intro H locs ls ho hs hP hS hl
  refine W.widen hcs.1 hcs.2 ?_
  refine va_forget (fun q hq => hA _ (hS.2.2 q hq)) ?_
  exact lw_ret G.1 G.2.1 hr G.2.2.2.2.2.2.2.2 hd
end ZS
set_option maxHeartbeats 4000000 in
set_option maxRecDepth 100000 in
theorem zs_env {s : State} {b : Nat} (hts : ∀ w ∈ lw_tbl, w.before #[Value.ref b] s = true) (hgv : (Jvm.Cond.and given_1 narrow_1).before #[Value.ref b] s = true) : ∃ E : za_E, E.1 = s.heap.size ∧ za_Y E s s.heap ∧ zNE E s ∧ zX E s s.heap := by
  have hz : ∀ w ∈ zWW, w.before #[Value.ref b] s = true := fun w h => hts w (zWW_in h)
  have hq : ∀ w ∈ zFl, w.before #[Value.ref b] s = true := flat_of_before _ hgv
  obtain ⟨c0, i0, K0⟩ := u_known (T := TX0) (N := 5) (n := 5) hz zin_0 (hz _ zm_314)
  obtain ⟨c1, i1, K1⟩ := u_known (T := TX1) (N := 1) (n := 1) hz zin_1 (hz _ zm_268)
  obtain ⟨c2, i2, K2⟩ := u_known (T := TX2) (N := 3) (n := 3) hz zin_2 (hz _ zm_203)
  obtain ⟨c3, i3, K3⟩ := u_known (T := TX3) (N := 2) (n := 2) hz zin_3 (hz _ zm_254)
  obtain ⟨c4, i4, K4⟩ := u_known (T := TX4) (N := 4) (n := 4) hz zin_4 (hz _ zm_164)
  obtain ⟨c5, i5, K5⟩ := u_known (T := TX5) (N := 8) (n := 8) hz zin_5 (hz _ zm_278)
  obtain ⟨c6, i6, K6⟩ := u_known (T := TX6) (N := 2) (n := 2) hz zin_6 (hz _ zm_170)
  obtain ⟨c7, i7, K7⟩ := u_known (T := TX7) (N := 2) (n := 2) hz zin_7 (hz _ zm_223)
  obtain ⟨c8, i8, K8⟩ := u_known (T := TX8) (N := 2) (n := 2) hz zin_8 (hz _ zm_239)
  obtain ⟨c9, i9, K9⟩ := u_known (T := TX9) (N := 12) (n := 12) hz zin_9 (hz _ zm_156)
  obtain ⟨c10, i10, K10⟩ := u_known (T := TX10) (N := 36) (n := 36) hz zin_10 (hz _ zm_1184)
  obtain ⟨cI, kI, mI, I1, I2, I3⟩ := Cond.arrayClass_spec (hz _ zm_185)
  obtain ⟨cC, kC, mC, C1, C2, C3⟩ := Cond.arrayClass_spec (hz _ zm_237)
  obtain ⟨cL, kL, mL, L1, L2, L3⟩ := Cond.arrayClass_spec (hz _ zm_252)
  obtain ⟨cZ, kZ, mZ, Z1, Z2, Z3⟩ := Cond.arrayClass_spec (hz _ zm_1300)
  have hAO : va_AO "PeriodTables$State" s := va_AO.of (hts _ zsv_ao)
  have hAA : zAA s := zAA.of (hts _ zsv_aa)
  obtain ⟨mQ, cQ, kQ, Q1, -, Q3, Q4, Q5⟩ := Cond.arrayOver_spec hAO
  obtain ⟨mR, cR, kR, R1, -, R3, R4, R5⟩ := arrayOverA_spec hAA
  have hA : ∀ a : Nat, a < s.heap.size → ¬ (s.heap.size ≤ a ∧ a < s.heap.size + 194) := fun a h1 h2 => by omega
  obtain ⟨adK, adV, hS, hE⟩ := vk_Sof (args := #[Value.ref b]) (s := s) (N := 19) (tm := zTm) (len := za_len) (byt := za_byt) (A := fun q => s.heap.size ≤ q ∧ q < s.heap.size + 194) (by decide) (fun i hi => hq _ (zsv_x i hi)) (fun i hi => hq _ (zsv_c i hi)) (fun i hi => hq _ (zsv_a i hi)) (fun i hi => hq _ (zsv_l i hi)) (fun i hi j hj => hq _ (zsv_e i hi j hj)) (fun i j hi hj h => (zsv_n i hi j hj h).imp (hq _) (hq _)) hA
  have hK : va_K (fun k => [c0, c1, c2, c3, c4, c5, c6, c7, c8, c9, c10].getD k c0, fun k => [i0, i1, i2, i3, i4, i5, i6, i7, i8, i9, i10].getD k i0) vwCl [(cI, .int), (cC, .char), (cL, .long), (cZ, .boolean), (cQ, .object "PeriodTables$State"), (cR, .array .int)] s := by
    refine ⟨fun k q hk => ?_, fun k q hk => ?_⟩
    · match k, hk with
      | 0, h => cases h; exact K0
      | 1, h => cases h; exact K1
      | 2, h => cases h; exact K2
      | 3, h => cases h; exact K3
      | 4, h => cases h; exact K4
      | 5, h => cases h; exact K5
      | 6, h => cases h; exact K6
      | 7, h => cases h; exact K7
      | 8, h => cases h; exact K8
      | 9, h => cases h; exact K9
      | 10, h => cases h; exact K10
      | _ + 11, h => cases h
    · match k, hk with
      | 0, h => cases h; exact ⟨fun N z => ⟨(fun q hq => by cases hq), kI, I2, mI, I3⟩, I1⟩
      | 1, h => cases h; exact ⟨fun N z => ⟨(fun q hq => by cases hq), kC, C2, mC, C3⟩, C1⟩
      | 2, h => cases h; exact ⟨fun N z => ⟨(fun q hq => by cases hq), kL, L2, mL, L3⟩, L1⟩
      | 3, h => cases h; exact ⟨fun N z => ⟨(fun q hq => by cases hq), kZ, Z2, mZ, Z3⟩, Z1⟩
      | 4, h => cases h; exact ⟨fun N z => ⟨(fun q hq => by cases hq), kQ, Q3, mQ, Q4⟩, kQ, mQ, Q3, Q4, Q1, Q5⟩
      | 5, h => cases h; exact ⟨fun N z => ⟨(fun q hq => by cases hq), kR, R3, mR, R4⟩, R5⟩
      | _ + 6, h => cases h
  have hN : ∀ w ∈ zNN, va_Nw w s := fun w hw => by
    have h9 := (List.mem_filter.mp hw).2
    have h8 := hts w (List.mem_filter.mp hw).1
    cases w <;> first | exact va_Nw.of rfl h8 | cases h9
  refine ⟨(s.heap.size, (fun k => [c0, c1, c2, c3, c4, c5, c6, c7, c8, c9, c10].getD k c0, fun k => [i0, i1, i2, i3, i4, i5, i6, i7, i8, i9, i10].getD k i0), fun j => [cI, cC, cL, cZ, cQ, cR].getD j cI, adK, adV), rfl, ⟨hK, hN, hS, ?_, va_Zof (hts _ zsv_cl) (hts _ zsv_ci) (va_eqi (hq _ zsv_cv)) hA, ?_⟩, ⟨hK, hN, hAO, hAA⟩, fun w hw => va_Nw.of (zXb_t w hw) (hts w (zsv_xb w hw)), vx_Zqof (hts _ zsv_ul) (hts _ zsv_ti) (hq _ zsv_uv) hA, vx_Zqof (hts _ zsv_sl) (hts _ zsv_ti) (hq _ zsv_sv) hA⟩
  · intro q h
    obtain ⟨h1, h2, h3⟩ := zsv_str q h
    have h4 := hE q.2.2.2 h3
    rw [h2] at h4
    exact vk_R.of (hts _ h1) h4
  · rcases va_Zqof (hts _ zsv_fl) (hts _ zsv_fi) (hq _ zsv_fv) hA with h | ⟨t, h⟩
    · exact ⟨0, h⟩
    · exact ⟨t + 1, h⟩
set_option maxHeartbeats 4000000 in
set_option maxRecDepth 100000 in
theorem whole_start {p : Program} {e : Env} {s : State} {m : MethodId} {below : List Frame} {meth : Method} {c : Code} (l : Launch) (hl : l.stackTraces = false) {b L : Nat} {xs : Nat → Int32} (hL : L ≤ 3072) (C0 : lw_At p s m meth c b L xs) : W p l e room_1 s m #[Value.ref b] below meth c s.heap [] 0 0 (lw_Z below #[Value.ref b] s) (entryFrame m ([Value.ref b] : List Value).toArray 8) := by
  obtain ⟨hx, hb, hr, hml, hown, hts, hX9, hbl, hlocks, hgv⟩ := C0
  obtain ⟨E, hE1, hY, hNE, hX⟩ := zs_env hts hgv
  have hz : ∀ w ∈ zWW, w.before #[Value.ref b] s = true := fun w h => hts w (zWW_in h)
  have GH : zH p s m #[Value.ref b] meth c cL_law RL 8 E (fun q => E.1 + 0 ≤ q) 0 := ⟨hx, hb, hml, hown, hz, hNE, fun _ h => h, hlocks, by omega⟩
  have GC : zC p s m #[Value.ref b] meth c cL_law RL 8 E (fun q => E.1 + 0 ≤ q) := ⟨hx, hb, hml, hown, hz, hY, fun q h => h.1, fun q h1 h2 => absurd (show E.1 + 0 ≤ q from h2) (by omega), hlocks⟩
  have hbA : ¬ (fun q => E.1 + 0 ≤ q) b := fun h => absurd (show E.1 + 0 ≤ b from h) (by omega)
  have kx : ∀ (k : Nat) (i : Int32) (σ : za_S), k ≤ 512 → zV p l e room_1 s m #[Value.ref b] below meth c E (fun q => E.1 + 0 ≤ q) 8 (194 + k) (37190 + 6 * k) (lw_Z below #[Value.ref b] s) 1778 [(4, za_I i), (3, za_O 29 193), (2, za_O 19 93), (1, za_O 0 0), (0, za_O 52 (b + 1))] [] σ := fun k i σ hk => by
    refine zv_iconst (v := 1) GC dL_law_1778 (by decide) ?_
    exact zv_end GC hr (fun q h => by have h9 : E.1 + 0 ≤ q := h; omega) ⟨by omega, by omega⟩ dL_law_1779
  have key : zN p l e room_1 s m #[Value.ref b] below meth c E (fun q => E.1 + 0 ≤ q) 8 0 0 (lw_Z below #[Value.ref b] s) 0 [(0, .ref b)] [] 0 0 (zfn E) := by
    refine zn_sub (C := RX9) (T := TX9) (N := 12) (ci := 9) (ik := 8) (ic := 19) (y := yX9_init) (bytes := cX9_init) (maxL := 1) (k9 := 92) (sl := 4108) (fr := 4) (lo := 73) GH tyX9 tyX9_ok zin_9 rfl zdf_9 zm_155 zkn_9 (zn_X9 l E) zm_157 (fun _ _ => rfl) (by omega) ⟨(Nat.le_of_ble_eq_true rfl), (Nat.le_of_ble_eq_true rfl)⟩ (Nat.le_of_ble_eq_true rfl) (Nat.le_of_ble_eq_true rfl) (Nat.le_of_ble_eq_true rfl) dL_law_0 dL_law_3 dL_law_4 ?_
    refine zn_cast (cells' := 93) (slots' := 4120) (n' := 93) (pc' := 7) rfl rfl rfl rfl ?_
    refine zn_astore_n GH dL_law_7 rfl (by decide) rfl ?_
    refine zn_sub (C := RX10) (T := TX10) (N := 36) (ci := 10) (ik := 20) (ic := 22) (y := yX10_init) (bytes := cX10_init) (maxL := 1) (k9 := 99) (sl := 33033) (fr := 1) (lo := 12) GH tyX10 tyX10_ok zin_10 rfl zdf_10 zm_1183 zkn_10 (zn_X10 l E) zm_1185 (fun _ _ => rfl) (by omega) ⟨(Nat.le_of_ble_eq_true rfl), (Nat.le_of_ble_eq_true rfl)⟩ (Nat.le_of_ble_eq_true rfl) (Nat.le_of_ble_eq_true rfl) (Nat.le_of_ble_eq_true rfl) dL_law_8 dL_law_11 dL_law_12 ?_
    refine zn_cast (cells' := 193) (slots' := 37189) (n' := 193) (pc' := 15) rfl rfl rfl rfl ?_
    refine zn_astore_n GH dL_law_15 rfl (by decide) rfl ?_
    refine zn_iconst (v := 1) GH dL_law_16 (by decide) ?_
    refine zn_newa (atype := .long) (ty := .long) (t0 := 2) (a0 := (1, .inr (.inl (fun _ => 0)))) (N' := 1) GH rfl zm_252 rfl (fun _ _ h => h) (zfn_29 (by decide +kernel : za_kd (0 + 193) = 29)) (fun _ => rfl) (by decide) (by decide) (by decide) (by omega) (Nat.le_of_ble_eq_true rfl) (Nat.le_of_ble_eq_true rfl) dL_law_17 ?_
    refine zn_cast (cells' := 194) (slots' := 37190) (n' := 194) (pc' := 19) rfl rfl rfl rfl ?_
    refine zn_astore_n GH dL_law_19 rfl (by decide) rfl ?_
    refine zn_zv (lvz := [(3, za_O 29 193), (2, za_O 19 93), (1, za_O 0 0), (0, za_O 52 (b + 1))]) rfl (List.forall_mem_cons.mpr ⟨za_okM (by decide) (by decide +kernel), List.forall_mem_cons.mpr ⟨za_okM (by decide) (by decide +kernel), List.forall_mem_cons.mpr ⟨za_okM (by decide) (by decide +kernel), List.forall_mem_cons.mpr ⟨za_ok52 _, fun _ h => nomatch h⟩⟩⟩⟩) ?_
    refine zv_iconst (v := 0) GC dL_law_20 (by decide) ?_
    refine zv_istore GC dL_law_21 (by decide) rfl ?_
    exact zl_loop 37190 (by decide) hl GC hX hX9 hbl hbA hL kx 513 0 0 z0 (by decide) (by decide) (by decide) zI_0
  rw [lg_entry_eq]
  exact key s.heap [] _ (zwf_P.mpr fun j hj => absurd hj (by omega)) va_S.rf (lv_entry ([Value.ref b]) (n := 8) (Nat.le_of_ble_eq_true rfl))
