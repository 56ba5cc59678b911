def nwL : List Cond := [.fieldLinkNest RX4 60 "CubicForms$Cubic" "a" "J" "CubicForms", .fieldLinkNest RX3 37 "CubicForms$Cubic" "a" "J" "CubicForms", .fieldLinkNest RX5 209 "CubicForms$Cubic" "a" "J" "CubicForms", .fieldLinkNest RX3 29 "CubicForms$Cubic" "b" "J" "CubicForms", .fieldLinkNest RX4 64 "CubicForms$Cubic" "b" "J" "CubicForms", .fieldLinkNest RX5 213 "CubicForms$Cubic" "b" "J" "CubicForms", .fieldLinkNest RX3 34 "CubicForms$Cubic" "c" "J" "CubicForms", .fieldLinkNest RX5 216 "CubicForms$Cubic" "c" "J" "CubicForms", .fieldLinkNest RX3 40 "CubicForms$Cubic" "d" "J" "CubicForms", .fieldLinkNest RX5 219 "CubicForms$Cubic" "d" "J" "CubicForms", .fieldLinkNest RX2 34 "CubicForms$RingElement" "u" "J" "CubicForms", .fieldLinkNest RX5 222 "CubicForms$RingElement" "u" "J" "CubicForms", .fieldLinkNest RX2 38 "CubicForms$RingElement" "v" "J" "CubicForms", .fieldLinkNest RX5 225 "CubicForms$RingElement" "v" "J" "CubicForms", .fieldLinkNest RX2 41 "CubicForms$RingElement" "t" "J" "CubicForms", .fieldLinkNest RX5 228 "CubicForms$RingElement" "t" "J" "CubicForms", .fieldLinkNest RX5 199 "CubicForms$FieldTable" "fieldDiscs" "[I" "CubicForms", .fieldLinkNest RX5 196 "CubicForms$FieldTable" "fieldCount" "I" "CubicForms", .methodLinkNest RX5 24 yX0_init "CubicForms", .methodLinkNest RX5 34 yX3_init "CubicForms", .methodLinkNest RX5 44 yX4_init "CubicForms", .methodLinkNest RX4 11 yX0_init "CubicForms", .methodLinkNest RX5 51 yX2_init "CubicForms", .methodLinkNest RX2 9 yX3_init "CubicForms", .methodLinkNest RX5 58 yX1_init "CubicForms", .methodLinkNest RX1 29 yX0_init "CubicForms", .methodLinkNest RX5 63 yX0_set "CubicForms", .methodLinkNest RX5 67 yX0_fitsStore "CubicForms", .methodLinkNest RX0 30 yX5_isWithin "CubicForms", .methodLinkNest RX5 83 yX0_disc "CubicForms", .methodLinkNest RX5 89 yX0_hessianP "CubicForms", .methodLinkNest RX5 92 yX0_hessianQ "CubicForms", .methodLinkNest RX5 95 yX0_hessianR "CubicForms", .methodLinkNest RX5 104 yX0_valueAt "CubicForms", .methodLinkNest RX5 112 yX0_becomeSubstituted "CubicForms", .methodLinkNest RX5 119 yX0_hasRationalRoot "CubicForms", .methodLinkNest RX5 122 yX4_makeCanonical "CubicForms", .methodLinkNest RX4 21 yX0_reduceHessian "CubicForms", .methodLinkNest RX4 24 yX0_copyFrom "CubicForms", .methodLinkNest RX4 49 yX0_becomeSubstituted "CubicForms", .methodLinkNest RX4 32 yX0_hasReducedHessian "CubicForms", .methodLinkNest RX4 36 yX0_isBefore "CubicForms", .methodLinkNest RX5 126 yX0_isSameAs "CubicForms", .methodLinkNest RX5 130 yX4_countAutomorphisms "CubicForms", .methodLinkNest RX4 40 yX0_isSameAs "CubicForms", .methodLinkNest RX5 137 yX3_set "CubicForms", .methodLinkNest RX5 140 yX3_fitsRegister "CubicForms", .methodLinkNest RX3 23 yX5_isWithin "CubicForms", .methodLinkNest RX5 147 yX3_isSameAs "CubicForms", .methodLinkNest RX5 153 yX2_productOf "CubicForms", .methodLinkNest RX2 44 yX3_becomeProduct "CubicForms", .methodLinkNest RX5 157 yX3_traceIn "CubicForms", .methodLinkNest RX5 161 yX2_normOf "CubicForms", .methodLinkNest RX5 165 yX2_determinantOfTraces "CubicForms", .methodLinkNest RX2 59 yX3_traceIn "CubicForms", .methodLinkNest RX2 63 yX3_set "CubicForms", .methodLinkNest RX5 168 yX2_indexOf "CubicForms", .methodLinkNest RX5 174 yX4_splittingCode "CubicForms", .methodLinkNest RX4 53 yX0_isMultipleOf "CubicForms", .methodLinkNest RX4 56 yX0_becomeAtPoint "CubicForms", .methodLinkNest RX5 178 yX4_growAt "CubicForms", .methodLinkNest RX4 67 yX0_becomeOverring "CubicForms", .methodLinkNest RX5 182 yX4_makeMaximal "CubicForms", .methodLinkNest RX4 71 yX0_disc "CubicForms", .methodLinkNest RX4 75 yX5_isPrime "CubicForms", .methodLinkNest RX5 185 yX1_fillOnce "CubicForms", .methodLinkNest RX1 41 yX0_set "CubicForms", .methodLinkNest RX1 53 yX0_hasReducedHessian "CubicForms", .methodLinkNest RX1 57 yX0_disc "CubicForms", .methodLinkNest RX1 63 yX0_hasRationalRoot "CubicForms", .methodLinkNest RX1 66 yX0_copyFrom "CubicForms", .methodLinkNest RX1 70 yX4_makeCanonical "CubicForms", .methodLinkNest RX1 75 yX0_isSameAs "CubicForms", .methodLinkNest RX1 83 yX4_growAtLeastPrime "CubicForms", .methodLinkNest RX5 189 yX1_countFormsTo "CubicForms", .methodLinkNest RX5 193 yX1_countFieldsTo "CubicForms"]
/-! the fixed facts of a frame of this program, and rows over them -/
theorem ws_good : WL.all goodWord = true := List.all_eq_true.mpr (fun _ h => (List.mem_filter.mp h).2)
theorem ws_goodIn (c0 : Cond) {c1 : Cond} (h : c1 ∈ WL) : GoodIn (c0 :: WL) (c1 :: WL) := fun w hw => by
  have hm : w ∈ WL := (List.mem_cons.mp hw).elim (fun e => e ▸ h) id
  exact ⟨List.mem_cons_of_mem _ hm, good_of_word (List.all_eq_true.mp ws_good w hm)⟩
theorem ws_goodInL {c1 : Cond} (h : c1 ∈ WL) : GoodIn WL (c1 :: WL) := fun w hw => by
  have hm : w ∈ WL := (List.mem_cons.mp hw).elim (fun e => e ▸ h) id
  exact ⟨hm, good_of_word (List.all_eq_true.mp ws_good w hm)⟩
def nw_is (w : Cond) : Bool := match w with
  | .fieldLinkNest _ _ _ _ _ _ => true
  | .methodLinkNest _ _ _ _ => true
  | _ => false
theorem nw_all : nwL.all nw_is = true := by decide +kernel
def NW (U : State) : Prop := ∀ w ∈ nwL, va_Nw w U
theorem NW.warm {s U : State} (hW : s.WarmedH U.vm) (h : NW s) : NW U := fun w hw => by
  have h1 := List.all_eq_true.mp nw_all w hw
  have h2 := h w hw
  cases w with
  | fieldLinkNest a i b n d h => exact va_Nw.warmF hW h2
  | methodLinkNest a i x h => exact va_Nw.warmM hW h2
  | _ => exact absurd h1 (by simp [nw_is])
theorem NW.same {u U : State} (hu : u.vm = U.vm) (h : NW u) : NW U := fun w hw => by
  have h1 := List.all_eq_true.mp nw_all w hw
  have h2 := h w hw
  cases w with
  | fieldLinkNest a i b n d h => exact va_Nw.same rfl hu h2
  | methodLinkNest a i x h => exact va_Nw.same rfl hu h2
  | _ => exact absurd h1 (by simp [nw_is])
/-- the frame's fixed facts -/
def Cx (p : Program) (s : State) (m : MethodId) (args : Array Value) (c : Code) (cc : ByteArray) (nL : Nat) (own : String) (D : va_G) (cI cJ : ClassId) : Prop :=
  p.tables.exec = Jvm.exec ∧ c.code = cc ∧ c.maxLocals = nL ∧ s.vm.findClass own = some m.cls ∧ (∀ w ∈ WL, w.before args s = true) ∧ va_K D vwCl [(cI, .int), (cJ, .long)] s ∧ NW s
def mPre (D : va_G) (cI cJ : ClassId) (av : List Value) (ws : va_W) (sz : Nat) : Array Value → State → Prop :=
  va_Pc av (fun U => U.heap.size = sz ∧ va_P D vwCl ws U.heap ∧ va_K D vwCl [(cI, .int), (cJ, .long)] U ∧ NW U ∧ va_D (fun _ => True) ws)
theorem mPre_blind {D : va_G} {cI cJ : ClassId} {av : List Value} {ws : va_W} {sz : Nat} : FrameBlind (mPre D cI cJ av ws sz) := fun a U g mk q => by
  obtain ⟨q0, q1, qP, qK, qN, qD⟩ := q
  exact ⟨q0, q1, qP, va_K.moved (u := U) (U := U.calling g mk a) (Vm.Alike.refl U.vm) qK, NW.same (u := U) (U := U.calling g mk a) rfl qN, qD⟩
def mB {S : Type} (D : va_G) (A : Nat → Prop) (out : S → va_W) : S → State → Prop := fun u t => va_P D vwCl (out u) t.heap ∧ va_D A (out u)
def CtI (l : Launch) (y : MethodName) (cc : ByteArray) (n : Nat) (rt : FieldType) (rm : Room) (D : va_G) (cI cJ : ClassId) (av : List Value) (ws : va_W) {S : Type} (out : S → va_W) (post : Int32 → S → Prop) : Prop :=
  ∀ sz : Nat, Met l y (.code y cc n (some rt) :: WL) rm (mPre D cI cJ av ws sz) (va_Qi post (mB D (va_A ws sz) out) (va_A ws sz)) 0 0 (va_A ws sz)
def CtL (l : Launch) (y : MethodName) (cc : ByteArray) (n : Nat) (rm : Room) (D : va_G) (cI cJ : ClassId) (av : List Value) (ws : va_W) {S : Type} (out : S → va_W) (post : Int64 → S → Prop) : Prop :=
  ∀ sz : Nat, Met l y (.code y cc n (some .long) :: WL) rm (mPre D cI cJ av ws sz) (va_Ql post (mB D (va_A ws sz) out) (va_A ws sz)) 0 0 (va_A ws sz)
def CtV (l : Launch) (y : MethodName) (cc : ByteArray) (n : Nat) (rm : Room) (D : va_G) (cI cJ : ClassId) (av : List Value) (ws : va_W) {S : Type} (out : S → va_W) (post : S → Prop) (mc ms : Nat) : Prop :=
  ∀ sz : Nat, Met l y (.code y cc n none :: WL) rm (mPre D cI cJ av ws sz) (va_Qv post (mB D (va_A ws sz) out) (va_A ws sz)) mc ms (va_A ws sz)
def CtR (l : Launch) (y : MethodName) (cc : ByteArray) (n : Nat) (rt : FieldType) (rm : Room) (D : va_G) (cI cJ : ClassId) (av : List Value) (ws : va_W) {S : Type} (out : S → va_W) (post : S → Prop) (ra : Nat) : Prop :=
  ∀ sz : Nat, Met l y (.code y cc n (some rt) :: WL) rm (mPre D cI cJ av ws sz) (va_Qr post (fun u a t => a = ra ∧ mB D (va_A ws sz) out u t) (va_A ws sz)) 0 0 (va_A ws sz)
section RW
variable {p : Program} {l : Launch} {e : Env} {R : Room} {s : State} {m : MethodId} {args : Array Value} {below : List Frame} {meth : Method} {c : Code} {H H0 : Heap} {locs : List Loc} {cells slots : Nat} {Q : State → Prop}
  {cc bytes : ByteArray} {nL maxL pc mc ms n index : Nat} {ls : Array Slot} {rest st0 : List Value} {own C host : String} {D : va_G} {cI cJ : ClassId} {A free A1 : Nat → Prop} {ws wc wr : va_W} {y : MethodName} {ret : Option FieldType} {rm : Room} {Qc : Array Value → State → Outcome → State → Prop} {b : Nat} {As : List Value}
theorem Cx.fix (X : Cx p s m args c cc nL own D cI cJ) : CallFix p m c cc nL s args WL own := ⟨X.1, X.2.1, X.2.2.1, X.2.2.2.1, X.2.2.2.2.1⟩
theorem Cx.w (X : Cx p s m args c cc nL own D cI cJ) {w : Cond} (h : w ∈ WL) : w.before args s = true := X.2.2.2.2.1 w h
theorem Cx.k (X : Cx p s m args c cc nL own D cI cJ) : va_K D vwCl [(cI, .int), (cJ, .long)] s := X.2.2.2.2.2.1
theorem Cx.nw (X : Cx p s m args c cc nL own D cI cJ) {w : Cond} (h : w ∈ nwL) : va_Nw w s := X.2.2.2.2.2.2 w h
/-- what a callee finds at its entry -/
theorem Cx.pre (X : Cx p s m args c cc nL own D cI cJ) (av : List Value) (hP : va_P D vwCl ws H) (hD : va_D A ws) (isC : List Nat) (hC : isC.map (fun i => ws[i]?) = wc.map some) (hn : va_nd isC = true) : ∀ U : State, U.heap = H → s.WarmedH U.vm → mPre D cI cJ av wc H.size av.toArray U := fun U hU hW => by
  have hDc := hD.sub isC hn hC
  have hPc : va_P D vwCl wc H := hP.sub isC (by
    have h0 : isC.filterMap (fun i => ws[i]?) = (isC.map (fun i => ws[i]?)).filterMap id := by rw [List.filterMap_map]; rfl
    rw [h0, hC, List.filterMap_map]
    exact List.filterMap_some)
  exact ⟨rfl, by rw [hU], by rw [hU]; exact hPc, va_K.moved hW.alike X.k, NW.warm hW X.2.2.2.2.2.2, hDc.weaken (fun _ _ _ _ => trivial)⟩
/-- behind a call: the callee's cells beside the rest -/
theorem fin_i {S : Type} {post : Int32 → S → Prop} {out : S → va_W} {a : Array Value} (hr : va_Run p l e R s m args below meth c H locs cells slots 0 0 (F0 m pc ls st0) rest (va_Qi post (mB D (va_A wc H.size) out) (va_A wc H.size) a) (va_A wc H.size))
    (hP : va_P D vwCl ws H) (hD : va_D A ws) (hS : va_S A H0 H locs) (hA : ∀ q, H0.size ≤ q → A q) (isC isR : List Nat) (hC : isC.map (fun i => ws[i]?) = wc.map some) (hR : isR.map (fun i => ws[i]?) = wr.map some) (hn : va_nd isR = true) (hdis : ∀ i ∈ isR, i ∉ isC)
    (kk : ∀ (r : Int32) (u : S) (H1 : Heap) (locs1 : List Loc), post r u → va_P D vwCl (wr ++ out u) H1 → va_D A (wr ++ out u) → va_S A H0 H1 locs1 → W p l e R s m args below meth c H1 locs1 cells slots Q (F0 m (pc + 3) ls (.int r :: rest))) : W p l e R s m args below meth c H locs cells slots Q (F0 m pc ls st0) := by
  have hF := va_free (wc := wc) hD hS hA isC hC
  refine va_calli hr hS (fun q _ h => hF q h) hF (fun r u t H1 locs1 ht hvm hw hB hz1 hk1 hS1 => ?_)
  obtain ⟨hP1, hD1⟩ := hB
  rw [ht] at hP1
  obtain ⟨hP2, hD2⟩ := va_join (wr := wr) hP hD isC isR hC hR hn hdis hk1 hF hP1 hD1
  exact kk r u H1 locs1 hw hP2 hD2 hS1
theorem fin_l {S : Type} {post : Int64 → S → Prop} {out : S → va_W} {a : Array Value} (hr : va_Run p l e R s m args below meth c H locs cells slots 0 0 (F0 m pc ls st0) rest (va_Ql post (mB D (va_A wc H.size) out) (va_A wc H.size) a) (va_A wc H.size))
    (hP : va_P D vwCl ws H) (hD : va_D A ws) (hS : va_S A H0 H locs) (hA : ∀ q, H0.size ≤ q → A q) (isC isR : List Nat) (hC : isC.map (fun i => ws[i]?) = wc.map some) (hR : isR.map (fun i => ws[i]?) = wr.map some) (hn : va_nd isR = true) (hdis : ∀ i ∈ isR, i ∉ isC)
    (kk : ∀ (r : Int64) (u : S) (H1 : Heap) (locs1 : List Loc), post r u → va_P D vwCl (wr ++ out u) H1 → va_D A (wr ++ out u) → va_S A H0 H1 locs1 → W p l e R s m args below meth c H1 locs1 cells slots Q (F0 m (pc + 3) ls (.long r :: rest))) : W p l e R s m args below meth c H locs cells slots Q (F0 m pc ls st0) := by
  have hF := va_free (wc := wc) hD hS hA isC hC
  refine va_calll hr hS (fun q _ h => hF q h) hF (fun r u t H1 locs1 ht hvm hw hB hz1 hk1 hS1 => ?_)
  obtain ⟨hP1, hD1⟩ := hB
  rw [ht] at hP1
  obtain ⟨hP2, hD2⟩ := va_join (wr := wr) hP hD isC isR hC hR hn hdis hk1 hF hP1 hD1
  exact kk r u H1 locs1 hw hP2 hD2 hS1
theorem fin_v {S : Type} {post : S → Prop} {out : S → va_W} {a : Array Value} (hr : va_Run p l e R s m args below meth c H locs cells slots mc ms (F0 m pc ls st0) rest (va_Qv post (mB D (va_A wc H.size) out) (va_A wc H.size) a) (va_A wc H.size))
    (hP : va_P D vwCl ws H) (hD : va_D A ws) (hS : va_S A H0 H locs) (hA : ∀ q, H0.size ≤ q → A q) (isC isR : List Nat) (hC : isC.map (fun i => ws[i]?) = wc.map some) (hR : isR.map (fun i => ws[i]?) = wr.map some) (hn : va_nd isR = true) (hdis : ∀ i ∈ isR, i ∉ isC)
    (kk : ∀ (u : S) (H1 : Heap) (locs1 : List Loc), post u → va_P D vwCl (wr ++ out u) H1 → va_D A (wr ++ out u) → va_S A H0 H1 locs1 → W p l e R s m args below meth c H1 locs1 (cells + mc) (slots + ms) Q (F0 m (pc + 3) ls rest)) : W p l e R s m args below meth c H locs cells slots Q (F0 m pc ls st0) := by
  have hF := va_free (wc := wc) hD hS hA isC hC
  refine va_callv hr hS (fun q _ h => hF q h) hF (fun u t H1 locs1 ht hvm hw hB hz1 hk1 hS1 => ?_)
  obtain ⟨hP1, hD1⟩ := hB
  rw [ht] at hP1
  obtain ⟨hP2, hD2⟩ := va_join (wr := wr) hP hD isC isR hC hR hn hdis hk1 hF hP1 hD1
  exact kk u H1 locs1 hw hP2 hD2 hS1
theorem fin_r {S : Type} {post : S → Prop} {out : S → va_W} {a : Array Value} {ra : Nat} (hr : va_Run p l e R s m args below meth c H locs cells slots 0 0 (F0 m pc ls st0) rest (va_Qr post (fun u a t => a = ra ∧ mB D (va_A wc H.size) out u t) (va_A wc H.size) a) (va_A wc H.size))
    (hP : va_P D vwCl ws H) (hD : va_D A ws) (hS : va_S A H0 H locs) (hA : ∀ q, H0.size ≤ q → A q) (isC isR : List Nat) (hC : isC.map (fun i => ws[i]?) = wc.map some) (hR : isR.map (fun i => ws[i]?) = wr.map some) (hn : va_nd isR = true) (hdis : ∀ i ∈ isR, i ∉ isC)
    (kk : ∀ (u : S) (H1 : Heap) (locs1 : List Loc), post u → va_P D vwCl (wr ++ out u) H1 → va_D A (wr ++ out u) → va_S A H0 H1 locs1 → W p l e R s m args below meth c H1 locs1 cells slots Q (F0 m (pc + 3) ls (.ref ra :: rest))) : W p l e R s m args below meth c H locs cells slots Q (F0 m pc ls st0) := by
  have hF := va_free (wc := wc) hD hS hA isC hC
  refine va_callr hr hS (fun q _ h => hF q h) hF (fun u ra1 t H1 locs1 ht hvm hw hB hz1 hk1 hS1 => ?_)
  obtain ⟨rfl, hP1, hD1⟩ := hB
  rw [ht] at hP1
  obtain ⟨hP2, hD2⟩ := va_join (wr := wr) hP hD isC isR hC hR hn hdis hk1 hF hP1 hD1
  exact kk u H1 locs1 hw hP2 hD2 hS1
/-- the run of a call, by its kind -/
theorem run_V {C : String} {T : u_T} {N ci : Nat} {fs : List Value} (X : Cx p s m args c cc nL own D cI cJ) (hM : Met l y (.code y bytes maxL ret :: WL) rm (mPre D cI cJ (.ref b :: As) wc H.size) Qc mc ms free)
    (hrc : rm.cells = mc) (hrs : rm.slots = ms) (h1 : .code y bytes maxL ret ∈ WL) (h2 : .methodLink own index y ∈ WL) (h3 : .instanceMethod y ∈ WL) (h4 : .selects C y y ∈ WL) (h5 : .initialized y.cls ∈ WL)
    (hd : y.cls ≠ "java/lang/invoke/MethodHandle" ∧ y.cls ≠ "java/lang/invoke/VarHandle" ∧ (parseMethodDescriptor y.desc).map (fun d => d.parameters.length) = some n) (hc : vwCl[ci]? = some (C, T, N))
    (hdg : decode cc pc = .ok (.invokevirtual index, 3)) (hP : va_P D vwCl ws H) (hD : va_D A ws) (q0 : Nat) (he : ws[q0]? = some (b, .inr (ci, fs))) (isC : List Nat) (hC : isC.map (fun i => ws[i]?) = wc.map some) (hnd : va_nd isC = true)
    (hl : ls.size = nL) (hn : As.length = n) (hst : st0 = As.reverse ++ .ref b :: rest) (hroom : (rest.map fun v => v.category).sum ≤ 8) (hR : rm.frames + 1 ≤ R.frames ∧ 8 + (maxL + 11) + rm.locals ≤ R.locals) (hf : cells + mc ≤ R.cells ∧ slots + ms ≤ R.slots) :
    va_Run p l e R s m args below meth c H locs cells slots mc ms (F0 m pc ls st0) rest (Qc (Value.ref b :: As).toArray) free :=
  va_runV (As := As) (rest := rest) X.fix hM ⟨callB_of n X.2.2.2.2.1 (ws_goodInL h1) rfl hrc hrs (X.w h5) (X.w h2) hd hR, X.w h3, X.w h4⟩ ⟨mPre_blind, va_recv X.k hP (ci := ci) (q0 := q0) hc he, X.pre _ hP hD isC hC hnd⟩ rfl hn hl hst (lv_room hroom) hdg hf
theorem run_VN {C : String} {T : u_T} {N ci : Nat} {fs : List Value} (X : Cx p s m args c cc nL own D cI cJ) (hM : Met l y (.code y bytes maxL ret :: WL) rm (mPre D cI cJ (.ref b :: As) wc H.size) Qc mc ms free)
    (hrc : rm.cells = mc) (hrs : rm.slots = ms) (h1 : .code y bytes maxL ret ∈ WL) (h2 : .methodLinkNest own index y host ∈ nwL) (h3 : .instanceMethod y ∈ WL) (h4 : .selects C y y ∈ WL) (h5 : .initialized y.cls ∈ WL)
    (hd : y.cls ≠ "java/lang/invoke/MethodHandle" ∧ y.cls ≠ "java/lang/invoke/VarHandle" ∧ (parseMethodDescriptor y.desc).map (fun d => d.parameters.length) = some n) (hc : vwCl[ci]? = some (C, T, N))
    (hdg : decode cc pc = .ok (.invokevirtual index, 3)) (hP : va_P D vwCl ws H) (hD : va_D A ws) (q0 : Nat) (he : ws[q0]? = some (b, .inr (ci, fs))) (isC : List Nat) (hC : isC.map (fun i => ws[i]?) = wc.map some) (hnd : va_nd isC = true)
    (hl : ls.size = nL) (hn : As.length = n) (hst : st0 = As.reverse ++ .ref b :: rest) (hroom : (rest.map fun v => v.category).sum ≤ 8) (hR : rm.frames + 1 ≤ R.frames ∧ 8 + (maxL + 11) + rm.locals ≤ R.locals) (hf : cells + mc ≤ R.cells ∧ slots + ms ≤ R.slots) :
    va_Run p l e R s m args below meth c H locs cells slots mc ms (F0 m pc ls st0) rest (Qc (Value.ref b :: As).toArray) free :=
  va_runVN (As := As) (rest := rest) X.fix hM ⟨va_cnB n X.2.2.2.2.1 (ws_goodInL h1) rfl hrc hrs (X.nw h2) (X.w h5) hd hR, X.w h3, X.w h4⟩ ⟨mPre_blind, va_recv X.k hP (ci := ci) (q0 := q0) hc he, X.pre _ hP hD isC hC hnd⟩ rfl hn hl hst (lv_room hroom) hdg hf
theorem run_S (X : Cx p s m args c cc nL own D cI cJ) (hM : Met l y (.code y bytes maxL ret :: WL) rm (mPre D cI cJ As wc H.size) Qc mc ms free)
    (hrc : rm.cells = mc) (hrs : rm.slots = ms) (h1 : .code y bytes maxL ret ∈ WL) (h2 : .methodLink own index y ∈ WL) (h3 : .static y ∈ WL) (h5 : .initialized y.cls ∈ WL)
    (hd : y.cls ≠ "java/lang/invoke/MethodHandle" ∧ y.cls ≠ "java/lang/invoke/VarHandle" ∧ (parseMethodDescriptor y.desc).map (fun d => d.parameters.length) = some n)
    (hdg : decode cc pc = .ok (.invokestatic index, 3)) (hP : va_P D vwCl ws H) (hD : va_D A ws) (isC : List Nat) (hC : isC.map (fun i => ws[i]?) = wc.map some) (hnd : va_nd isC = true)
    (hl : ls.size = nL) (hn : As.length = n) (hst : st0 = As.reverse ++ rest) (hroom : (rest.map fun v => v.category).sum ≤ 8) (hR : rm.frames + 1 ≤ R.frames ∧ 8 + (maxL + 11) + rm.locals ≤ R.locals) (hf : cells + mc ≤ R.cells ∧ slots + ms ≤ R.slots) :
    va_Run p l e R s m args below meth c H locs cells slots mc ms (F0 m pc ls st0) rest (Qc As.toArray) free :=
  va_runS (As := As) (rest := rest) X.fix hM ⟨callB_of n X.2.2.2.2.1 (ws_goodInL h1) rfl hrc hrs (X.w h5) (X.w h2) hd hR, X.w h3⟩ ⟨mPre_blind, X.pre _ hP hD isC hC hnd⟩ rfl hn hl hst (lv_room hroom) hdg hf
theorem run_SN (X : Cx p s m args c cc nL own D cI cJ) (hM : Met l y (.code y bytes maxL ret :: WL) rm (mPre D cI cJ As wc H.size) Qc mc ms free)
    (hrc : rm.cells = mc) (hrs : rm.slots = ms) (h1 : .code y bytes maxL ret ∈ WL) (h2 : .methodLinkNest own index y host ∈ nwL) (h3 : .static y ∈ WL) (h5 : .initialized y.cls ∈ WL)
    (hd : y.cls ≠ "java/lang/invoke/MethodHandle" ∧ y.cls ≠ "java/lang/invoke/VarHandle" ∧ (parseMethodDescriptor y.desc).map (fun d => d.parameters.length) = some n)
    (hdg : decode cc pc = .ok (.invokestatic index, 3)) (hP : va_P D vwCl ws H) (hD : va_D A ws) (isC : List Nat) (hC : isC.map (fun i => ws[i]?) = wc.map some) (hnd : va_nd isC = true)
    (hl : ls.size = nL) (hn : As.length = n) (hst : st0 = As.reverse ++ rest) (hroom : (rest.map fun v => v.category).sum ≤ 8) (hR : rm.frames + 1 ≤ R.frames ∧ 8 + (maxL + 11) + rm.locals ≤ R.locals) (hf : cells + mc ≤ R.cells ∧ slots + ms ≤ R.slots) :
    va_Run p l e R s m args below meth c H locs cells slots mc ms (F0 m pc ls st0) rest (Qc As.toArray) free :=
  va_runSN (As := As) (rest := rest) X.fix hM ⟨va_cnB n X.2.2.2.2.1 (ws_goodInL h1) rfl hrc hrs (X.nw h2) (X.w h5) hd hR, X.w h3, trivial⟩ ⟨mPre_blind, X.pre _ hP hD isC hC hnd⟩ rfl hn hl hst (lv_room hroom) hdg hf
theorem run_IN (X : Cx p s m args c cc nL own D cI cJ) (hM : Met l y (.code y bytes maxL none :: WL) rm (mPre D cI cJ (.ref b :: As) wc H.size) Qc mc ms free)
    (hrc : rm.cells = mc) (hrs : rm.slots = ms) (h1 : .code y bytes maxL none ∈ WL) (h2 : .methodLinkNest own index y host ∈ nwL) (h3 : .instanceMethod y ∈ WL) (h5 : .initialized y.cls ∈ WL) (h6 : y.name = "<init>")
    (hd : y.cls ≠ "java/lang/invoke/MethodHandle" ∧ y.cls ≠ "java/lang/invoke/VarHandle" ∧ (parseMethodDescriptor y.desc).map (fun d => d.parameters.length) = some n)
    (hdg : decode cc pc = .ok (.invokespecial index, 3)) (hP : va_P D vwCl ws H) (hD : va_D A ws) (isC : List Nat) (hC : isC.map (fun i => ws[i]?) = wc.map some) (hnd : va_nd isC = true)
    (hl : ls.size = nL) (hn : As.length = n) (hst : st0 = As.reverse ++ .ref b :: rest) (hroom : (rest.map fun v => v.category).sum ≤ 8) (hR : rm.frames + 1 ≤ R.frames ∧ 8 + (maxL + 11) + rm.locals ≤ R.locals) (hf : cells + mc ≤ R.cells ∧ slots + ms ≤ R.slots) :
    va_Run p l e R s m args below meth c H locs cells slots mc ms (F0 m pc ls st0) rest (Qc (Value.ref b :: As).toArray) free :=
  va_runIN (As := As) (rest := rest) X.fix hM ⟨va_cnB n X.2.2.2.2.1 (ws_goodInL h1) rfl hrc hrs (X.nw h2) (X.w h5) hd hR, h6, X.w h3⟩ ⟨mPre_blind, X.pre _ hP hD isC hC hnd⟩ rfl hn hl hst (lv_room hroom) hdg hf
theorem run_I (X : Cx p s m args c cc nL own D cI cJ) (hM : Met l y (.code y bytes maxL none :: WL) rm (mPre D cI cJ (.ref b :: As) wc H.size) Qc mc ms free)
    (hrc : rm.cells = mc) (hrs : rm.slots = ms) (h1 : .code y bytes maxL none ∈ WL) (h2 : .methodLink own index y ∈ WL) (h3 : .instanceMethod y ∈ WL) (h5 : .initialized y.cls ∈ WL) (h6 : y.name = "<init>")
    (hd : y.cls ≠ "java/lang/invoke/MethodHandle" ∧ y.cls ≠ "java/lang/invoke/VarHandle" ∧ (parseMethodDescriptor y.desc).map (fun d => d.parameters.length) = some n)
    (hdg : decode cc pc = .ok (.invokespecial index, 3)) (hP : va_P D vwCl ws H) (hD : va_D A ws) (isC : List Nat) (hC : isC.map (fun i => ws[i]?) = wc.map some) (hnd : va_nd isC = true)
    (hl : ls.size = nL) (hn : As.length = n) (hst : st0 = As.reverse ++ .ref b :: rest) (hroom : (rest.map fun v => v.category).sum ≤ 8) (hR : rm.frames + 1 ≤ R.frames ∧ 8 + (maxL + 11) + rm.locals ≤ R.locals) (hf : cells + mc ≤ R.cells ∧ slots + ms ≤ R.slots) :
    va_Run p l e R s m args below meth c H locs cells slots mc ms (F0 m pc ls st0) rest (Qc (Value.ref b :: As).toArray) free :=
  va_runI (As := As) (rest := rest) X.fix hM ⟨callB_of n X.2.2.2.2.1 (ws_goodInL h1) rfl hrc hrs (X.w h5) (X.w h2) hd hR, h6, X.w h3⟩ ⟨mPre_blind, X.pre _ hP hD isC hC hnd⟩ rfl hn hl hst (lv_room hroom) hdg hf
end RW
