/-! ROWS FOR WHAT MAKES CELLS: constructors, and calls of the law (by hand) -/
section Rw
variable {p : Program} {l : Launch} {e : Env} {R : Room} {s : State} {m : MethodId} {args : Array Value} {below : List Frame} {meth : Method} {c : Code} {H : Heap} {locs : List Loc} {cells slots : Nat} {Q : State → Prop} {cc : ByteArray} {nL : Nat} {ret : Option FieldType} {own : String} {g : gG} {A : Nat → Prop} {pc : Nat} {ls : Array Slot} {rest st0 As : List Value} {ws ws' wc w1 : va_W} {a : Nat}
variable {y : MethodName} {cb : ByteArray} {mL n index : Nat} {rt : Option FieldType} {rm : Room} {Qc : Array Value → State → Outcome → State → Prop}
abbrev gMn (l : Launch) (y : MethodName) (cc : ByteArray) (maxL : Nat) (rm : Room) (g : gG) (sz : Nat) (av : List Value) (ws : va_W) (WS : (Nat → Nat) → va_W) (mc ms : Nat) : Prop :=
  Met l y (.code y cc maxL none :: gWs) rm (va_Pc av (gPre g sz ws)) (va_Qv (fun (_ : Nat → Nat) => True) (fun u t => va_P g.1 vwCl (WS u) t.heap ∧ va_D (va_A ws sz) (WS u)) (va_A ws sz)) mc ms (va_A ws sz)
abbrev gQn (below : List Frame) (args : Array Value) (s : State) (A : Nat → Prop) (g : gG) (WS : (Nat → Nat) → va_W) (mc ms : Nat) : State → Prop := MQ below (va_Qv (fun (_ : Nat → Nat) => True) (fun u t => va_P g.1 vwCl (WS u) t.heap ∧ va_D A (WS u)) A) args s mc ms A
def gFldF (own : String) (index ci k : Nat) (ty : FieldType) : Prop := ∃ (C : String) (T : u_T) (N : Nat) (ty0 : Nat → FieldType), vwCl[ci]? = some (C, T, N) ∧ (∀ w ∈ u_ws C T N, w ∈ gWs) ∧ k < N ∧ Cond.fieldLink own index C (T k).2.1 (T k).2.2.1 ∈ gWs ∧ (T k).1 = C ∧ (∀ k, k < N → parseFieldDescriptor (T k).2.2.1 = some (ty0 k)) ∧ (∀ a, a < N → ∀ b, b < N → a ≠ b → (T a).2.1 ≠ (T b).2.1) ∧ (T k).2.2.2 = true ∧ parseFieldDescriptor (T k).2.2.1 = some ty ∧ C = own
theorem hGet (C0 : gX p s m args meth c cc nL ret own g A) (hw : gW g A s ws H locs) {ci k index : Nat} (hf : gFld own index ci k) (q0 : Nat) {fs : List Value} {v : Value} (he : ws[q0]? = some (a, .inr (ci, fs))) (hv : fs[k]? = some v) (hdg : decode cc pc = .ok (.getfield index, 3))
    (kk : W p l e R s m args below meth c H locs cells slots Q (F0 m (pc + 3) ls (v :: rest))) : W p l e R s m args below meth c H locs cells slots Q (F0 m pc ls (.ref a :: rest)) := by
  obtain ⟨hx, hb, hr, hml, hown, hts, hlocks, hK, hA⟩ := C0
  obtain ⟨hP, hD, hS⟩ := hw
  obtain ⟨C, T, N, hc, hin, hk, hlink, hd1⟩ := hf
  exact va_get hx hb hts hin hown hK.1 hP q0 he hc k hk (hts _ hlink) (fun x h => by rw [hd1] at h; exact h) hv hdg kk
theorem hPut (C0 : gX p s m args meth c cc nL ret own g A) (hw : gW g A s ws H locs) {ci k index : Nat} {ty : FieldType} (hf : gFldP own index ci k ty) (q0 : Nat) {fs : List Value} {v : Value} (he : ws[q0]? = some (a, .inr (ci, fs))) (hn : narrow ty v = v) (hfit : fits ty v = true) (hl : k < fs.length) (hws : ws.set q0 (a, .inr (ci, fs.set k v)) = ws') (hdg : decode cc pc = .ok (.putfield index, 3))
    (kk : ∀ (H : Heap) (locs : List Loc), gW g A s ws' H locs → W p l e R s m args below meth c H locs cells slots Q (F0 m (pc + 3) ls rest)) : W p l e R s m args below meth c H locs cells slots Q (F0 m pc ls (v :: .ref a :: rest)) := by
  obtain ⟨hx, hb, hr, hml, hown, hts, hlocks, hK, hA⟩ := C0
  obtain ⟨hP, hD, hS⟩ := hw
  obtain ⟨C, T, N, ty0, hc, hin, hk, hlink, hd1, hty, hnm, hfin, hd⟩ := hf
  subst hws
  exact va_put hx hb hts hin ty0 hty hnm hown hK.1 hP hD hS q0 he hc k hk (hts _ hlink) (fun x h => by rw [hd1] at h; exact h) hfin hd hn hfit hl hdg (fun H1 locs1 h1 h2 h3 => kk H1 locs1 ⟨h1, h2, h3⟩)
theorem hPutF (C0 : gX p s m args meth c cc nL ret own g A) (hin2 : meth.name = "<init>") (hw : gW g A s ws H locs) {ci k index : Nat} {ty : FieldType} (hf : gFldF own index ci k ty) (q0 : Nat) {fs : List Value} {v : Value} (he : ws[q0]? = some (a, .inr (ci, fs))) (hn : narrow ty v = v) (hfit : fits ty v = true) (hl : k < fs.length) (hws : ws.set q0 (a, .inr (ci, fs.set k v)) = ws') (hdg : decode cc pc = .ok (.putfield index, 3))
    (kk : ∀ (H : Heap) (locs : List Loc), gW g A s ws' H locs → W p l e R s m args below meth c H locs cells slots Q (F0 m (pc + 3) ls rest)) : W p l e R s m args below meth c H locs cells slots Q (F0 m pc ls (v :: .ref a :: rest)) := by
  obtain ⟨hx, hb, hr, hml, hown, hts, hlocks, hK, hA⟩ := C0
  obtain ⟨hP, hD, hS⟩ := hw
  obtain ⟨C, T, N, ty0, hc, hin, hk, hlink, hd1, hty, hnm, hfin, hd, hC⟩ := hf
  subst hws
  exact va_putF hx hb hts hin ty0 hty hnm hown hK.1 hP hD hS q0 he hc k hk (hts _ hlink) (fun x h => by rw [hd1] at h; exact h) hfin hin2 (hd1.trans hC) hd hn hfit hl hdg (fun H1 locs1 h1 h2 h3 => kk H1 locs1 ⟨h1, h2, h3⟩)
theorem hNewI (C0 : gX p s m args meth c cc nL ret own g A) (hw : gW g A s ws H locs) (harr : Cond.arrayClass .int ∈ gWs) {n : Int32} (N' : Nat) (hn : ¬ n < 0) (hN : n.toNatClampNeg = N') (hbytes : N' * componentBytes .int ≤ 536870912) (hcells : cells + 1 ≤ R.cells) (hslots : slots + N' ≤ R.slots) (hdg : decode cc pc = .ok (.newarray .int, 2))
    (kk : ∀ (q : Nat) (H : Heap), gW g A s (ws ++ [(q, .inl (gI g, N', .inl (fun _ => 0)))]) H locs → W p l e R s m args below meth c H locs (cells + 1) (slots + N') Q (F0 m (pc + 2) ls (.ref q :: rest))) : W p l e R s m args below meth c H locs cells slots Q (F0 m pc ls (.int n :: rest)) := by
  obtain ⟨hx, hb, hr, hml, hown, hts, hlocks, hK, hA⟩ := C0
  obtain ⟨hP, hD, hS⟩ := hw
  refine va_newa (atype := .int) (ty := .int) (a0 := (N', .inl (fun _ => 0))) hx hb (hts _ harr) rfl hK.1 hP hD hS hA (fun _ => rfl) hn hN hbytes hcells hslots hdg (fun q cA H1 hK1 h1 h2 h3 => ?_)
  have e1 : s.vm.findClass _ = some (gI g) := (hK.1.2 0 (gI g, .int) rfl).2
  have e2 : s.vm.findClass _ = some cA := (hK1.2 4 (cA, .int) rfl).2
  have e : cA = gI g := Option.some.inj (e2.symm.trans e1)
  subst e
  exact kk q H1 ⟨h1, h2, h3⟩
theorem hNewJ (C0 : gX p s m args meth c cc nL ret own g A) (hw : gW g A s ws H locs) (harr : Cond.arrayClass .long ∈ gWs) {n : Int32} (N' : Nat) (hn : ¬ n < 0) (hN : n.toNatClampNeg = N') (hbytes : N' * componentBytes .long ≤ 536870912) (hcells : cells + 1 ≤ R.cells) (hslots : slots + N' ≤ R.slots) (hdg : decode cc pc = .ok (.newarray .long, 2))
    (kk : ∀ (q : Nat) (H : Heap), gW g A s (ws ++ [(q, .inl (gJ g, N', .inr (.inl (fun _ => 0))))]) H locs → W p l e R s m args below meth c H locs (cells + 1) (slots + N') Q (F0 m (pc + 2) ls (.ref q :: rest))) : W p l e R s m args below meth c H locs cells slots Q (F0 m pc ls (.int n :: rest)) := by
  obtain ⟨hx, hb, hr, hml, hown, hts, hlocks, hK, hA⟩ := C0
  obtain ⟨hP, hD, hS⟩ := hw
  refine va_newa (atype := .long) (ty := .long) (a0 := (N', .inr (.inl (fun _ => 0)))) hx hb (hts _ harr) rfl hK.1 hP hD hS hA (fun _ => rfl) hn hN hbytes hcells hslots hdg (fun q cA H1 hK1 h1 h2 h3 => ?_)
  have e1 : s.vm.findClass _ = some (gJ g) := (hK.1.2 1 (gJ g, .long) rfl).2
  have e2 : s.vm.findClass _ = some cA := (hK1.2 4 (cA, .long) rfl).2
  have e : cA = gJ g := Option.some.inj (e2.symm.trans e1)
  subst e
  exact kk q H1 ⟨h1, h2, h3⟩
theorem hNewZ (C0 : gX p s m args meth c cc nL ret own g A) (hw : gW g A s ws H locs) (harr : Cond.arrayClass .boolean ∈ gWs) {n : Int32} (N' : Nat) (hn : ¬ n < 0) (hN : n.toNatClampNeg = N') (hbytes : N' * componentBytes .boolean ≤ 536870912) (hcells : cells + 1 ≤ R.cells) (hslots : slots + N' ≤ R.slots) (hdg : decode cc pc = .ok (.newarray .boolean, 2))
    (kk : ∀ (q : Nat) (H : Heap), gW g A s (ws ++ [(q, .inl (gZ g, N', .inl (fun _ => 0)))]) H locs → W p l e R s m args below meth c H locs (cells + 1) (slots + N') Q (F0 m (pc + 2) ls (.ref q :: rest))) : W p l e R s m args below meth c H locs cells slots Q (F0 m pc ls (.int n :: rest)) := by
  obtain ⟨hx, hb, hr, hml, hown, hts, hlocks, hK, hA⟩ := C0
  obtain ⟨hP, hD, hS⟩ := hw
  refine va_newa (atype := .boolean) (ty := .boolean) (a0 := (N', .inl (fun _ => 0))) hx hb (hts _ harr) rfl hK.1 hP hD hS hA (fun _ => rfl) hn hN hbytes hcells hslots hdg (fun q cA H1 hK1 h1 h2 h3 => ?_)
  have e1 : s.vm.findClass _ = some (gZ g) := (hK.1.2 2 (gZ g, .boolean) rfl).2
  have e2 : s.vm.findClass _ = some cA := (hK1.2 4 (cA, .boolean) rfl).2
  have e : cA = gZ g := Option.some.inj (e2.symm.trans e1)
  subst e
  exact kk q H1 ⟨h1, h2, h3⟩
theorem hNewL (C0 : gX p s m args meth c cc nL ret own g A) (hw : gW g A s ws H locs) (hover : va_AO "WallHands$Sheet" s) {index : Nat} (hcl : Cond.classLink own index "WallHands$Sheet" ∈ gWs) (hcells : cells + 1 ≤ R.cells) (hslots : slots + 4 ≤ R.slots) (hdg : decode cc pc = .ok (.anewarray index, 3))
    (kk : ∀ (q : Nat) (H : Heap), gW g A s (ws ++ [(q, .inl (gL g, 4, .inr (.inr (.inr (.inr (fun _ => none))))))]) H locs → W p l e R s m args below meth c H locs (cells + 1) (slots + 4) Q (F0 m (pc + 3) ls (.ref q :: rest))) : W p l e R s m args below meth c H locs cells slots Q (F0 m pc ls (.int 4 :: rest)) := by
  obtain ⟨hx, hb, hr, hml, hown, hts, hlocks, hK, hA⟩ := C0
  obtain ⟨hP, hD, hS⟩ := hw
  refine va_newq (C := "WallHands$Sheet") hx hb hown (hts _ hcl) hover hK.1 hP hD hS hA (by decide) rfl (by decide) hcells hslots hdg (fun q cA H1 hK1 h1 h2 h3 => ?_)
  obtain ⟨kA, comp, -, -, -, e1⟩ : ∃ (kA : Class) (comp : ClassId), _ ∧ _ ∧ _ ∧ _ := (hK.1.2 3 (gL g, .object "WallHands$Sheet") rfl).2
  obtain ⟨kA2, comp2, -, -, -, e2⟩ : ∃ (kA : Class) (comp : ClassId), _ ∧ _ ∧ _ ∧ _ := (hK1.2 4 (cA, .object "WallHands$Sheet") rfl).2
  have e : cA = gL g := Option.some.inj (e2.symm.trans e1)
  subst e
  exact kk q H1 ⟨h1, h2, h3⟩
theorem hNew (C0 : gX p s m args meth c cc nL ret own g A) (hw : gW g A s ws H locs) {C : String} {T : u_T} {N ci index : Nat} (hin : ∀ w ∈ u_ws C T N, w ∈ gWs) (ty : Nat → FieldType) (hty : ∀ k, k < N → parseFieldDescriptor (T k).2.2.1 = some (ty k)) (hcl : Cond.classLink own index C ∈ gWs) (hinst : Cond.instantiable C N ∈ gWs) (hini : Cond.initialized C ∈ gWs) (hc : vwCl[ci]? = some (C, T, N)) {fs : List Value} (hfs : ∀ j, j < N → defaultValue (ty j) = vp_V fs j) (hcells : cells + 1 ≤ R.cells) (hslots : slots + N ≤ R.slots) (hdg : decode cc pc = .ok (.new index, 3))
    (kk : ∀ (q : Nat) (H : Heap), gW g A s (ws ++ [(q, .inr (ci, fs))]) H locs → W p l e R s m args below meth c H locs (cells + 1) (slots + N) Q (F0 m (pc + 3) ls (.ref q :: rest))) : W p l e R s m args below meth c H locs cells slots Q (F0 m pc ls rest) := by
  obtain ⟨hx, hb, hr, hml, hown, hts, hlocks, hK, hA⟩ := C0
  obtain ⟨hP, hD, hS⟩ := hw
  exact va_new hx hb hts hin ty hty hown (hts _ hcl) (hts _ hinst) (hts _ hini) hK.1 hP hD hS hA hc hfs hcells hslots hdg (fun q H1 h1 h2 h3 => kk q H1 ⟨h1, h2, h3⟩)
def gLinkI (own : String) (index : Nat) (y : MethodName) (cb : ByteArray) (mL n : Nat) : Prop := Cond.methodLink own index y ∈ gWs ∧ Cond.instanceMethod y ∈ gWs ∧ Cond.initialized y.cls ∈ gWs ∧ Cond.code y cb mL none ∈ gWs ∧ gYok y n ∧ y.name = "<init>"
def gLinkIN (own : String) (index : Nat) (y : MethodName) (cb : ByteArray) (mL n : Nat) : Prop := (own, index, y, "WallHands") ∈ nestW ∧ Cond.instanceMethod y ∈ gWs ∧ Cond.initialized y.cls ∈ gWs ∧ Cond.code y cb mL none ∈ gWs ∧ gYok y n ∧ y.name = "<init>"
/-- a constructor's call: its cell is one of the world; what it makes stands behind -/
theorem hInitJ {x0 : va_E} {WS : (Nat → Nat) → va_W} {mc ms : Nat} {av : Array Value} {wr : va_W} (C0 : gX p s m args meth c cc nL ret own g A) (hw : gW g A s ws H locs) (hr : va_Run p l e R s m args below meth c H locs cells slots mc ms (F0 m pc ls st0) rest (va_Qv (fun (_ : Nat → Nat) => True) (fun u t => va_P g.1 vwCl (WS u) t.heap ∧ va_D (va_A [(a, x0)] H.size) (WS u)) (va_A [(a, x0)] H.size) av) (va_A [(a, x0)] H.size)) (k : Nat) (hC : ([k] : List Nat).map (fun i => ws[i]?) = ([(a, x0)] : va_W).map some) (isR : List Nat) (hR : isR.map (fun i => ws[i]?) = wr.map some) (hn : va_nd isR = true) (hdis : ∀ i ∈ isR, i ∉ ([k] : List Nat))
    (kk : ∀ (u : Nat → Nat) (H : Heap) (locs : List Loc), gW g A s (wr ++ WS u) H locs → W p l e R s m args below meth c H locs (cells + mc) (slots + ms) Q (F0 m (pc + 3) ls rest)) : W p l e R s m args below meth c H locs cells slots Q (F0 m pc ls st0) := by
  obtain ⟨hx, hb, hr0, hml, hown, hts, hlocks, hK, hA⟩ := C0
  obtain ⟨hP, hD, hS⟩ := hw
  have hF := va_free hD hS hA [k] hC
  refine va_callv hr hS (fun q _ h => hF q h) hF (fun u t H1 locs1 ht hvm hp hB hz hkk hS1 => ?_)
  have hP1 : va_P g.1 vwCl (WS u) H1 := by rw [← ht]; exact hB.1
  obtain ⟨h5, h6⟩ := va_join hP hD [k] isR hC hR hn hdis hkk hF hP1 hB.2
  exact kk u H1 locs1 ⟨h5, h6, hS1⟩
theorem hInit {x0 : va_E} {WS : (Nat → Nat) → va_W} {mc ms : Nat} {wr : va_W} (C0 : gX p s m args meth c cc nL ret own g A) (hw : gW g A s ws H locs) (hL : gLinkI own index y cb mL n) (hM : gMn l y cb mL rm g H.size (.ref a :: As) [(a, x0)] WS mc ms) (hrm : rm.cells = mc ∧ rm.slots = ms) (hRm : rm.frames + 1 ≤ R.frames ∧ 8 + (mL + 11) + rm.locals ≤ R.locals) (k : Nat) (hC : ([k] : List Nat).map (fun i => ws[i]?) = ([(a, x0)] : va_W).map some) (isR : List Nat) (hR : isR.map (fun i => ws[i]?) = wr.map some) (hn : va_nd isR = true) (hdis : ∀ i ∈ isR, i ∉ ([k] : List Nat)) (hAs : As.length = n) (hls : ls.size = nL) (hstk : st0 = As.reverse ++ .ref a :: rest) (hst : (rest.map fun v => v.category).sum ≤ 8) (hdg : decode cc pc = .ok (.invokespecial index, 3)) (hf : cells + mc ≤ R.cells ∧ slots + ms ≤ R.slots)
    (kk : ∀ (u : Nat → Nat) (H : Heap) (locs : List Loc), gW g A s (wr ++ WS u) H locs → W p l e R s m args below meth c H locs (cells + mc) (slots + ms) Q (F0 m (pc + 3) ls rest)) : W p l e R s m args below meth c H locs cells slots Q (F0 m pc ls st0) := by
  have hpre := gPreAt C0 hw [k] rfl hC
  obtain ⟨l1, l2, l4, l5, l6, l7⟩ := hL
  have C1 := C0
  obtain ⟨hx, hb, hr, hml, hown, hts, hlocks, hK, hA⟩ := C0
  exact hInitJ C1 hw (va_runI (n := n) (bytes := cb) (maxL := mL) ⟨hx, hb, hml, hown, hts⟩ hM ⟨callB_of n hts (gWs_good l5) rfl hrm.1 hrm.2 (hts _ l4) (hts _ l1) l6 hRm, l7, hts _ l2⟩ ⟨gPre.blind, fun U hU hW => ⟨rfl, hpre U hU hW⟩⟩ rfl hAs hls hstk (lv_room hst) hdg hf) k hC isR hR hn hdis kk
theorem hInitN {x0 : va_E} {WS : (Nat → Nat) → va_W} {mc ms : Nat} {wr : va_W} (C0 : gX p s m args meth c cc nL ret own g A) (hw : gW g A s ws H locs) (hL : gLinkIN own index y cb mL n) (hM : gMn l y cb mL rm g H.size (.ref a :: As) [(a, x0)] WS mc ms) (hrm : rm.cells = mc ∧ rm.slots = ms) (hRm : rm.frames + 1 ≤ R.frames ∧ 8 + (mL + 11) + rm.locals ≤ R.locals) (k : Nat) (hC : ([k] : List Nat).map (fun i => ws[i]?) = ([(a, x0)] : va_W).map some) (isR : List Nat) (hR : isR.map (fun i => ws[i]?) = wr.map some) (hn : va_nd isR = true) (hdis : ∀ i ∈ isR, i ∉ ([k] : List Nat)) (hAs : As.length = n) (hls : ls.size = nL) (hstk : st0 = As.reverse ++ .ref a :: rest) (hst : (rest.map fun v => v.category).sum ≤ 8) (hdg : decode cc pc = .ok (.invokespecial index, 3)) (hf : cells + mc ≤ R.cells ∧ slots + ms ≤ R.slots)
    (kk : ∀ (u : Nat → Nat) (H : Heap) (locs : List Loc), gW g A s (wr ++ WS u) H locs → W p l e R s m args below meth c H locs (cells + mc) (slots + ms) Q (F0 m (pc + 3) ls rest)) : W p l e R s m args below meth c H locs cells slots Q (F0 m pc ls st0) := by
  have hpre := gPreAt C0 hw [k] rfl hC
  obtain ⟨l1, l2, l4, l5, l6, l7⟩ := hL
  have C1 := C0
  obtain ⟨hx, hb, hr, hml, hown, hts, hlocks, hK, hA⟩ := C0
  exact hInitJ C1 hw (va_runIN (n := n) (bytes := cb) (maxL := mL) (host := "WallHands") ⟨hx, hb, hml, hown, hts⟩ hM ⟨va_cnB n hts (gWs_good l5) rfl hrm.1 hrm.2 (hK.2.1 _ l1) (hts _ l4) l6 hRm, l7, hts _ l2⟩ ⟨gPre.blind, fun U hU hW => ⟨rfl, hpre U hU hW⟩⟩ rfl hAs hls hstk (lv_room hst) hdg hf) k hC isR hR hn hdis kk
theorem hRet {WS : (Nat → Nat) → va_W} (C0 : gX p s m args meth c cc nL none own g A) (hw : gW g A s ws H locs) (u : Nat → Nat) (hu : WS u = ws) (hd : decode cc pc = .ok (.return_, 1)) : W p l e R s m args below meth c H locs cells slots (gQn below args s A g WS cells slots) (F0 m pc ls []) := by
  obtain ⟨hx, hb, hr, hml, hown, hts, hlocks, hK, hA⟩ := C0
  obtain ⟨hP, hD, hS⟩ := hw
  subst hu
  exact W.vret hx hb hr (fun t ht hW => ⟨⟨u, rfl, trivial, by rw [ht]; exact hP, hD⟩, hS.F ht⟩) hS.2.2 hd hlocks
theorem hEnter {y : MethodName} {cc : ByteArray} {maxL : Nat} {rm : Room} {sz : Nat} {av : List Value} {WS : (Nat → Nat) → va_W} {mc ms : Nat} (hy : plainName y.cls = true) (hlen : (lg_sl av).length ≤ maxL)
    (k : ∀ (p : Program) (e : Env) (s : State) (m : MethodId) (below : List Frame) (meth : Method) (c : Code) (A : Nat → Prop), gX p s m av.toArray meth c cc maxL none y.cls g A → meth.name = y.name → s.heap.size = sz → ∀ (H : Heap) (locs : List Loc), gW g A s ws H locs → ∀ ls : Array Slot, lv_has ls maxL (lv_args 0 av) → W p l e rm s m av.toArray below meth c H locs 0 0 (gQn below av.toArray s A g WS mc ms) (F0 m 0 ls [])) : gMn l y cc maxL rm g sz av ws WS mc ms := by
  refine Met.ofW (cc := cc) (maxL := maxL) (ret := none) hy rfl ?_
  intro p e s m args below meth c s₁ B hml hv
  obtain ⟨rfl, hsz, hP, hK, hD0⟩ := hv
  have hts0 := atoms_spec (ws := .code y cc maxL none :: gWs) B.pre
  subst hsz
  rw [lg_entry_eq]
  exact k p e s m below meth c (va_A ws s.heap.size) ⟨B.exec, B.bytes, B.returns, hml, findClass_of_methodNamed B.named, fun w hw => hts0 w (List.mem_cons_of_mem _ hw), B.notSynchronized, hK, fun q h => Or.inr h⟩ (name_of_methodNamed B.named B.method).1 rfl s.heap [] ⟨hP, hD0.self, va_S.rf⟩ _ (lv_entry av (n := maxL) hlen)
theorem hObj (C0 : gX p s m args meth c cc nL ret own g A) {idx : Nat} (h1 : Cond.methodLink own idx Lib.objectInit ∈ gWs) (h2 : Cond.instanceMethod Lib.objectInit ∈ gWs) (h3 : Cond.code Lib.objectInit ⟨#[0xb1]⟩ 1 none ∈ gWs) (hsz : ls.size = nL) {a : Addr} (hd : decode cc pc = .ok (.invokespecial idx, 3)) (hfr : 1 ≤ R.frames) (hlo : 12 ≤ R.locals)
    (kk : W p l e R s m args below meth c H locs cells slots Q (F0 m (pc + 3) ls [])) : W p l e R s m args below meth c H locs cells slots Q (F0 m pc ls [.ref a]) := by
  obtain ⟨hx, hb, hr, hml, hown, hts, hlocks, hK, hA⟩ := C0
  exact W.objInit hx hb hown (hts _ h1) (hts _ h2) (hts _ h3) rfl (by rw [hml]; exact hsz) rfl hd hfr hlo kk
theorem hRunV (C0 : gX p s m args meth c cc nL ret own g A) (hw : gW g A s ws H locs) (hL : gLinkV own index y cb mL rt n) (hM : Met l y (.code y cb mL rt :: gWs) rm (va_Pc (.ref a :: As) (gPre g H.size wc)) Qc 0 0 (va_A wc H.size)) (hrm : rm.cells = 0 ∧ rm.slots = 0) (hR : rm.frames + 1 ≤ R.frames ∧ 8 + (mL + 11) + rm.locals ≤ R.locals) (hcs : cells ≤ R.cells ∧ slots ≤ R.slots) (isC : List Nat) (hnd : va_nd isC = true) (hC : isC.map (fun i => ws[i]?) = wc.map some) (q0 : Nat) {ci N : Nat} {T : u_T} {fs : List Value} (he : ws[q0]? = some (a, .inr (ci, fs))) (hc : vwCl[ci]? = some (y.cls, T, N)) (hn : As.length = n) (hls : ls.size = nL) (hstk : st0 = As.reverse ++ .ref a :: rest) (hst : (rest.map fun v => v.category).sum ≤ 8) (hdg : decode cc pc = .ok (.invokevirtual index, 3)) :
    va_Run p l e R s m args below meth c H locs cells slots 0 0 (F0 m pc ls st0) rest (Qc (Value.ref a :: As).toArray) (va_A wc H.size) := by
  obtain ⟨l1, l2, l3, l4, l5, l6⟩ := hL
  have hpre := gPreAt C0 hw isC hnd hC
  obtain ⟨hx, hb, hr, hml, hown, hts, hlocks, hK, hA⟩ := C0
  exact va_runV (n := n) (bytes := cb) (maxL := mL) (ret := rt) (C := y.cls) ⟨hx, hb, hml, hown, hts⟩ hM ⟨callB_of n hts (gWs_good l5) rfl hrm.1 hrm.2 (hts _ l4) (hts _ l1) l6 hR, hts _ l2, hts _ l3⟩ ⟨gPre.blind, va_recv hK.1 hw.1 hc he, fun U hU hW => ⟨rfl, hpre U hU hW⟩⟩ rfl hn hls hstk (lv_room hst) hdg hcs
theorem hCalli (C0 : gX p s m args meth c cc nL ret own g A) (hw : gW g A s ws H locs) {av : Array Value} {r : Int32} (hr : va_Run p l e R s m args below meth c H locs cells slots 0 0 (F0 m pc ls st0) rest (va_Qi (fun v (_ : Unit) => v = r) (gB g w1) (va_A wc H.size) av) (va_A wc H.size)) (isC isR : List Nat) (h2 : isC.map (fun i => ws[i]?) = wc.map some) (h3 : isC.map (fun i => ws'[i]?) = w1.map some) (h4 : gSame ws ws' isR) (as : List Nat) (h1 : ws.map Prod.fst = as) (h1' : ws'.map Prod.fst = as) (nW : Nat) (hnW : ws.length = nW) (hn : (List.range nW).all (fun i => isC.contains i || isR.contains i) = true)
    (kk : ∀ (H : Heap) (locs : List Loc), gW g A s ws' H locs → W p l e R s m args below meth c H locs cells slots Q (F0 m (pc + 3) ls (.int r :: rest))) : W p l e R s m args below meth c H locs cells slots Q (F0 m pc ls st0) := by
  obtain ⟨hx, hb, hr0, hml, hown, hts, hlocks, hK, hA⟩ := C0
  obtain ⟨hP, hD, hS⟩ := hw
  have hF := va_free hD hS hA isC h2
  refine va_calli hr hS (fun q _ h => hF q h) hF (fun r1 u t H1 locs1 ht hvm hp hB hz hk hS1 => ?_)
  subst hp
  have hP1 : va_P g.1 vwCl w1 H1 := by rw [← ht]; exact hB
  obtain ⟨h5, h6⟩ := gJoin hP hD isC isR h2 h3 h4 (h1'.trans h1.symm) (by rw [hnW]; exact hn) hk hP1
  exact kk H1 locs1 ⟨h5, h6, hS1⟩
theorem hCalll (C0 : gX p s m args meth c cc nL ret own g A) (hw : gW g A s ws H locs) {av : Array Value} {r : Int64} (hr : va_Run p l e R s m args below meth c H locs cells slots 0 0 (F0 m pc ls st0) rest (va_Ql (fun v (_ : Unit) => v = r) (gB g w1) (va_A wc H.size) av) (va_A wc H.size)) (isC isR : List Nat) (h2 : isC.map (fun i => ws[i]?) = wc.map some) (h3 : isC.map (fun i => ws'[i]?) = w1.map some) (h4 : gSame ws ws' isR) (as : List Nat) (h1 : ws.map Prod.fst = as) (h1' : ws'.map Prod.fst = as) (nW : Nat) (hnW : ws.length = nW) (hn : (List.range nW).all (fun i => isC.contains i || isR.contains i) = true)
    (kk : ∀ (H : Heap) (locs : List Loc), gW g A s ws' H locs → W p l e R s m args below meth c H locs cells slots Q (F0 m (pc + 3) ls (.long r :: rest))) : W p l e R s m args below meth c H locs cells slots Q (F0 m pc ls st0) := by
  obtain ⟨hx, hb, hr0, hml, hown, hts, hlocks, hK, hA⟩ := C0
  obtain ⟨hP, hD, hS⟩ := hw
  have hF := va_free hD hS hA isC h2
  refine va_calll hr hS (fun q _ h => hF q h) hF (fun r1 u t H1 locs1 ht hvm hp hB hz hk hS1 => ?_)
  subst hp
  have hP1 : va_P g.1 vwCl w1 H1 := by rw [← ht]; exact hB
  obtain ⟨h5, h6⟩ := gJoin hP hD isC isR h2 h3 h4 (h1'.trans h1.symm) (by rw [hnW]; exact hn) hk hP1
  exact kk H1 locs1 ⟨h5, h6, hS1⟩
theorem gW_sub (hw : gW g A s ws H locs) (is : List Nat) (hnd : va_nd is = true) (hs : is.map (fun i => ws[i]?) = ws'.map some) : gW g A s ws' H locs := by
  obtain ⟨hP, hD, hS⟩ := hw
  refine ⟨fun k q hq => ?_, hD.sub is hnd hs, hS⟩
  obtain ⟨i, -, hi⟩ := gMapAt hs hq
  exact hP i q hi
theorem gW_fun (hw : gW g A s ws H locs) (k : Nat) {f f' : Nat → Option Nat} (he : ws[k]? = some (a, .inl (gL g, 4, .inr (.inr (.inr (.inr f)))))) (hf : ∀ j, j < 4 → f j = f' j) : gW g A s (ws.set k (a, .inl (gL g, 4, .inr (.inr (.inr (.inr f')))))) H locs := by
  obtain ⟨hP, hD, hS⟩ := hw
  have hk : k < ws.length := (List.getElem?_eq_some_iff.mp he).1
  have hcell : vp_cell (gL g) (4, .inr (.inr (.inr (.inr f)))) = vp_cell (gL g) (4, .inr (.inr (.inr (.inr f')))) := by
    show arrV (gL g) 4 (fun j => va_rf (f j)) = arrV (gL g) 4 (fun j => va_rf (f' j))
    unfold arrV
    congr 1
    apply Array.ext (by simp)
    intro i h1 h2
    simp only [Array.getElem_ofFn]
    rw [hf i (by simpa using h1)]
  have key : ∀ (i : Nat) (q : Nat × va_E), (ws.set k (a, .inl (gL g, 4, .inr (.inr (.inr (.inr f'))))))[i]? = some q → ∃ q', ws[i]? = some q' ∧ q'.1 = q.1 ∧ va_at g.1 vwCl q H := by
    intro i q hq
    by_cases e : i = k
    · subst e
      rw [List.getElem?_set_self hk] at hq
      have hq' := Option.some.inj hq
      subst hq'
      refine ⟨_, he, rfl, ?_⟩
      have h0 := hP i _ he
      show H[a]? = some (vp_cell (gL g) (4, .inr (.inr (.inr (.inr f')))))
      rw [← hcell]
      exact h0
    · rw [List.getElem?_set_ne (Ne.symm e)] at hq
      exact ⟨q, hq, rfl, hP i q hq⟩
  refine ⟨fun i q hq => (key i q hq).choose_spec.2.2, ⟨fun i j p q hi hj hpq => ?_, fun i q hq => ?_⟩, hS⟩
  · obtain ⟨p', h1, h2, -⟩ := key i p hi
    obtain ⟨q', h3, h4, -⟩ := key j q hj
    exact hD.1 i j p' q' h1 h3 (h2.trans (hpq.trans h4.symm))
  · obtain ⟨q', h1, h2, -⟩ := key i q hq
    rw [← h2]
    exact hD.2 i q' h1
/-! the class's own constructor: it makes a row of sheets -/
def gPreO (g : gG) (sz : Nat) (ws : va_W) : State → Prop := fun U => gPre g sz ws U ∧ va_AO "WallHands$Sheet" U
abbrev gMnO (l : Launch) (y : MethodName) (cc : ByteArray) (maxL : Nat) (rm : Room) (g : gG) (sz : Nat) (av : List Value) (ws : va_W) (WS : (Nat → Nat) → va_W) (mc ms : Nat) : Prop :=
  Met l y (.code y cc maxL none :: gWs) rm (va_Pc av (gPreO g sz ws)) (va_Qv (fun (_ : Nat → Nat) => True) (fun u t => va_P g.1 vwCl (WS u) t.heap ∧ va_D (va_A ws sz) (WS u)) (va_A ws sz)) mc ms (va_A ws sz)
theorem gPreO.blind {sz : Nat} {av : List Value} : FrameBlind (va_Pc av (gPreO g sz ws)) :=
  fun a U f mk q => by obtain ⟨q0, ⟨q1, qP, qK, qD⟩, qO⟩ := q; exact ⟨q0, ⟨q1, qP, qK.calling, qD⟩, va_AO.moved (Vm.Alike.refl U.vm) qO⟩
theorem hEnterO {y : MethodName} {cc : ByteArray} {maxL : Nat} {rm : Room} {sz : Nat} {av : List Value} {WS : (Nat → Nat) → va_W} {mc ms : Nat} (hy : plainName y.cls = true) (hlen : (lg_sl av).length ≤ maxL)
    (k : ∀ (p : Program) (e : Env) (s : State) (m : MethodId) (below : List Frame) (meth : Method) (c : Code) (A : Nat → Prop), gX p s m av.toArray meth c cc maxL none y.cls g A → meth.name = y.name → s.heap.size = sz → va_AO "WallHands$Sheet" s → ∀ (H : Heap) (locs : List Loc), gW g A s ws H locs → ∀ ls : Array Slot, lv_has ls maxL (lv_args 0 av) → W p l e rm s m av.toArray below meth c H locs 0 0 (gQn below av.toArray s A g WS mc ms) (F0 m 0 ls [])) : gMnO l y cc maxL rm g sz av ws WS mc ms := by
  refine Met.ofW (cc := cc) (maxL := maxL) (ret := none) hy rfl ?_
  intro p e s m args below meth c s₁ B hml hv
  obtain ⟨rfl, ⟨hsz, hP, hK, hD0⟩, hO⟩ := hv
  have hts0 := atoms_spec (ws := .code y cc maxL none :: gWs) B.pre
  subst hsz
  rw [lg_entry_eq]
  exact k p e s m below meth c (va_A ws s.heap.size) ⟨B.exec, B.bytes, B.returns, hml, findClass_of_methodNamed B.named, fun w hw => hts0 w (List.mem_cons_of_mem _ hw), B.notSynchronized, hK, fun q h => Or.inr h⟩ (name_of_methodNamed B.named B.method).1 rfl hO s.heap [] ⟨hP, hD0.self, va_S.rf⟩ _ (lv_entry av (n := maxL) hlen)
theorem hInitO {x0 : va_E} {WS : (Nat → Nat) → va_W} {mc ms : Nat} {wr : va_W} (C0 : gX p s m args meth c cc nL ret own g A) (hO : va_AO "WallHands$Sheet" s) (hw : gW g A s ws H locs) (hL : gLinkI own index y cb mL n) (hM : gMnO l y cb mL rm g H.size (.ref a :: As) [(a, x0)] WS mc ms) (hrm : rm.cells = mc ∧ rm.slots = ms) (hRm : rm.frames + 1 ≤ R.frames ∧ 8 + (mL + 11) + rm.locals ≤ R.locals) (k : Nat) (hC : ([k] : List Nat).map (fun i => ws[i]?) = ([(a, x0)] : va_W).map some) (isR : List Nat) (hR : isR.map (fun i => ws[i]?) = wr.map some) (hn : va_nd isR = true) (hdis : ∀ i ∈ isR, i ∉ ([k] : List Nat)) (hAs : As.length = n) (hls : ls.size = nL) (hstk : st0 = As.reverse ++ .ref a :: rest) (hst : (rest.map fun v => v.category).sum ≤ 8) (hdg : decode cc pc = .ok (.invokespecial index, 3)) (hf : cells + mc ≤ R.cells ∧ slots + ms ≤ R.slots)
    (kk : ∀ (u : Nat → Nat) (H : Heap) (locs : List Loc), gW g A s (wr ++ WS u) H locs → W p l e R s m args below meth c H locs (cells + mc) (slots + ms) Q (F0 m (pc + 3) ls rest)) : W p l e R s m args below meth c H locs cells slots Q (F0 m pc ls st0) := by
  have hpre := gPreAt C0 hw [k] rfl hC
  obtain ⟨l1, l2, l4, l5, l6, l7⟩ := hL
  have C1 := C0
  obtain ⟨hx, hb, hr, hml, hown, hts, hlocks, hK, hA⟩ := C0
  exact hInitJ C1 hw (va_runI (n := n) (bytes := cb) (maxL := mL) ⟨hx, hb, hml, hown, hts⟩ hM ⟨callB_of n hts (gWs_good l5) rfl hrm.1 hrm.2 (hts _ l4) (hts _ l1) l6 hRm, l7, hts _ l2⟩ ⟨gPreO.blind, fun U hU hW => ⟨rfl, hpre U hU hW, va_AO.moved hW.alike hO⟩⟩ rfl hAs hls hstk (lv_room hst) hdg hf) k hC isR hR hn hdis kk
end Rw
