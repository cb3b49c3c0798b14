/-! WORDS: the tables' good words, one list for all methods -/
def gWs : List Cond := lw_tbl.filter goodWord
theorem gWs_word (w : Cond) (h : w ∈ gWs) : (w.onTables && w.keeps) = true ∨ ∃ ty, w = .arrayClass ty := good_of_word (List.mem_filter.mp h).2
theorem gIn {w : Cond} (i : Nat) (h : lw_tbl[i]? = some w) (hg : goodWord w = true) : w ∈ gWs := List.mem_filter.mpr ⟨List.mem_of_getElem? h, hg⟩
theorem gIns {ws : List Cond} (h : ∀ w ∈ ws, w ∈ lw_tbl) (hg : ws.all goodWord = true) : ∀ w ∈ ws, w ∈ gWs := fun w hw => List.mem_filter.mpr ⟨h w hw, List.all_eq_true.mp hg w hw⟩
theorem gWs_tbl {w : Cond} (h : w ∈ gWs) : w ∈ lw_tbl := (List.mem_filter.mp h).1
/-- links between nest mates: they are carried beside the words -/
abbrev gNest : Type := String × Nat × MethodName × String
def nestW : List gNest := [("WallHands", 23, ⟨"WallHands$Wall", "<init>", "()V"⟩, "WallHands"), ("WallHands", 30, ⟨"WallHands$Hands", "<init>", "()V"⟩, "WallHands"), ("WallHands", 37, ⟨"WallHands$Frosts", "<init>", "()V"⟩, "WallHands"), ("WallHands", 47, ⟨"WallHands$Gappings", "<init>", "()V"⟩, "WallHands"), ("WallHands", 54, ⟨"WallHands$Sights", "<init>", "()V"⟩, "WallHands"), ("WallHands", 89, ⟨"WallHands$Sheet", "<init>", "()V"⟩, "WallHands"), ("WallHands$Wall", 51, ⟨"WallHands", "within", "(III)Z"⟩, "WallHands"), ("WallHands$Hands", 25, ⟨"WallHands", "within", "(III)Z"⟩, "WallHands"), ("WallHands$Frosts", 18, ⟨"WallHands", "isYear", "(I)Z"⟩, "WallHands"), ("WallHands$Frosts", 22, ⟨"WallHands", "within", "(III)Z"⟩, "WallHands"), ("WallHands$Years", 49, ⟨"WallHands", "union", "([J)J"⟩, "WallHands"), ("WallHands$Years", 112, ⟨"WallHands", "besideAtLeast", "(JI)J"⟩, "WallHands"), ("WallHands$Years", 91, ⟨"WallHands", "borneOf", "(J)J"⟩, "WallHands"), ("WallHands$Years", 147, ⟨"WallHands", "setterAt", "([JII)I"⟩, "WallHands"), ("WallHands$Years", 155, ⟨"WallHands", "isAt", "(JI)Z"⟩, "WallHands"), ("WallHands$Sheet", 22, ⟨"WallHands", "within", "(III)Z"⟩, "WallHands")]
abbrev gNw (q : gNest) (U : State) : Prop := va_Nw (.methodLinkNest q.1 q.2.1 q.2.2.1 q.2.2.2) U

/-! WALKS: what stays the same over a method's body; what holds at a point of it -/
abbrev gG : Type := va_G × ClassId × ClassId × ClassId × ClassId × Nat × Nat
-- array classes: int, long, boolean, Sheet; the String constant and its bytes
abbrev gI (g : gG) : ClassId := g.2.1
abbrev gJ (g : gG) : ClassId := g.2.2.1
abbrev gZ (g : gG) : ClassId := g.2.2.2.1
abbrev gL (g : gG) : ClassId := g.2.2.2.2.1
abbrev gSK (g : gG) : Nat := g.2.2.2.2.2.1
abbrev gSV (g : gG) : Nat := g.2.2.2.2.2.2
def gT (g : gG) : List (ClassId × FieldType) := [(gI g, .int), (gJ g, .long), (gZ g, .boolean), (gL g, .object "WallHands$Sheet")]
def gStr (g : gG) (A : Nat → Prop) (U : State) (H : Heap) : Prop := vk_R "WallHands$Hands" 38 "ptls" (gSK g) U ∧ vk_S 1 [4] [[112, 116, 108, 115]] (fun _ => gSK g) (fun _ => gSV g) A U H ∧ va_Z "java/lang/String" "COMPACT_STRINGS" "Z" (.int 1) A U H
def gK (g : gG) (A : Nat → Prop) (U : State) (H : Heap) : Prop := va_K g.1 vwCl (gT g) U ∧ (∀ q ∈ nestW, gNw q U) ∧ gStr g A U H
def gX (p : Program) (s : State) (m : MethodId) (args : Array Value) (meth : Method) (c : Code) (cc : ByteArray) (nL : Nat) (ret : Option FieldType) (own : String) (g : gG) (A : Nat → Prop) : Prop :=
  p.tables.exec = Jvm.exec ∧ c.code = cc ∧ meth.sig.returnType = ret ∧ c.maxLocals = nL ∧ s.vm.findClass own = some m.cls ∧ (∀ w ∈ gWs, w.before args s = true) ∧ meth.locks = false ∧ gK g A s s.heap ∧ (∀ q, s.heap.size ≤ q → A q)
def gW (g : gG) (A : Nat → Prop) (s : State) (ws : va_W) (H : Heap) (locs : List Loc) : Prop := va_P g.1 vwCl ws H ∧ va_D A ws ∧ va_S A s.heap H locs
def gPre (g : gG) (sz : Nat) (ws : va_W) : State → Prop := fun U => U.heap.size = sz ∧ va_P g.1 vwCl ws U.heap ∧ gK g (va_A ws sz) U U.heap ∧ va_D (fun _ => True) ws
def gB (g : gG) (ws' : va_W) : Unit → State → Prop := fun _ t => va_P g.1 vwCl ws' t.heap
def gBr (g : gG) (ra : Nat) (ws' : va_W) : Unit → Nat → State → Prop := fun _ a t => a = ra ∧ va_P g.1 vwCl ws' t.heap
abbrev gMi (l : Launch) (y : MethodName) (cc : ByteArray) (maxL : Nat) (ret : Option FieldType) (rm : Room) (g : gG) (sz : Nat) (av : List Value) (ws : va_W) (r : Int32) (ws' : va_W) : Prop :=
  Met l y (.code y cc maxL ret :: gWs) rm (va_Pc av (gPre g sz ws)) (va_Qi (fun v (_ : Unit) => v = r) (gB g ws') (va_A ws sz)) 0 0 (va_A ws sz)
abbrev gMl (l : Launch) (y : MethodName) (cc : ByteArray) (maxL : Nat) (ret : Option FieldType) (rm : Room) (g : gG) (sz : Nat) (av : List Value) (ws : va_W) (r : Int64) (ws' : va_W) : Prop :=
  Met l y (.code y cc maxL ret :: gWs) rm (va_Pc av (gPre g sz ws)) (va_Ql (fun v (_ : Unit) => v = r) (gB g ws') (va_A ws sz)) 0 0 (va_A ws sz)
abbrev gMv (l : Launch) (y : MethodName) (cc : ByteArray) (maxL : Nat) (ret : Option FieldType) (rm : Room) (g : gG) (sz : Nat) (av : List Value) (ws : va_W) (ws' : va_W) : Prop :=
  Met l y (.code y cc maxL ret :: gWs) rm (va_Pc av (gPre g sz ws)) (va_Qv (fun (_ : Unit) => True) (gB g ws') (va_A ws sz)) 0 0 (va_A ws sz)
abbrev gMr (l : Launch) (y : MethodName) (cc : ByteArray) (maxL : Nat) (ret : Option FieldType) (rm : Room) (g : gG) (sz : Nat) (av : List Value) (ws : va_W) (ra : Nat) (ws' : va_W) : Prop :=
  Met l y (.code y cc maxL ret :: gWs) rm (va_Pc av (gPre g sz ws)) (va_Qr (fun (_ : Unit) => True) (gBr g ra ws') (va_A ws sz)) 0 0 (va_A ws sz)
abbrev gQi (below : List Frame) (args : Array Value) (s : State) (A : Nat → Prop) (g : gG) (r : Int32) (ws' : va_W) : State → Prop := MQ below (va_Qi (fun v (_ : Unit) => v = r) (gB g ws') A) args s 0 0 A
abbrev gQl (below : List Frame) (args : Array Value) (s : State) (A : Nat → Prop) (g : gG) (r : Int64) (ws' : va_W) : State → Prop := MQ below (va_Ql (fun v (_ : Unit) => v = r) (gB g ws') A) args s 0 0 A
abbrev gQv (below : List Frame) (args : Array Value) (s : State) (A : Nat → Prop) (g : gG) (ws' : va_W) : State → Prop := MQ below (va_Qv (fun (_ : Unit) => True) (gB g ws') A) args s 0 0 A
abbrev gQr (below : List Frame) (args : Array Value) (s : State) (A : Nat → Prop) (g : gG) (ra : Nat) (ws' : va_W) : State → Prop := MQ below (va_Qr (fun (_ : Unit) => True) (gBr g ra ws') A) args s 0 0 A
/-- a field, as one class's pool links it -/
def gFld (own : String) (index ci k : Nat) : Prop := ∃ (C : String) (T : u_T) (N : Nat), vwCl[ci]? = some (C, T, N) ∧ (∀ w ∈ u_ws C T N, w ∈ gWs) ∧ k < N ∧ Cond.fieldLink own index C (T k).2.1 (T k).2.2.1 ∈ gWs ∧ (T k).1 = C
def gFldP (own : String) (index ci k : Nat) (ty : FieldType) : Prop := ∃ (C : String) (T : u_T) (N : Nat) (ty0 : Nat → FieldType), vwCl[ci]? = some (C, T, N) ∧ (∀ w ∈ u_ws C T N, w ∈ gWs) ∧ k < N ∧ Cond.fieldLink own index C (T k).2.1 (T k).2.2.1 ∈ gWs ∧ (T k).1 = C ∧ (∀ k, k < N → parseFieldDescriptor (T k).2.2.1 = some (ty0 k)) ∧ (∀ a, a < N → ∀ b, b < N → a ≠ b → (T a).2.1 ≠ (T b).2.1) ∧ (T k).2.2.2 = false ∧ parseFieldDescriptor (T k).2.2.1 = some ty
def gYok (y : MethodName) (n : Nat) : Prop := y.cls ≠ "java/lang/invoke/MethodHandle" ∧ y.cls ≠ "java/lang/invoke/VarHandle" ∧ (parseMethodDescriptor y.desc).map (fun d => d.parameters.length) = some n
/-- a method, as one class's pool links it: virtual, static, static of a nest mate -/
def gLinkV (own : String) (index : Nat) (y : MethodName) (cb : ByteArray) (mL : Nat) (rt : Option FieldType) (n : Nat) : Prop := Cond.methodLink own index y ∈ gWs ∧ Cond.instanceMethod y ∈ gWs ∧ Cond.selects y.cls y y ∈ gWs ∧ Cond.initialized y.cls ∈ gWs ∧ Cond.code y cb mL rt ∈ gWs ∧ gYok y n
def gLinkS (own : String) (index : Nat) (y : MethodName) (cb : ByteArray) (mL : Nat) (rt : Option FieldType) (n : Nat) : Prop := Cond.methodLink own index y ∈ gWs ∧ Cond.static y ∈ gWs ∧ Cond.initialized y.cls ∈ gWs ∧ Cond.code y cb mL rt ∈ gWs ∧ gYok y n
def gLinkN (own : String) (index : Nat) (y : MethodName) (cb : ByteArray) (mL : Nat) (rt : Option FieldType) (n : Nat) : Prop := (own, index, y, "WallHands") ∈ nestW ∧ Cond.static y ∈ gWs ∧ Cond.initialized y.cls ∈ gWs ∧ Cond.code y cb mL rt ∈ gWs ∧ gYok y n
def mmax (x y : Int32) : Int32 := if x < y then y else x
def mmin (x y : Int32) : Int32 := if y < x then y else x
def g4 (a b c d : Nat) : Nat → Option Nat := fun k => match k with
  | 0 => some a
  | 1 => some b
  | 2 => some c
  | 3 => some d
  | _ => none
/-- which of two cells a method answers -/
def gP (r a b : Nat) : Nat := if r = 0 then a else b
theorem gPick {r a b : Nat} (h : r = 0) : gP r a b = a := if_pos h
theorem gPickN {r a b : Nat} (h : ¬ r = 0) : gP r a b = b := if_neg h
/-- the String constant's bytes -/
def ptlsB : Nat → Int32 := fun j => ([112, 116, 108, 115] : List Int32).getD j 0
section GB
variable {p : Program} {l : Launch} {e : Env} {R : Room} {s : State} {m : MethodId} {args : Array Value} {below : List Frame} {meth : Method} {c : Code} {H : Heap} {locs : List Loc} {Q : State → Prop} {cc : ByteArray} {nL : Nat} {ret : Option FieldType} {own : String} {g : gG} {A : Nat → Prop} {pc : Nat} {ls : Array Slot} {rest : List Value} {ws ws' : va_W} {a : Nat}
theorem gRetI (C0 : gX p s m args meth c cc nL (some .int) own g A) (hw : gW g A s ws H locs) {v : Int32} (hd : decode cc pc = .ok (.ireturn, 1)) : W p l e R s m args below meth c H locs 0 0 (gQi below args s A g v ws) (F0 m pc ls [.int v]) := by
  obtain ⟨hx, hb, hr, hml, hown, hts, hlocks, hK, hA⟩ := C0
  obtain ⟨hP, hD, hS⟩ := hw
  exact W.iret (v := v) hx hb hr (fun t ht hW => ⟨⟨v, (), rfl, rfl, by unfold gB; rw [ht]; exact hP⟩, hS.F ht⟩) hS.2.2 hd hlocks
theorem gRetZ (C0 : gX p s m args meth c cc nL (some .boolean) own g A) (hw : gW g A s ws H locs) {v : Int32} (hn : narrow .boolean (.int v) = .int v) (hd : decode cc pc = .ok (.ireturn, 1)) : W p l e R s m args below meth c H locs 0 0 (gQi below args s A g v ws) (F0 m pc ls [.int v]) := by
  obtain ⟨hx, hb, hr, hml, hown, hts, hlocks, hK, hA⟩ := C0
  obtain ⟨hP, hD, hS⟩ := hw
  exact W.zret (v := v) hx hb hr hn (fun t ht hW => ⟨⟨v, (), rfl, rfl, by unfold gB; rw [ht]; exact hP⟩, hS.F ht⟩) hS.2.2 hd hlocks
theorem gRetBy (C0 : gX p s m args meth c cc nL (some .byte) own g A) (hw : gW g A s ws H locs) {v : Int32} (hn : narrow .byte (.int v) = .int v) (hd : decode cc pc = .ok (.ireturn, 1)) : W p l e R s m args below meth c H locs 0 0 (gQi below args s A g v ws) (F0 m pc ls [.int v]) := by
  obtain ⟨hx, hb, hr, hml, hown, hts, hlocks, hK, hA⟩ := C0
  obtain ⟨hP, hD, hS⟩ := hw
  exact W.zret (v := v) hx hb hr hn (fun t ht hW => ⟨⟨v, (), rfl, rfl, by unfold gB; rw [ht]; exact hP⟩, hS.F ht⟩) hS.2.2 hd hlocks
theorem gRetL (C0 : gX p s m args meth c cc nL (some .long) own g A) (hw : gW g A s ws H locs) {v : Int64} (hd : decode cc pc = .ok (.lreturn, 1)) : W p l e R s m args below meth c H locs 0 0 (gQl below args s A g v ws) (F0 m pc ls [.long v]) := by
  obtain ⟨hx, hb, hr, hml, hown, hts, hlocks, hK, hA⟩ := C0
  obtain ⟨hP, hD, hS⟩ := hw
  exact W.lret (v := v) hx hb hr (fun t ht hW => ⟨⟨v, (), rfl, rfl, by unfold gB; rw [ht]; exact hP⟩, hS.F ht⟩) hS.2.2 hd hlocks
theorem gRetV (C0 : gX p s m args meth c cc nL none own g A) (hw : gW g A s ws H locs) (hd : decode cc pc = .ok (.return_, 1)) : W p l e R s m args below meth c H locs 0 0 (gQv below args s A g ws) (F0 m pc ls []) := by
  obtain ⟨hx, hb, hr, hml, hown, hts, hlocks, hK, hA⟩ := C0
  obtain ⟨hP, hD, hS⟩ := hw
  exact W.vret hx hb hr (fun t ht hW => ⟨⟨(), rfl, trivial, by unfold gB; rw [ht]; exact hP⟩, hS.F ht⟩) hS.2.2 hd hlocks
theorem gRetR {C : String} (C0 : gX p s m args meth c cc nL (some (.object C)) own g A) (hw : gW g A s ws H locs) {v : Nat} (hd : decode cc pc = .ok (.areturn, 1)) : W p l e R s m args below meth c H locs 0 0 (gQr below args s A g v ws) (F0 m pc ls [.ref v]) := by
  obtain ⟨hx, hb, hr, hml, hown, hts, hlocks, hK, hA⟩ := C0
  obtain ⟨hP, hD, hS⟩ := hw
  exact W.aret (v := .ref v) hx hb hr (Or.inl ⟨C, rfl⟩) (Or.inr ⟨v, rfl⟩) (fun t ht hW => ⟨⟨(), v, rfl, trivial, rfl, by rw [ht]; exact hP⟩, hS.F ht⟩) hS.2.2 hd hlocks
theorem gGet (C0 : gX p s m args meth c cc nL ret own g A) (hw : gW g A s ws H locs) {ci k index : Nat} (hf : gFld own index ci k) (q0 : Nat) {fs : List Value} {v : Value} (he : ws[q0]? = some (a, .inr (ci, fs))) (hv : fs[k]? = some v) (hdg : decode cc pc = .ok (.getfield index, 3))
    (kk : W p l e R s m args below meth c H locs 0 0 Q (F0 m (pc + 3) ls (v :: rest))) : W p l e R s m args below meth c H locs 0 0 Q (F0 m pc ls (.ref a :: rest)) := by
  obtain ⟨hx, hb, hr, hml, hown, hts, hlocks, hK, hA⟩ := C0
  obtain ⟨hP, hD, hS⟩ := hw
  obtain ⟨C, T, N, hc, hin, hk, hlink, hd1⟩ := hf
  exact va_get hx hb hts hin hown hK.1 hP q0 he hc k hk (hts _ hlink) (fun x h => by rw [hd1] at h; exact h) hv hdg kk
theorem gPut (C0 : gX p s m args meth c cc nL ret own g A) (hw : gW g A s ws H locs) {ci k index : Nat} {ty : FieldType} (hf : gFldP own index ci k ty) (q0 : Nat) {fs : List Value} {v : Value} (he : ws[q0]? = some (a, .inr (ci, fs))) (hn : narrow ty v = v) (hfit : fits ty v = true) (hl : k < fs.length) (hws : ws.set q0 (a, .inr (ci, fs.set k v)) = ws') (hdg : decode cc pc = .ok (.putfield index, 3))
    (kk : ∀ (H : Heap) (locs : List Loc), gW g A s ws' H locs → W p l e R s m args below meth c H locs 0 0 Q (F0 m (pc + 3) ls rest)) : W p l e R s m args below meth c H locs 0 0 Q (F0 m pc ls (v :: .ref a :: rest)) := by
  obtain ⟨hx, hb, hr, hml, hown, hts, hlocks, hK, hA⟩ := C0
  obtain ⟨hP, hD, hS⟩ := hw
  obtain ⟨C, T, N, ty0, hc, hin, hk, hlink, hd1, hty, hnm, hfin, hd⟩ := hf
  subst hws
  exact va_put hx hb hts hin ty0 hty hnm hown hK.1 hP hD hS q0 he hc k hk (hts _ hlink) (fun x h => by rw [hd1] at h; exact h) hfin hd hn hfit hl hdg (fun H1 locs1 h1 h2 h3 => kk H1 locs1 ⟨h1, h2, h3⟩)
theorem gAldI (C0 : gX p s m args meth c cc nL ret own g A) (hw : gW g A s ws H locs) (q0 : Nat) {n : Nat} {f : Nat → Int32} (he : ws[q0]? = some (a, .inl (gI g, n, .inl f))) {i : Int32} (hin : vp_in i n) (hdg : decode cc pc = .ok (.iaload, 1))
    (kk : W p l e R s m args below meth c H locs 0 0 Q (F0 m (pc + 1) ls (.int (f i.toNatClampNeg) :: rest))) : W p l e R s m args below meth c H locs 0 0 Q (F0 m pc ls (.int i :: .ref a :: rest)) := by
  obtain ⟨hx, hb, hr, hml, hown, hts, hlocks, hK, hA⟩ := C0
  exact va_iald hx hb hK.1 hw.1 q0 0 he rfl hin hdg kk
theorem gAldZ (C0 : gX p s m args meth c cc nL ret own g A) (hw : gW g A s ws H locs) (q0 : Nat) {n : Nat} {f : Nat → Int32} (he : ws[q0]? = some (a, .inl (gZ g, n, .inl f))) {i : Int32} (hin : vp_in i n) (hdg : decode cc pc = .ok (.baload, 1))
    (kk : W p l e R s m args below meth c H locs 0 0 Q (F0 m (pc + 1) ls (.int (f i.toNatClampNeg) :: rest))) : W p l e R s m args below meth c H locs 0 0 Q (F0 m pc ls (.int i :: .ref a :: rest)) := by
  obtain ⟨hx, hb, hr, hml, hown, hts, hlocks, hK, hA⟩ := C0
  exact va_zald hx hb hK.1 hw.1 q0 2 he rfl hin hdg kk
theorem gAldJ (C0 : gX p s m args meth c cc nL ret own g A) (hw : gW g A s ws H locs) (q0 : Nat) {n : Nat} {f : Nat → Int64} (he : ws[q0]? = some (a, .inl (gJ g, n, .inr (.inl f)))) {i : Int32} (hin : vp_in i n) (hdg : decode cc pc = .ok (.laload, 1))
    (kk : W p l e R s m args below meth c H locs 0 0 Q (F0 m (pc + 1) ls (.long (f i.toNatClampNeg) :: rest))) : W p l e R s m args below meth c H locs 0 0 Q (F0 m pc ls (.int i :: .ref a :: rest)) := by
  obtain ⟨hx, hb, hr, hml, hown, hts, hlocks, hK, hA⟩ := C0
  exact va_lald hx hb hK.1 hw.1 q0 1 he rfl hin hdg kk
theorem gAldL (C0 : gX p s m args meth c cc nL ret own g A) (hw : gW g A s ws H locs) (q0 : Nat) {f : Nat → Option Nat} {b : Nat} (he : ws[q0]? = some (a, .inl (gL g, 4, .inr (.inr (.inr (.inr f)))))) {i j : Int32} (hij : i = j) (hin : vp_in j 4) (hb0 : f j.toNatClampNeg = some b) (hdg : decode cc pc = .ok (.aaload, 1))
    (kk : W p l e R s m args below meth c H locs 0 0 Q (F0 m (pc + 1) ls (.ref b :: rest))) : W p l e R s m args below meth c H locs 0 0 Q (F0 m pc ls (.int i :: .ref a :: rest)) := by
  obtain ⟨hx, hb, hr, hml, hown, hts, hlocks, hK, hA⟩ := C0
  subst hij
  exact va_aldq (C := "WallHands$Sheet") hx hb hK.1 hw.1 q0 3 he rfl hin hdg (by rw [hb0]; exact kk)
theorem gAstI (C0 : gX p s m args meth c cc nL ret own g A) (hw : gW g A s ws H locs) (q0 : Nat) {n : Nat} {f : Nat → Int32} (he : ws[q0]? = some (a, .inl (gI g, n, .inl f))) {i x : Int32} (hin : vp_in i n) (hws : ws.set q0 (a, .inl (gI g, n, .inl (upd f i.toNatClampNeg x))) = ws') (hdg : decode cc pc = .ok (.iastore, 1))
    (kk : ∀ (H : Heap) (locs : List Loc), gW g A s ws' H locs → W p l e R s m args below meth c H locs 0 0 Q (F0 m (pc + 1) ls rest)) : W p l e R s m args below meth c H locs 0 0 Q (F0 m pc ls (.int x :: .int i :: .ref a :: rest)) := by
  obtain ⟨hx, hb, hr, hml, hown, hts, hlocks, hK, hA⟩ := C0
  subst hws
  exact va_iast hx hb hK.1 hw.1 hw.2.1 hw.2.2 q0 0 he rfl hin hdg (fun H1 locs1 h1 h2 h3 => kk H1 locs1 ⟨h1, h2, h3⟩)
theorem gAstZ (C0 : gX p s m args meth c cc nL ret own g A) (hw : gW g A s ws H locs) (q0 : Nat) {n : Nat} {f : Nat → Int32} (he : ws[q0]? = some (a, .inl (gZ g, n, .inl f))) {i x : Int32} (hin : vp_in i n) (hws : ws.set q0 (a, .inl (gZ g, n, .inl (upd f i.toNatClampNeg (vp_nar .boolean x)))) = ws') (hdg : decode cc pc = .ok (.bastore, 1))
    (kk : ∀ (H : Heap) (locs : List Loc), gW g A s ws' H locs → W p l e R s m args below meth c H locs 0 0 Q (F0 m (pc + 1) ls rest)) : W p l e R s m args below meth c H locs 0 0 Q (F0 m pc ls (.int x :: .int i :: .ref a :: rest)) := by
  obtain ⟨hx, hb, hr, hml, hown, hts, hlocks, hK, hA⟩ := C0
  subst hws
  exact va_zast hx hb hK.1 hw.1 hw.2.1 hw.2.2 q0 2 he rfl hin hdg (fun H1 locs1 h1 h2 h3 => kk H1 locs1 ⟨h1, h2, h3⟩)
theorem gAstJ (C0 : gX p s m args meth c cc nL ret own g A) (hw : gW g A s ws H locs) (q0 : Nat) {n : Nat} {f : Nat → Int64} (he : ws[q0]? = some (a, .inl (gJ g, n, .inr (.inl f)))) {i : Int32} {x : Int64} (hin : vp_in i n) (hws : ws.set q0 (a, .inl (gJ g, n, .inr (.inl (vp_updL f i.toNatClampNeg x)))) = ws') (hdg : decode cc pc = .ok (.lastore, 1))
    (kk : ∀ (H : Heap) (locs : List Loc), gW g A s ws' H locs → W p l e R s m args below meth c H locs 0 0 Q (F0 m (pc + 1) ls rest)) : W p l e R s m args below meth c H locs 0 0 Q (F0 m pc ls (.long x :: .int i :: .ref a :: rest)) := by
  obtain ⟨hx, hb, hr, hml, hown, hts, hlocks, hK, hA⟩ := C0
  subst hws
  exact va_last hx hb hK.1 hw.1 hw.2.1 hw.2.2 q0 1 he rfl hin hdg (fun H1 locs1 h1 h2 h3 => kk H1 locs1 ⟨h1, h2, h3⟩)
theorem gLen (C0 : gX p s m args meth c cc nL ret own g A) (hw : gW g A s ws H locs) (q0 t0 : Nat) {cA : ClassId} {n : Nat} {f : (Nat → Int32) ⊕ (Nat → Int64) ⊕ (Nat → UInt32) ⊕ (Nat → UInt64) ⊕ (Nat → Option Nat)} {ty : FieldType} (he : ws[q0]? = some (a, .inl (cA, n, f))) (ht : (gT g)[t0]? = some (cA, ty)) (hdg : decode cc pc = .ok (.arraylength, 1))
    (kk : W p l e R s m args below meth c H locs 0 0 Q (F0 m (pc + 1) ls (.int (Int32.ofNat n) :: rest))) : W p l e R s m args below meth c H locs 0 0 Q (F0 m pc ls (.ref a :: rest)) := by
  obtain ⟨hx, hb, hr, hml, hown, hts, hlocks, hK, hA⟩ := C0
  exact va_alen hx hb hK.1 hw.1 q0 t0 he ht rfl hdg kk
theorem gMax (C0 : gX p s m args meth c cc nL ret own g A) (hsz : ls.size = nL) {index : Nat} (h1 : Cond.methodLink own index Lib.Math.max.name ∈ gWs) (h2 : Cond.static Lib.Math.max.name ∈ gWs) (h3 : Cond.initialized "java/lang/Math" ∈ gWs) (h4 : Cond.code Lib.Math.max.name Lib.Math.max.code 2 (some .int) ∈ gWs) (hfr : 1 ≤ R.frames) (hlo : (rest.map fun v => v.category).sum + 13 ≤ R.locals) {x y : Int32} (hdg : decode cc pc = .ok (.invokestatic index, 3))
    (kk : W p l e R s m args below meth c H locs 0 0 Q (F0 m (pc + 3) ls (.int (mmax x y) :: rest))) : W p l e R s m args below meth c H locs 0 0 Q (F0 m pc ls (.int y :: .int x :: rest)) := by
  obtain ⟨hx, hb, hr, hml, hown, hts, hlocks, hK, hA⟩ := C0
  exact va_mmax hx hb (hml.trans hsz.symm) hown (hts _ h1) (hts _ h2) (hts _ h3) (hts _ h4) hfr hlo (Nat.zero_le _) (Nat.zero_le _) hdg kk
theorem gMin (C0 : gX p s m args meth c cc nL ret own g A) (hsz : ls.size = nL) {index : Nat} (h1 : Cond.methodLink own index Lib.Math.min.name ∈ gWs) (h2 : Cond.static Lib.Math.min.name ∈ gWs) (h3 : Cond.initialized "java/lang/Math" ∈ gWs) (h4 : Cond.code Lib.Math.min.name Lib.Math.min.code 2 (some .int) ∈ gWs) (hfr : 1 ≤ R.frames) (hlo : (rest.map fun v => v.category).sum + 13 ≤ R.locals) {x y : Int32} (hdg : decode cc pc = .ok (.invokestatic index, 3))
    (kk : W p l e R s m args below meth c H locs 0 0 Q (F0 m (pc + 3) ls (.int (mmin x y) :: rest))) : W p l e R s m args below meth c H locs 0 0 Q (F0 m pc ls (.int y :: .int x :: rest)) := by
  obtain ⟨hx, hb, hr, hml, hown, hts, hlocks, hK, hA⟩ := C0
  exact va_mmin hx hb (hml.trans hsz.symm) hown (hts _ h1) (hts _ h2) (hts _ h3) (hts _ h4) hfr hlo (Nat.zero_le _) (Nat.zero_le _) hdg kk
theorem gCpyI (C0 : gX p s m args meth c cc nL ret own g A) (hw : gW g A s ws H locs) (hsz : ls.size = nL) {index : Nat} (w1 : Cond.methodLink own index arraycopyName ∈ gWs) (w2 : Cond.native arraycopyName ∈ gWs) (w3 : Cond.static arraycopyName ∈ gWs) (w4 : Cond.initialized "java/lang/System" ∈ gWs) (q0 q1 : Nat) {a0 n0 n1 : Nat} {f f1 : Nat → Int32} (ha0 : ws[q0]? = some (a0, .inl (gI g, n0, .inl f))) (ha1 : ws[q1]? = some (a, .inl (gI g, n1, .inl f1))) {sp dp n : Int32} (hok : cpyok sp dp n n0 n1 = true) (hfr : 1 ≤ R.frames) (hlo : (rest.map fun v => v.category).sum + (nativeFrameWords "java/lang/System" "arraycopy" 5 + 11) ≤ R.locals) (hws : ws.set q1 (a, .inl (gI g, n1, .inl (va_cpy f f1 sp.toNatClampNeg dp.toNatClampNeg n.toNatClampNeg))) = ws') (hdg : decode cc pc = .ok (.invokestatic index, 3))
    (kk : ∀ (H : Heap) (locs : List Loc), gW g A s ws' H locs → W p l e R s m args below meth c H locs 0 0 Q (F0 m (pc + 3) ls rest)) : W p l e R s m args below meth c H locs 0 0 Q (F0 m pc ls (.int n :: .int dp :: .ref a :: .int sp :: .ref a0 :: rest)) := by
  obtain ⟨hx, hb, hr, hml, hown, hts, hlocks, hK, hA⟩ := C0
  obtain ⟨h1, h2, h3, h4, h5⟩ := of_decide_eq_true hok
  subst hws
  exact va_copyi hx hb (hml.trans hsz.symm) hown (hts _ w1) (hts _ w2) (hts _ w3) (hts _ w4) hK.1 hw.1 hw.2.1 hw.2.2 q0 q1 0 0 ha0 ha1 rfl rfl rfl h1 h2 h3 h4 h5 (fun _ _ => rfl) hfr hlo hdg (fun H1 locs1 h1 h2 h3 => kk H1 locs1 ⟨h1, h2, h3⟩)
theorem gCpyJ (C0 : gX p s m args meth c cc nL ret own g A) (hw : gW g A s ws H locs) (hsz : ls.size = nL) {index : Nat} (w1 : Cond.methodLink own index arraycopyName ∈ gWs) (w2 : Cond.native arraycopyName ∈ gWs) (w3 : Cond.static arraycopyName ∈ gWs) (w4 : Cond.initialized "java/lang/System" ∈ gWs) (q0 q1 : Nat) {a0 n0 n1 : Nat} {f f1 : Nat → Int64} (ha0 : ws[q0]? = some (a0, .inl (gJ g, n0, .inr (.inl f)))) (ha1 : ws[q1]? = some (a, .inl (gJ g, n1, .inr (.inl f1)))) {sp dp n : Int32} (hok : cpyok sp dp n n0 n1 = true) (hfr : 1 ≤ R.frames) (hlo : (rest.map fun v => v.category).sum + (nativeFrameWords "java/lang/System" "arraycopy" 5 + 11) ≤ R.locals) (hws : ws.set q1 (a, .inl (gJ g, n1, .inr (.inl (va_cpy f f1 sp.toNatClampNeg dp.toNatClampNeg n.toNatClampNeg)))) = ws') (hdg : decode cc pc = .ok (.invokestatic index, 3))
    (kk : ∀ (H : Heap) (locs : List Loc), gW g A s ws' H locs → W p l e R s m args below meth c H locs 0 0 Q (F0 m (pc + 3) ls rest)) : W p l e R s m args below meth c H locs 0 0 Q (F0 m pc ls (.int n :: .int dp :: .ref a :: .int sp :: .ref a0 :: rest)) := by
  obtain ⟨hx, hb, hr, hml, hown, hts, hlocks, hK, hA⟩ := C0
  obtain ⟨h1, h2, h3, h4, h5⟩ := of_decide_eq_true hok
  subst hws
  exact va_copyl hx hb (hml.trans hsz.symm) hown (hts _ w1) (hts _ w2) (hts _ w3) (hts _ w4) hK.1 hw.1 hw.2.1 hw.2.2 q0 q1 1 1 ha0 ha1 rfl rfl rfl h1 h2 h3 h4 h5 (fun _ _ => rfl) hfr hlo hdg (fun H1 locs1 h1 h2 h3 => kk H1 locs1 ⟨h1, h2, h3⟩)
theorem gStrRef (C0 : gX p s m args meth c cc nL ret RX2 g A) (hdg : decode cc pc = .ok (.ldc 38, 2))
    (kk : W p l e R s m args below meth c H locs 0 0 Q (F0 m (pc + 2) ls (.ref (gSK g) :: rest))) : W p l e R s m args below meth c H locs 0 0 Q (F0 m pc ls rest) := by
  obtain ⟨hx, hb, hr, hml, hown, hts, hlocks, hK, hA⟩ := C0
  exact va_ldcS hx hb hown hK.2.2.1 hdg kk
theorem gStrVal (C0 : gX p s m args meth c cc nL ret RJ0 g A) (hw : gW g A s ws H locs) (h1 : Cond.fieldLink RJ0 9 RJ0 "value" "[B" ∈ gWs) (hdg : decode cc pc = .ok (.getfield 9, 3))
    (kk : W p l e R s m args below meth c H locs 0 0 Q (F0 m (pc + 3) ls (.ref (gSV g) :: rest))) : W p l e R s m args below meth c H locs 0 0 Q (F0 m pc ls (.ref (gSK g) :: rest)) := by
  obtain ⟨hx, hb, hr, hml, hown, hts, hlocks, hK, hA⟩ := C0
  exact vk_getf hx hb (hK.2.2.2.1.1 0 (by decide)).2.2.1 hw.2.2 hown (hts _ h1) (fun _ h => h) hdg kk
theorem gStrCoder (C0 : gX p s m args meth c cc nL ret RJ0 g A) (hw : gW g A s ws H locs) (h1 : Cond.fieldLink RJ0 15 RJ0 "coder" "B" ∈ gWs) (hdg : decode cc pc = .ok (.getfield 15, 3))
    (kk : W p l e R s m args below meth c H locs 0 0 Q (F0 m (pc + 3) ls (.int 0 :: rest))) : W p l e R s m args below meth c H locs 0 0 Q (F0 m pc ls (.ref (gSK g) :: rest)) := by
  obtain ⟨hx, hb, hr, hml, hown, hts, hlocks, hK, hA⟩ := C0
  exact vk_getf hx hb (hK.2.2.2.1.1 0 (by decide)).2.1 hw.2.2 hown (hts _ h1) (fun _ h => h) hdg kk
theorem gStrStat (C0 : gX p s m args meth c cc nL ret RJ0 g A) (hw : gW g A s ws H locs) (h1 : Cond.fieldLink RJ0 38 RJ0 "COMPACT_STRINGS" "Z" ∈ gWs) (hdg : decode cc pc = .ok (.getstatic 38, 3))
    (kk : W p l e R s m args below meth c H locs 0 0 Q (F0 m (pc + 3) ls (.int 1 :: rest))) : W p l e R s m args below meth c H locs 0 0 Q (F0 m pc ls rest) := by
  obtain ⟨hx, hb, hr, hml, hown, hts, hlocks, hK, hA⟩ := C0
  exact va_gets hx hb hK.2.2.2.2 hw.2.2 hown (hts _ h1) (fun _ h => h) hdg kk
theorem gStrLen (C0 : gX p s m args meth c cc nL ret own g A) (hw : gW g A s ws H locs) (hdg : decode cc pc = .ok (.arraylength, 1))
    (kk : W p l e R s m args below meth c H locs 0 0 Q (F0 m (pc + 1) ls (.int 4 :: rest))) : W p l e R s m args below meth c H locs 0 0 Q (F0 m pc ls (.ref (gSV g) :: rest)) := by
  obtain ⟨hx, hb, hr, hml, hown, hts, hlocks, hK, hA⟩ := C0
  exact va_tlen hx hb (hK.2.2.2.1.1 0 (by decide)).2.2.2 hw.2.2 (by decide) hdg kk
theorem gStrAld (C0 : gX p s m args meth c cc nL ret own g A) (hw : gW g A s ws H locs) {i : Int32} (hin : vp_in i 4) (hdg : decode cc pc = .ok (.baload, 1))
    (kk : W p l e R s m args below meth c H locs 0 0 Q (F0 m (pc + 1) ls (.int (ptlsB i.toNatClampNeg) :: rest))) : W p l e R s m args below meth c H locs 0 0 Q (F0 m pc ls (.int i :: .ref (gSV g) :: rest)) := by
  obtain ⟨hx, hb, hr, hml, hown, hts, hlocks, hK, hA⟩ := C0
  exact va_tb hx hb (hK.2.2.2.1.1 0 (by decide)).2.2.2 hw.2.2 hin rfl hdg kk
end GB
/-! ENTRY AND CALLS -/
theorem gStr.narrow {g : gG} {A B : Nat → Prop} {U : State} {H : Heap} (h : gStr g A U H) (hAB : ∀ q, B q → A q) : gStr g B U H := ⟨h.1, h.2.1.narrow hAB, h.2.2.narrow hAB⟩
theorem gK.warm {g : gG} {A B : Nat → Prop} {s U : State} {H : Heap} {locs : List Loc} (hW : s.WarmedH U.vm) (hU : U.heap = H) (hS : va_S A s.heap H locs) (hAB : ∀ q, B q → A q) (h : gK g A s s.heap) : gK g B U U.heap := by
  obtain ⟨h1, h2, h3, h4, h5⟩ := h
  rw [hU]
  exact ⟨va_K.moved hW.alike h1, fun q hq => (h2 q hq).warmM hW, vk_R.warm hW h3, ((h4.moved hW.alike).kept hS.2.1).narrow hAB, ((h5.moved hW.alike).kept hS.2.1).narrow hAB⟩
theorem gK.calling {g : gG} {A : Nat → Prop} {U : State} {f : JFrame} {mk : MethodId} {a : Array Value} (h : gK g A U U.heap) : gK g A (U.calling f mk a) (U.calling f mk a).heap := by
  obtain ⟨h1, h2, h3, h4, h5⟩ := h
  exact ⟨va_K.moved (u := U) (U := U.calling f mk a) (Vm.Alike.refl U.vm) h1, fun q hq => (h2 q hq).same rfl rfl, vk_R.same rfl h3, h4.moved (Vm.Alike.refl U.vm), h5.moved (Vm.Alike.refl U.vm)⟩
theorem gPre.blind {g : gG} {sz : Nat} {ws : va_W} {av : List Value} : FrameBlind (va_Pc av (gPre g sz ws)) :=
  fun a U f mk q => by obtain ⟨q0, q1, qP, qK, qD⟩ := q; exact ⟨q0, q1, qP, qK.calling, qD⟩
theorem gWs_good {y : MethodName} {cc : ByteArray} {maxL : Nat} {ret : Option FieldType} (h : Cond.code y cc maxL ret ∈ gWs) : GoodIn gWs (.code y cc maxL ret :: gWs) := by
  intro w hw
  rcases List.mem_cons.mp hw with rfl | hw
  · exact ⟨h, gWs_word _ h⟩
  · exact ⟨hw, gWs_word _ hw⟩
section GE
variable {l : Launch} {y : MethodName} {cc : ByteArray} {maxL : Nat} {ret : Option FieldType} {rm : Room} {g : gG} {sz : Nat} {av : List Value} {ws ws' : va_W}
theorem gEnterI {r : Int32} (hy : plainName y.cls = true) (hlen : (lg_sl av).length ≤ maxL)
    (k : ∀ (p : Program) (e : Env) (s : State) (m : MethodId) (below : List Frame) (meth : Method) (c : Code) (A : Nat → Prop), gX p s m av.toArray meth c cc maxL ret y.cls g A → ∀ (H : Heap) (locs : List Loc), gW g A s ws H locs → ∀ ls : Array Slot, lv_has ls maxL (lv_args 0 av) → W p l e rm s m av.toArray below meth c H locs 0 0 (gQi below av.toArray s A g r ws') (F0 m 0 ls [])) : gMi l y cc maxL ret rm g sz av ws r ws' := by
  refine Met.ofW (cc := cc) (maxL := maxL) (ret := ret) hy rfl ?_
  intro p e s m args below meth c s₁ B hml hv
  obtain ⟨rfl, hsz, hP, hK, hD0⟩ := hv
  have hts0 := atoms_spec (ws := .code y cc maxL ret :: gWs) B.pre
  subst hsz
  rw [lg_entry_eq]
  exact k p e s m below meth c (va_A ws s.heap.size) ⟨B.exec, B.bytes, B.returns, hml, findClass_of_methodNamed B.named, fun w hw => hts0 w (List.mem_cons_of_mem _ hw), B.notSynchronized, hK, fun q h => Or.inr h⟩ s.heap [] ⟨hP, hD0.self, va_S.rf⟩ _ (lv_entry av (n := maxL) hlen)
theorem gEnterL {r : Int64} (hy : plainName y.cls = true) (hlen : (lg_sl av).length ≤ maxL)
    (k : ∀ (p : Program) (e : Env) (s : State) (m : MethodId) (below : List Frame) (meth : Method) (c : Code) (A : Nat → Prop), gX p s m av.toArray meth c cc maxL ret y.cls g A → ∀ (H : Heap) (locs : List Loc), gW g A s ws H locs → ∀ ls : Array Slot, lv_has ls maxL (lv_args 0 av) → W p l e rm s m av.toArray below meth c H locs 0 0 (gQl below av.toArray s A g r ws') (F0 m 0 ls [])) : gMl l y cc maxL ret rm g sz av ws r ws' := by
  refine Met.ofW (cc := cc) (maxL := maxL) (ret := ret) hy rfl ?_
  intro p e s m args below meth c s₁ B hml hv
  obtain ⟨rfl, hsz, hP, hK, hD0⟩ := hv
  have hts0 := atoms_spec (ws := .code y cc maxL ret :: gWs) B.pre
  subst hsz
  rw [lg_entry_eq]
  exact k p e s m below meth c (va_A ws s.heap.size) ⟨B.exec, B.bytes, B.returns, hml, findClass_of_methodNamed B.named, fun w hw => hts0 w (List.mem_cons_of_mem _ hw), B.notSynchronized, hK, fun q h => Or.inr h⟩ s.heap [] ⟨hP, hD0.self, va_S.rf⟩ _ (lv_entry av (n := maxL) hlen)
theorem gEnterV (hy : plainName y.cls = true) (hlen : (lg_sl av).length ≤ maxL)
    (k : ∀ (p : Program) (e : Env) (s : State) (m : MethodId) (below : List Frame) (meth : Method) (c : Code) (A : Nat → Prop), gX p s m av.toArray meth c cc maxL ret y.cls g A → ∀ (H : Heap) (locs : List Loc), gW g A s ws H locs → ∀ ls : Array Slot, lv_has ls maxL (lv_args 0 av) → W p l e rm s m av.toArray below meth c H locs 0 0 (gQv below av.toArray s A g ws') (F0 m 0 ls [])) : gMv l y cc maxL ret rm g sz av ws ws' := by
  refine Met.ofW (cc := cc) (maxL := maxL) (ret := ret) hy rfl ?_
  intro p e s m args below meth c s₁ B hml hv
  obtain ⟨rfl, hsz, hP, hK, hD0⟩ := hv
  have hts0 := atoms_spec (ws := .code y cc maxL ret :: gWs) B.pre
  subst hsz
  rw [lg_entry_eq]
  exact k p e s m below meth c (va_A ws s.heap.size) ⟨B.exec, B.bytes, B.returns, hml, findClass_of_methodNamed B.named, fun w hw => hts0 w (List.mem_cons_of_mem _ hw), B.notSynchronized, hK, fun q h => Or.inr h⟩ s.heap [] ⟨hP, hD0.self, va_S.rf⟩ _ (lv_entry av (n := maxL) hlen)
theorem gEnterR {ra : Nat} (hy : plainName y.cls = true) (hlen : (lg_sl av).length ≤ maxL)
    (k : ∀ (p : Program) (e : Env) (s : State) (m : MethodId) (below : List Frame) (meth : Method) (c : Code) (A : Nat → Prop), gX p s m av.toArray meth c cc maxL ret y.cls g A → ∀ (H : Heap) (locs : List Loc), gW g A s ws H locs → ∀ ls : Array Slot, lv_has ls maxL (lv_args 0 av) → W p l e rm s m av.toArray below meth c H locs 0 0 (gQr below av.toArray s A g ra ws') (F0 m 0 ls [])) : gMr l y cc maxL ret rm g sz av ws ra ws' := by
  refine Met.ofW (cc := cc) (maxL := maxL) (ret := ret) hy rfl ?_
  intro p e s m args below meth c s₁ B hml hv
  obtain ⟨rfl, hsz, hP, hK, hD0⟩ := hv
  have hts0 := atoms_spec (ws := .code y cc maxL ret :: gWs) B.pre
  subst hsz
  rw [lg_entry_eq]
  exact k p e s m below meth c (va_A ws s.heap.size) ⟨B.exec, B.bytes, B.returns, hml, findClass_of_methodNamed B.named, fun w hw => hts0 w (List.mem_cons_of_mem _ hw), B.notSynchronized, hK, fun q h => Or.inr h⟩ s.heap [] ⟨hP, hD0.self, va_S.rf⟩ _ (lv_entry av (n := maxL) hlen)
end GE
theorem gMapAt {ws wc : va_W} {is : List Nat} (hs : is.map (fun i => ws[i]?) = wc.map some) {k : Nat} {q : Nat × va_E} (hq : wc[k]? = some q) : ∃ i, is[k]? = some i ∧ ws[i]? = some q := by
  have h1 : (is.map (fun i => ws[i]?))[k]? = some (some q) := by rw [hs, List.getElem?_map, hq]; rfl
  rw [List.getElem?_map] at h1
  cases hi : is[k]? with
  | none => rw [hi] at h1; cases h1
  | some i => rw [hi] at h1; exact ⟨i, rfl, Option.some.inj h1⟩
theorem gMapAt2 {ws wc : va_W} {is : List Nat} (hs : is.map (fun i => ws[i]?) = wc.map some) {k i : Nat} {q : Nat × va_E} (hi : is[k]? = some i) (hq : ws[i]? = some q) : wc[k]? = some q := by
  have h1 : (wc.map some)[k]? = some (some q) := by rw [← hs, List.getElem?_map, hi]; exact congrArg some hq
  rw [List.getElem?_map] at h1
  cases hc : wc[k]? with
  | none => rw [hc] at h1; cases h1
  | some x => rw [hc] at h1; exact Option.some.inj h1
/-- the places that a call leaves alone -/
def gSame (ws ws' : va_W) : List Nat → Prop
  | [] => True
  | i :: is => ws'[i]? = ws[i]? ∧ gSame ws ws' is
theorem gSame.at {ws ws' : va_W} : ∀ {is : List Nat}, gSame ws ws' is → ∀ i ∈ is, ws'[i]? = ws[i]?
  | [], _, i, hi => absurd hi List.not_mem_nil
  | j :: is, h, i, hi => by
    rcases List.mem_cons.mp hi with rfl | hi
    · exact h.1
    · exact gSame.at h.2 i hi
/-- behind a call: the world with the callee's cells as they are now, in their old places -/
theorem gJoin {D : va_G} {A : Nat → Prop} {ws wc w1 ws' : va_W} {H H1 : Heap} (hP : va_P D vwCl ws H) (hD : va_D A ws) (isC isR : List Nat) (h2 : isC.map (fun i => ws[i]?) = wc.map some) (h3 : isC.map (fun i => ws'[i]?) = w1.map some) (h4 : gSame ws ws' isR) (h1 : ws'.map Prod.fst = ws.map Prod.fst) (hn : (List.range ws.length).all (fun i => isC.contains i || isR.contains i) = true)
    (hk : ∀ q : Nat, q < H.size → ¬ va_A wc H.size q → H1[q]? = H[q]?) (hP1 : va_P D vwCl w1 H1) : va_P D vwCl ws' H1 ∧ va_D A ws' := by
  have hfst : ∀ (k : Nat) (q : Nat × va_E), ws'[k]? = some q → ∃ q', ws[k]? = some q' ∧ q'.1 = q.1 := by
    intro k q hq
    have e : (ws'.map Prod.fst)[k]? = some q.1 := by rw [List.getElem?_map, hq]; rfl
    rw [h1, List.getElem?_map] at e
    cases hc : ws[k]? with
    | none => rw [hc] at e; cases e
    | some x => rw [hc] at e; exact ⟨x, rfl, Option.some.inj e⟩
  refine ⟨fun k q hq => ?_, fun i j p q hi hj hpq => ?_, fun k q hq => ?_⟩
  · by_cases hkc : k ∈ isC
    · obtain ⟨j, hj⟩ := List.getElem?_of_mem hkc
      exact hP1 j q (gMapAt2 h3 hj hq)
    · obtain ⟨q', hq', -⟩ := hfst k q hq
      have hlt : k < ws.length := (List.getElem?_eq_some_iff.mp hq').1
      have hm := List.all_eq_true.mp hn k (List.mem_range.mpr hlt)
      have hkr : k ∈ isR := by
        rcases Bool.or_eq_true_iff.mp hm with h | h
        · exact absurd (List.contains_iff_mem.mp h) hkc
        · exact List.contains_iff_mem.mp h
      have e2 : ws'[k]? = ws[k]? := h4.at k hkr
      rw [hq] at e2
      have hat := hP k q e2.symm
      refine hat.kept (hk q.1 hat.lt ?_)
      intro hA
      rcases hA with ⟨k2, e3, he3⟩ | hge
      · obtain ⟨i, hi, hwi⟩ := gMapAt h2 he3
        have := hD.1 k i q (q.1, e3) e2.symm hwi rfl
        subst this
        exact hkc (List.mem_of_getElem? hi)
      · exact absurd hat.lt (Nat.not_lt.mpr hge)
  · obtain ⟨p', hp', ep⟩ := hfst i p hi
    obtain ⟨q', hq', eq⟩ := hfst j q hj
    exact hD.1 i j p' q' hp' hq' (by rw [ep, eq, hpq])
  · obtain ⟨q', hq', eq⟩ := hfst k q hq
    have := hD.2 k q' hq'
    rw [eq] at this
    exact this
section GC
variable {p : Program} {l : Launch} {e : Env} {R : Room} {s : State} {m : MethodId} {args : Array Value} {below : List Frame} {meth : Method} {c : Code} {H : Heap} {locs : List Loc} {Q : State → Prop} {cc : ByteArray} {nL : Nat} {ret : Option FieldType} {own : String} {g : gG} {A : Nat → Prop} {pc : Nat} {ls : Array Slot} {rest st0 As : List Value} {ws ws' wc w1 : va_W} {a : Nat}
variable {y : MethodName} {cb : ByteArray} {mL n index : Nat} {rt : Option FieldType} {rm : Room} {Qc : Array Value → State → Outcome → State → Prop}
theorem gPreAt (C0 : gX p s m args meth c cc nL ret own g A) (hw : gW g A s ws H locs) (isC : List Nat) (hnd : va_nd isC = true) (hC : isC.map (fun i => ws[i]?) = wc.map some) (U : State) (hU : U.heap = H) (hW : s.WarmedH U.vm) : gPre g H.size wc U := by
  obtain ⟨hx, hb, hr, hml, hown, hts, hlocks, hK, hA⟩ := C0
  obtain ⟨hP, hD, hS⟩ := hw
  refine ⟨by rw [hU], ?_, hK.warm hW hU hS (va_free hD hS hA isC hC), (hD.sub isC hnd hC).weaken (fun _ _ _ _ => trivial)⟩
  rw [hU]
  intro k q hq
  obtain ⟨i, -, hi⟩ := gMapAt hC hq
  exact hP i q hi
theorem gRunV (C0 : gX p s m args meth c cc nL ret own g A) (hw : gW g A s ws H locs) (hL : gLinkV own index y cb mL rt n) (hM : Met l y (.code y cb mL rt :: gWs) rm (va_Pc (.ref a :: As) (gPre g H.size wc)) Qc 0 0 (va_A wc H.size)) (hrm : rm.cells = 0 ∧ rm.slots = 0) (hR : rm.frames + 1 ≤ R.frames ∧ 8 + (mL + 11) + rm.locals ≤ R.locals) (isC : List Nat) (hnd : va_nd isC = true) (hC : isC.map (fun i => ws[i]?) = wc.map some) (q0 : Nat) {ci N : Nat} {T : u_T} {fs : List Value} (he : ws[q0]? = some (a, .inr (ci, fs))) (hc : vwCl[ci]? = some (y.cls, T, N)) (hn : As.length = n) (hls : ls.size = nL) (hstk : st0 = As.reverse ++ .ref a :: rest) (hst : (rest.map fun v => v.category).sum ≤ 8) (hdg : decode cc pc = .ok (.invokevirtual index, 3)) :
    va_Run p l e R s m args below meth c H locs 0 0 0 0 (F0 m pc ls st0) rest (Qc (Value.ref a :: As).toArray) (va_A wc H.size) := by
  obtain ⟨l1, l2, l3, l4, l5, l6⟩ := hL
  have hpre := gPreAt C0 hw isC hnd hC
  obtain ⟨hx, hb, hr, hml, hown, hts, hlocks, hK, hA⟩ := C0
  exact va_runV (n := n) (bytes := cb) (maxL := mL) (ret := rt) (C := y.cls) ⟨hx, hb, hml, hown, hts⟩ hM ⟨callB_of n hts (gWs_good l5) rfl hrm.1 hrm.2 (hts _ l4) (hts _ l1) l6 hR, hts _ l2, hts _ l3⟩ ⟨gPre.blind, va_recv hK.1 hw.1 hc he, fun U hU hW => ⟨rfl, hpre U hU hW⟩⟩ rfl hn hls hstk (lv_room hst) hdg ⟨Nat.zero_le _, Nat.zero_le _⟩
/-- a method of the String constant -/
theorem gRunStr (C0 : gX p s m args meth c cc nL ret own g A) (hw : gW g A s ws H locs) (hL : gLinkV own index y cb mL rt n) (hy : y.cls = "java/lang/String") (hM : Met l y (.code y cb mL rt :: gWs) rm (va_Pc (.ref (gSK g) :: As) (gPre g H.size wc)) Qc 0 0 (va_A wc H.size)) (hrm : rm.cells = 0 ∧ rm.slots = 0) (hR : rm.frames + 1 ≤ R.frames ∧ 8 + (mL + 11) + rm.locals ≤ R.locals) (isC : List Nat) (hnd : va_nd isC = true) (hC : isC.map (fun i => ws[i]?) = wc.map some) (hn : As.length = n) (hls : ls.size = nL) (hstk : st0 = As.reverse ++ .ref (gSK g) :: rest) (hst : (rest.map fun v => v.category).sum ≤ 8) (hdg : decode cc pc = .ok (.invokevirtual index, 3)) :
    va_Run p l e R s m args below meth c H locs 0 0 0 0 (F0 m pc ls st0) rest (Qc (Value.ref (gSK g) :: As).toArray) (va_A wc H.size) := by
  obtain ⟨l1, l2, l3, l4, l5, l6⟩ := hL
  have hpre := gPreAt C0 hw isC hnd hC
  obtain ⟨hx, hb, hr, hml, hown, hts, hlocks, hK, hA⟩ := C0
  have hrec := vk_recv hK.2.2.2.1 (i := 0) (by decide) hw.2.2
  rw [← hy] at hrec
  exact va_runV (n := n) (bytes := cb) (maxL := mL) (ret := rt) (C := y.cls) ⟨hx, hb, hml, hown, hts⟩ hM ⟨callB_of n hts (gWs_good l5) rfl hrm.1 hrm.2 (hts _ l4) (hts _ l1) l6 hR, hts _ l2, hts _ l3⟩ ⟨gPre.blind, hrec, fun U hU hW => ⟨rfl, hpre U hU hW⟩⟩ rfl hn hls hstk (lv_room hst) hdg ⟨Nat.zero_le _, Nat.zero_le _⟩
theorem gRunS (C0 : gX p s m args meth c cc nL ret own g A) (hw : gW g A s ws H locs) (hL : gLinkS own index y cb mL rt n) (hM : Met l y (.code y cb mL rt :: gWs) rm (va_Pc As (gPre g H.size wc)) Qc 0 0 (va_A wc H.size)) (hrm : rm.cells = 0 ∧ rm.slots = 0) (hR : rm.frames + 1 ≤ R.frames ∧ 8 + (mL + 11) + rm.locals ≤ R.locals) (isC : List Nat) (hnd : va_nd isC = true) (hC : isC.map (fun i => ws[i]?) = wc.map some) (hn : As.length = n) (hls : ls.size = nL) (hstk : st0 = As.reverse ++ rest) (hst : (rest.map fun v => v.category).sum ≤ 8) (hdg : decode cc pc = .ok (.invokestatic index, 3)) :
    va_Run p l e R s m args below meth c H locs 0 0 0 0 (F0 m pc ls st0) rest (Qc As.toArray) (va_A wc H.size) := by
  obtain ⟨l1, l2, l4, l5, l6⟩ := hL
  have hpre := gPreAt C0 hw isC hnd hC
  obtain ⟨hx, hb, hr, hml, hown, hts, hlocks, hK, hA⟩ := C0
  exact va_runS (n := n) (bytes := cb) (maxL := mL) (ret := rt) ⟨hx, hb, hml, hown, hts⟩ hM ⟨callB_of n hts (gWs_good l5) rfl hrm.1 hrm.2 (hts _ l4) (hts _ l1) l6 hR, hts _ l2⟩ ⟨gPre.blind, fun U hU hW => ⟨rfl, hpre U hU hW⟩⟩ rfl hn hls hstk (lv_room hst) hdg ⟨Nat.zero_le _, Nat.zero_le _⟩
theorem gRunN (C0 : gX p s m args meth c cc nL ret own g A) (hw : gW g A s ws H locs) (hL : gLinkN own index y cb mL rt n) (hM : Met l y (.code y cb mL rt :: gWs) rm (va_Pc As (gPre g H.size wc)) Qc 0 0 (va_A wc H.size)) (hrm : rm.cells = 0 ∧ rm.slots = 0) (hR : rm.frames + 1 ≤ R.frames ∧ 8 + (mL + 11) + rm.locals ≤ R.locals) (isC : List Nat) (hnd : va_nd isC = true) (hC : isC.map (fun i => ws[i]?) = wc.map some) (hn : As.length = n) (hls : ls.size = nL) (hstk : st0 = As.reverse ++ rest) (hst : (rest.map fun v => v.category).sum ≤ 8) (hdg : decode cc pc = .ok (.invokestatic index, 3)) :
    va_Run p l e R s m args below meth c H locs 0 0 0 0 (F0 m pc ls st0) rest (Qc As.toArray) (va_A wc H.size) := by
  obtain ⟨l1, l2, l4, l5, l6⟩ := hL
  have hpre := gPreAt C0 hw isC hnd hC
  obtain ⟨hx, hb, hr, hml, hown, hts, hlocks, hK, hA⟩ := C0
  exact va_runSN (n := n) (bytes := cb) (maxL := mL) (ret := rt) (host := "WallHands") ⟨hx, hb, hml, hown, hts⟩ hM ⟨va_cnB n hts (gWs_good l5) rfl hrm.1 hrm.2 (hK.2.1 _ l1) (hts _ l4) l6 hR, hts _ l2, trivial⟩ ⟨gPre.blind, fun U hU hW => ⟨rfl, hpre U hU hW⟩⟩ rfl hn hls hstk (lv_room hst) hdg ⟨Nat.zero_le _, Nat.zero_le _⟩
theorem gCalli (C0 : gX p s m args meth c cc nL ret own g A) (hw : gW g A s ws H locs) {av : Array Value} {r : Int32} (hr : va_Run p l e R s m args below meth c H locs 0 0 0 0 (F0 m pc ls st0) rest (va_Qi (fun v (_ : Unit) => v = r) (gB g w1) (va_A wc H.size) av) (va_A wc H.size)) (isC isR : List Nat) (h2 : isC.map (fun i => ws[i]?) = wc.map some) (h3 : isC.map (fun i => ws'[i]?) = w1.map some) (h4 : gSame ws ws' isR) (as : List Nat) (h1 : ws.map Prod.fst = as) (h1' : ws'.map Prod.fst = as) (nW : Nat) (hnW : ws.length = nW) (hn : (List.range nW).all (fun i => isC.contains i || isR.contains i) = true)
    (kk : ∀ (H : Heap) (locs : List Loc), gW g A s ws' H locs → W p l e R s m args below meth c H locs 0 0 Q (F0 m (pc + 3) ls (.int r :: rest))) : W p l e R s m args below meth c H locs 0 0 Q (F0 m pc ls st0) := by
  obtain ⟨hx, hb, hr0, hml, hown, hts, hlocks, hK, hA⟩ := C0
  obtain ⟨hP, hD, hS⟩ := hw
  have hF := va_free hD hS hA isC h2
  refine va_calli hr hS (fun q _ h => hF q h) hF (fun r1 u t H1 locs1 ht hvm hp hB hz hk hS1 => ?_)
  subst hp
  have hP1 : va_P g.1 vwCl w1 H1 := by rw [← ht]; exact hB
  obtain ⟨h5, h6⟩ := gJoin hP hD isC isR h2 h3 h4 (h1'.trans h1.symm) (by rw [hnW]; exact hn) hk hP1
  exact kk H1 locs1 ⟨h5, h6, hS1⟩
theorem gCalll (C0 : gX p s m args meth c cc nL ret own g A) (hw : gW g A s ws H locs) {av : Array Value} {r : Int64} (hr : va_Run p l e R s m args below meth c H locs 0 0 0 0 (F0 m pc ls st0) rest (va_Ql (fun v (_ : Unit) => v = r) (gB g w1) (va_A wc H.size) av) (va_A wc H.size)) (isC isR : List Nat) (h2 : isC.map (fun i => ws[i]?) = wc.map some) (h3 : isC.map (fun i => ws'[i]?) = w1.map some) (h4 : gSame ws ws' isR) (as : List Nat) (h1 : ws.map Prod.fst = as) (h1' : ws'.map Prod.fst = as) (nW : Nat) (hnW : ws.length = nW) (hn : (List.range nW).all (fun i => isC.contains i || isR.contains i) = true)
    (kk : ∀ (H : Heap) (locs : List Loc), gW g A s ws' H locs → W p l e R s m args below meth c H locs 0 0 Q (F0 m (pc + 3) ls (.long r :: rest))) : W p l e R s m args below meth c H locs 0 0 Q (F0 m pc ls st0) := by
  obtain ⟨hx, hb, hr0, hml, hown, hts, hlocks, hK, hA⟩ := C0
  obtain ⟨hP, hD, hS⟩ := hw
  have hF := va_free hD hS hA isC h2
  refine va_calll hr hS (fun q _ h => hF q h) hF (fun r1 u t H1 locs1 ht hvm hp hB hz hk hS1 => ?_)
  subst hp
  have hP1 : va_P g.1 vwCl w1 H1 := by rw [← ht]; exact hB
  obtain ⟨h5, h6⟩ := gJoin hP hD isC isR h2 h3 h4 (h1'.trans h1.symm) (by rw [hnW]; exact hn) hk hP1
  exact kk H1 locs1 ⟨h5, h6, hS1⟩
theorem gCallv (C0 : gX p s m args meth c cc nL ret own g A) (hw : gW g A s ws H locs) {av : Array Value} (hr : va_Run p l e R s m args below meth c H locs 0 0 0 0 (F0 m pc ls st0) rest (va_Qv (fun (_ : Unit) => True) (gB g w1) (va_A wc H.size) av) (va_A wc H.size)) (isC isR : List Nat) (h2 : isC.map (fun i => ws[i]?) = wc.map some) (h3 : isC.map (fun i => ws'[i]?) = w1.map some) (h4 : gSame ws ws' isR) (as : List Nat) (h1 : ws.map Prod.fst = as) (h1' : ws'.map Prod.fst = as) (nW : Nat) (hnW : ws.length = nW) (hn : (List.range nW).all (fun i => isC.contains i || isR.contains i) = true)
    (kk : ∀ (H : Heap) (locs : List Loc), gW g A s ws' H locs → W p l e R s m args below meth c H locs 0 0 Q (F0 m (pc + 3) ls rest)) : W p l e R s m args below meth c H locs 0 0 Q (F0 m pc ls st0) := by
  obtain ⟨hx, hb, hr0, hml, hown, hts, hlocks, hK, hA⟩ := C0
  obtain ⟨hP, hD, hS⟩ := hw
  have hF := va_free hD hS hA isC h2
  refine va_callv hr hS (fun q _ h => hF q h) hF (fun u t H1 locs1 ht hvm hp hB hz hk hS1 => ?_)
  have hP1 : va_P g.1 vwCl w1 H1 := by rw [← ht]; exact hB
  obtain ⟨h5, h6⟩ := gJoin hP hD isC isR h2 h3 h4 (h1'.trans h1.symm) (by rw [hnW]; exact hn) hk hP1
  exact kk H1 locs1 ⟨h5, h6, hS1⟩
theorem gCallr (C0 : gX p s m args meth c cc nL ret own g A) (hw : gW g A s ws H locs) {av : Array Value} {ra : Nat} (hr : va_Run p l e R s m args below meth c H locs 0 0 0 0 (F0 m pc ls st0) rest (va_Qr (fun (_ : Unit) => True) (gBr g ra w1) (va_A wc H.size) av) (va_A wc H.size)) (isC isR : List Nat) (h2 : isC.map (fun i => ws[i]?) = wc.map some) (h3 : isC.map (fun i => ws'[i]?) = w1.map some) (h4 : gSame ws ws' isR) (as : List Nat) (h1 : ws.map Prod.fst = as) (h1' : ws'.map Prod.fst = as) (nW : Nat) (hnW : ws.length = nW) (hn : (List.range nW).all (fun i => isC.contains i || isR.contains i) = true)
    (kk : ∀ (H : Heap) (locs : List Loc), gW g A s ws' H locs → W p l e R s m args below meth c H locs 0 0 Q (F0 m (pc + 3) ls (.ref ra :: rest))) : W p l e R s m args below meth c H locs 0 0 Q (F0 m pc ls st0) := by
  obtain ⟨hx, hb, hr0, hml, hown, hts, hlocks, hK, hA⟩ := C0
  obtain ⟨hP, hD, hS⟩ := hw
  have hF := va_free hD hS hA isC h2
  refine va_callr hr hS (fun q _ h => hF q h) hF (fun u r1 t H1 locs1 ht hvm hp hB hz hk hS1 => ?_)
  obtain ⟨rfl, hB⟩ := hB
  have hP1 : va_P g.1 vwCl w1 H1 := by rw [← ht]; exact hB
  obtain ⟨h5, h6⟩ := gJoin hP hD isC isR h2 h3 h4 (h1'.trans h1.symm) (by rw [hnW]; exact hn) hk hP1
  exact kk H1 locs1 ⟨h5, h6, hS1⟩
/-- a table's row that is taken, by its number; and none -/
theorem gSw (C0 : gX p s m args meth c cc nL ret own g A) {x y : Int32} (hxy : x = y) {dflt lo hi off : Int} {offs : Array Int} {len tgt : Nat} (hdg : decode cc pc = .ok (.tableswitch dflt lo hi offs, len)) (h : (decide (lo ≤ y.toInt) && decide (y.toInt ≤ hi)) = true ∧ offs[(y.toInt - lo).toNat]? = some off ∧ (pc : Int) + off = (tgt : Int))
    (kk : W p l e R s m args below meth c H locs 0 0 Q (F0 m tgt ls rest)) : W p l e R s m args below meth c H locs 0 0 Q (F0 m pc ls (.int x :: rest)) := by
  obtain ⟨hx, hb, hr0, hml, hown, hts, hlocks, hK, hA⟩ := C0
  subst hxy
  obtain ⟨h1, h2, h3⟩ := h
  simp only [Bool.and_eq_true, decide_eq_true_eq] at h1
  exact lv_tableIn hx hb hdg (Int.not_lt.mpr h1.1) (Int.not_lt.mpr h1.2) h2 h3 kk
theorem gSwD (C0 : gX p s m args meth c cc nL ret own g A) {x : Int32} {dflt lo hi : Int} {offs : Array Int} {len tgt : Nat} (hdg : decode cc pc = .ok (.tableswitch dflt lo hi offs, len)) (h : ∀ k : Nat, k < (hi - lo + 1).toNat → ¬ x.toInt = lo + k) (ht : (pc : Int) + dflt = (tgt : Int))
    (kk : W p l e R s m args below meth c H locs 0 0 Q (F0 m tgt ls rest)) : W p l e R s m args below meth c H locs 0 0 Q (F0 m pc ls (.int x :: rest)) := by
  obtain ⟨hx, hb, hr0, hml, hown, hts, hlocks, hK, hA⟩ := C0
  refine lv_tableOut hx hb hdg ?_ ht kk
  by_cases h1 : x.toInt < lo
  · exact Or.inl h1
  · by_cases h2 : hi < x.toInt
    · exact Or.inr h2
    · exact absurd (by omega) (h (x.toInt - lo).toNat (by omega))
end GC
theorem gSwN {x : Int32} {n : Nat} {c : Nat → Int32} (hc : ∀ k : Nat, k < n → ¬ x = c k) {lo : Int} (hl : ∀ k : Nat, k < n → (c k).toInt = lo + k) : ∀ k : Nat, k < n → ¬ x.toInt = lo + k := by
  intro k hk h
  exact hc k hk (Int32.toInt_inj.mp (by rw [h, hl k hk]))
