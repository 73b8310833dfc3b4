/-- what a method's body may take of the machine -/
def gB (p : Program) (s : State) (m : MethodId) (args : Array Value) (meth : Method) (c : Code) (b : ByteArray) (maxL : Nat) (ret : Option FieldType) (own : String) : Prop :=
  CallFix p m c b maxL s args Tb own ∧ meth.sig.returnType = ret ∧ meth.locks = false
theorem g_start {l : Launch} {y : MethodName} {b : ByteArray} {maxL : Nat} {ret : Option FieldType} {rm : Room} {Z : State → Prop} {Qc : Array Value → State → Outcome → State → Prop} {mc ms : Nat} {free : Addr → Prop} (av : List Value) (hy : plainFor y = true) (hsl : (lg_sl av).length ≤ maxL)
    (body : ∀ (p : Program) (e : Env) (s : State) (m : MethodId) (below : List Frame) (meth : Method) (c : Code) (ls : Array Slot), gB p s m av.toArray meth c b maxL ret y.cls → Z s → lv_has ls maxL (lv_args 0 av) → W p l e rm s m av.toArray below meth c s.heap [] 0 0 (MQ below Qc av.toArray s mc ms free) (F0 m 0 ls [])) :
    Met l y (tW y b maxL ret) rm (fun v U => v = av.toArray ∧ Z U) Qc mc ms free := by
  refine va_MetF (cc := b) (maxL := maxL) (ret := ret) hy rfl ?_
  intro p e s m args below meth c s₁ B hml hv
  obtain ⟨rfl, hZ⟩ := hv
  have hts := atoms_spec (ws := tW y b maxL ret) B.pre
  have hl := lv_entry av (n := maxL) hsl
  rw [lg_entry_eq]
  exact body p e s m below meth c _ ⟨⟨B.exec, B.bytes, hml, findClass_of_methodNamed B.named, fun w h => hts w (List.mem_cons_of_mem _ h)⟩, B.returns, B.notSynchronized⟩ hZ hl
/-- the contracts: a function of its numbers; a reader of a world; a writer of a world -/
def gPure (l : Launch) (y : MethodName) (b : ByteArray) (maxL : Nat) (ret : Option FieldType) (rm : Room) (av : List Value) (r : Int32) : Prop :=
  Met l y (tW y b maxL ret) rm (fun v U => v = av.toArray ∧ (fun _ => True) U) (vp_Si (fun x => x = r)) 0 0 (fun _ => False)
def gPureL (l : Launch) (y : MethodName) (b : ByteArray) (maxL : Nat) (ret : Option FieldType) (rm : Room) (av : List Value) (r : Int64) : Prop :=
  Met l y (tW y b maxL ret) rm (fun v U => v = av.toArray ∧ (fun _ => True) U) (vp_Sl (fun x => x = r)) 0 0 (fun _ => False)
def gZ (G : gG) (n : Nat) (ad : Nat → Nat) (E : Nat → va_E) (U : State) : Prop := gX G U ∧ gP G.1 n ad E U.heap
def gRead (l : Launch) (y : MethodName) (b : ByteArray) (maxL : Nat) (ret : Option FieldType) (rm : Room) (G : gG) (av : List Value) (n : Nat) (ad : Nat → Nat) (E : Nat → va_E) (r : Int32) : Prop :=
  Met l y (tW y b maxL ret) rm (fun v U => v = av.toArray ∧ gZ G n ad E U) (vp_Si (fun x => x = r)) 0 0 (fun _ => False)
def gMutV (l : Launch) (y : MethodName) (b : ByteArray) (maxL : Nat) (ret : Option FieldType) (rm : Room) (G : gG) (av : List Value) (n : Nat) (ad : Nat → Nat) (sh : Nat → (Nat → Int32) → va_E) (σ : gM) (r : gM) : Prop :=
  Met l y (tW y b maxL ret) rm (fun v U => v = av.toArray ∧ gZ G n ad (gE sh σ) U) (va_Qv (fun τ : gM => τ = r) (fun τ t => gP G.1 n ad (gE sh τ) t.heap) (gA n ad)) 0 0 (gA n ad)
def gMutI (l : Launch) (y : MethodName) (b : ByteArray) (maxL : Nat) (ret : Option FieldType) (rm : Room) (G : gG) (av : List Value) (n : Nat) (ad : Nat → Nat) (sh : Nat → (Nat → Int32) → va_E) (σ : gM) (r : Int32 × gM) : Prop :=
  Met l y (tW y b maxL ret) rm (fun v U => v = av.toArray ∧ gZ G n ad (gE sh σ) U) (va_Qi (fun (x : Int32) (τ : gM) => r = (x, τ)) (fun τ t => gP G.1 n ad (gE sh τ) t.heap) (gA n ad)) 0 0 (gA n ad)
def gMutL (l : Launch) (y : MethodName) (b : ByteArray) (maxL : Nat) (ret : Option FieldType) (rm : Room) (G : gG) (av : List Value) (n : Nat) (ad : Nat → Nat) (sh : Nat → (Nat → Int32) → va_E) (σ : gM) (r : Int64 × gM) : Prop :=
  Met l y (tW y b maxL ret) rm (fun v U => v = av.toArray ∧ gZ G n ad (gE sh σ) U) (va_Ql (fun (x : Int64) (τ : gM) => r = (x, τ)) (fun τ t => gP G.1 n ad (gE sh τ) t.heap) (gA n ad)) 0 0 (gA n ad)
def gRm (rm R : Room) (maxL : Nat) : Prop := rm.cells = 0 ∧ rm.slots = 0 ∧ rm.frames + 1 ≤ R.frames ∧ 8 + (maxL + 11) + rm.locals ≤ R.locals
theorem lv_cast {ty : FieldType} {v : Int32} (h : ty = .int) : narrow ty (.int v) = .int v := by subst h; rfl
section
variable {p : Program} {l : Launch} {e : Env} {R : Room} {s : State} {m : MethodId} {args : Array Value} {below : List Frame} {meth : Method} {c : Code} {H : Heap} {locs : List Loc} {cells slots : Nat} {Q : State → Prop} {cc : ByteArray} {pc : Nat} {ls : Array Slot} {rest : List Value} {G : gG} {n : Nat} {ad : Nat → Nat} {sh : Nat → (Nat → Int32) → va_E} {σ : gM} {own : String} {nL : Nat} {index : Nat}
theorem lv_as {x y : Int32} (h : x = y) (k : W p l e R s m args below meth c H locs cells slots Q (F0 m pc ls (.int y :: rest))) : W p l e R s m args below meth c H locs cells slots Q (F0 m pc ls (.int x :: rest)) := h ▸ k
theorem lv_as1 {x y : Int32} {v : Value} (h : x = y) (k : W p l e R s m args below meth c H locs cells slots Q (F0 m pc ls (v :: .int y :: rest))) : W p l e R s m args below meth c H locs cells slots Q (F0 m pc ls (v :: .int x :: rest)) := h ▸ k
theorem g_get {ci j : Nat} {fin : Bool} {ty : FieldType} (F : gFd own index ci j fin ty) (C : CallFix p m c cc nL s args Tb own) (hX : gX G s) {E : Nat → va_E} (hP : gP G.1 n ad E H) (k : Nat) (hk : k < n) {fs : List Value} (hE : E k = .inr (ci, fs)) {v : Value} (hv : fs[j]? = some v) (hdg : decode cc pc = .ok (.getfield index, 3))
    (kk : W p l e R s m args below meth c H locs cells slots Q (F0 m (pc + 3) ls (v :: rest))) : W p l e R s m args below meth c H locs cells slots Q (F0 m pc ls (.ref (ad k) :: rest)) := by
  obtain ⟨⟨C0, T, N⟩, hc, hj, hin, hlk, -, -, -, -⟩ := F
  obtain ⟨hx, hb, -, hown, hts⟩ := C
  exact va_get hx hb hts hin hown hX.1 hP.w k (by rw [gl_at hk]; exact congrArg (fun z => some (ad k, z)) hE) hc j hj (hts _ hlk) (fun _ h => h) hv hdg kk
theorem g_put {ci j : Nat} {ty : FieldType} (F : gFd own index ci j false ty) (C : CallFix p m c cc nL s args Tb own) (hX : gX G s) {b0 : Nat} (hI : gI b0 n ad) (hP : gP G.1 n ad (gE sh σ) H) (hS : va_S (gA n ad) s.heap H locs) (k : Nat) (hk : k < n) {fs : List Value} (hE : sh k (σ k) = .inr (ci, fs)) {v : Value} (hn : narrow ty v = v) (hfit : fits ty v = true) (hl : j < fs.length) (f' : Nat → Int32) (hs : (.inr (ci, fs.set j v) : va_E) = sh k f') (hdg : decode cc pc = .ok (.putfield index, 3))
    (kk : ∀ (H1 : Heap) (locs1 : List Loc), gP G.1 n ad (gE sh (va_up σ k f')) H1 → va_S (gA n ad) s.heap H1 locs1 → W p l e R s m args below meth c H1 locs1 cells slots Q (F0 m (pc + 3) ls rest)) : W p l e R s m args below meth c H locs cells slots Q (F0 m pc ls (v :: .ref (ad k) :: rest)) := by
  obtain ⟨⟨C0, T, N⟩, hc, hj, hin, hlk, hfin, hd, ⟨t, hty⟩, hnm⟩ := F
  obtain ⟨hx, hb, -, hown, hts⟩ := C
  refine va_put hx hb hts hin t hty hnm hown hX.1 hP.w (hI.D _) hS k (by rw [gl_at hk]; exact congrArg (fun z => some (ad k, z)) hE) hc j hj (hts _ hlk) (fun _ h => h) hfin hd hn hfit hl hdg (fun H1 l1 hP1 _ hS1 => kk H1 l1 ?_ hS1)
  rw [gl_set hk] at hP1
  refine (gP.of hP1).to (fun i hi => ?_)
  by_cases h : i = k
  · subst h
    rw [va_up_self]
    show _ = sh i (va_up σ i f' i)
    rw [va_up_self]
    exact hs
  · rw [va_up_ne _ _ h]
    show sh i (σ i) = sh i (va_up σ k f' i)
    rw [va_up_ne _ _ h]
theorem g_iald (C : CallFix p m c cc nL s args Tb own) (hX : gX G s) {E : Nat → va_E} (hP : gP G.1 n ad E H) (k : Nat) (hk : k < n) {N : Nat} {f : Nat → Int32} (hE : E k = .inl (G.2.1 0, N, .inl f)) (i : Nat) (hi : i < N) (hN : N < 2 ^ 31) (hdg : decode cc pc = .ok (.iaload, 1))
    (kk : W p l e R s m args below meth c H locs cells slots Q (F0 m (pc + 1) ls (.int (f i) :: rest))) : W p l e R s m args below meth c H locs cells slots Q (F0 m pc ls (.int (nI i) :: .ref (ad k) :: rest)) := by
  obtain ⟨hx, hb, -, hown, hts⟩ := C
  refine va_iald hx hb hX.1 hP.w k 0 (by rw [gl_at hk]; exact congrArg (fun z => some (ad k, z)) hE) rfl (vp_in_nI hi hN) hdg ?_
  rw [nI_clamp (by omega)]
  exact kk
theorem g_bald (C : CallFix p m c cc nL s args Tb own) (hX : gX G s) {E : Nat → va_E} (hP : gP G.1 n ad E H) (k : Nat) (hk : k < n) {N : Nat} {f : Nat → Int32} (hE : E k = .inl (G.2.1 1, N, .inl f)) (i : Nat) (hi : i < N) (hN : N < 2 ^ 31) (hdg : decode cc pc = .ok (.baload, 1))
    (kk : W p l e R s m args below meth c H locs cells slots Q (F0 m (pc + 1) ls (.int (f i) :: rest))) : W p l e R s m args below meth c H locs cells slots Q (F0 m pc ls (.int (nI i) :: .ref (ad k) :: rest)) := by
  obtain ⟨hx, hb, -, hown, hts⟩ := C
  refine va_bald hx hb hX.1 hP.w k 1 (by rw [gl_at hk]; exact congrArg (fun z => some (ad k, z)) hE) rfl (vp_in_nI hi hN) hdg ?_
  rw [nI_clamp (by omega)]
  exact kk
theorem g_aald (C : CallFix p m c cc nL s args Tb own) (hX : gX G s) {E : Nat → va_E} (hP : gP G.1 n ad E H) (k : Nat) (hk : k < n) {N t0 : Nat} {cA : ClassId} {C0 : String} {f : Nat → Option Nat} (hE : E k = .inl (cA, N, .inr (.inr (.inr (.inr f))))) (ht : (gTys G.2.1)[t0]? = some (cA, .object C0)) (i : Nat) (hi : i < N) (hN : N < 2 ^ 31) {a : Nat} (ha : f i = some a) (hdg : decode cc pc = .ok (.aaload, 1))
    (kk : W p l e R s m args below meth c H locs cells slots Q (F0 m (pc + 1) ls (.ref a :: rest))) : W p l e R s m args below meth c H locs cells slots Q (F0 m pc ls (.int (nI i) :: .ref (ad k) :: rest)) := by
  obtain ⟨hx, hb, -, hown, hts⟩ := C
  refine va_aldq hx hb hX.1 hP.w k t0 (by rw [gl_at hk]; exact congrArg (fun z => some (ad k, z)) hE) ht (vp_in_nI hi hN) hdg ?_
  rw [nI_clamp (by omega), ha]
  exact kk
theorem g_iast (C : CallFix p m c cc nL s args Tb own) (hX : gX G s) {b0 : Nat} (hI : gI b0 n ad) (hP : gP G.1 n ad (gE sh σ) H) (hS : va_S (gA n ad) s.heap H locs) (k : Nat) (hk : k < n) {N : Nat} {f : Nat → Int32} (hE : sh k (σ k) = .inl (G.2.1 0, N, .inl f)) (i : Nat) (hi : i < N) (hN : N < 2 ^ 31) {x : Int32} (f' : Nat → Int32) (hs : (.inl (G.2.1 0, N, .inl (upd f i x)) : va_E) = sh k f') (hdg : decode cc pc = .ok (.iastore, 1))
    (kk : ∀ (H1 : Heap) (locs1 : List Loc), gP G.1 n ad (gE sh (va_up σ k f')) H1 → va_S (gA n ad) s.heap H1 locs1 → W p l e R s m args below meth c H1 locs1 cells slots Q (F0 m (pc + 1) ls rest)) : W p l e R s m args below meth c H locs cells slots Q (F0 m pc ls (.int x :: .int (nI i) :: .ref (ad k) :: rest)) := by
  obtain ⟨hx, hb, -, hown, hts⟩ := C
  refine va_iast hx hb hX.1 hP.w (hI.D _) hS k 0 (by rw [gl_at hk]; exact congrArg (fun z => some (ad k, z)) hE) rfl (vp_in_nI hi hN) hdg (fun H1 l1 hP1 _ hS1 => kk H1 l1 ?_ hS1)
  rw [gl_set hk, nI_clamp (by omega)] at hP1
  refine (gP.of hP1).to (fun j hj => ?_)
  by_cases h : j = k
  · subst h
    rw [va_up_self]
    show _ = sh j (va_up σ j f' j)
    rw [va_up_self]
    exact hs
  · rw [va_up_ne _ _ h]
    show sh j (σ j) = sh j (va_up σ k f' j)
    rw [va_up_ne _ _ h]
theorem g_bast (C : CallFix p m c cc nL s args Tb own) (hX : gX G s) {b0 : Nat} (hI : gI b0 n ad) (hP : gP G.1 n ad (gE sh σ) H) (hS : va_S (gA n ad) s.heap H locs) (k : Nat) (hk : k < n) {N : Nat} {f : Nat → Int32} (hE : sh k (σ k) = .inl (G.2.1 1, N, .inl f)) (i : Nat) (hi : i < N) (hN : N < 2 ^ 31) {x : Int32} (f' : Nat → Int32) (hs : (.inl (G.2.1 1, N, .inl (upd f i x.toInt8.toInt32)) : va_E) = sh k f') (hdg : decode cc pc = .ok (.bastore, 1))
    (kk : ∀ (H1 : Heap) (locs1 : List Loc), gP G.1 n ad (gE sh (va_up σ k f')) H1 → va_S (gA n ad) s.heap H1 locs1 → W p l e R s m args below meth c H1 locs1 cells slots Q (F0 m (pc + 1) ls rest)) : W p l e R s m args below meth c H locs cells slots Q (F0 m pc ls (.int x :: .int (nI i) :: .ref (ad k) :: rest)) := by
  obtain ⟨hx, hb, -, hown, hts⟩ := C
  refine va_bast hx hb hX.1 hP.w (hI.D _) hS k 1 (by rw [gl_at hk]; exact congrArg (fun z => some (ad k, z)) hE) rfl (vp_in_nI hi hN) hdg (fun H1 l1 hP1 _ hS1 => kk H1 l1 ?_ hS1)
  rw [gl_set hk, nI_clamp (by omega), vp_nar_byte] at hP1
  refine (gP.of hP1).to (fun j hj => ?_)
  by_cases h : j = k
  · subst h
    rw [va_up_self]
    show _ = sh j (va_up σ j f' j)
    rw [va_up_self]
    exact hs
  · rw [va_up_ne _ _ h]
    show sh j (σ j) = sh j (va_up σ k f' j)
    rw [va_up_ne _ _ h]
/-- a static table, and one of its places -/
theorem g_gets {nm : String} {t b0 : Nat} (hZ : va_Z "LeftGloves$Glove" nm "[I" (.ref t) (fun q => b0 ≤ q) s s.heap) (C : CallFix p m c cc nL s args Tb own) (hS : va_S (fun q => b0 ≤ q) s.heap H locs) (hl : Cond.fieldLink own index "LeftGloves$Glove" nm "[I" ∈ Tb) (hdg : decode cc pc = .ok (.getstatic index, 3))
    (kk : W p l e R s m args below meth c H locs cells slots Q (F0 m (pc + 3) ls (.ref t :: rest))) : W p l e R s m args below meth c H locs cells slots Q (F0 m pc ls rest) := by
  obtain ⟨hx, hb, -, hown, hts⟩ := C
  exact va_gets hx hb hZ hS hown (hts _ hl) (fun _ h => h) hdg kk
theorem g_ti {t b0 N : Nat} {f : Nat → Int32} (hT : va_T .int t N (fun j => .int (f j)) (fun q => b0 ≤ q) s s.heap) (C : CallFix p m c cc nL s args Tb own) (hS : va_S (fun q => b0 ≤ q) s.heap H locs) (i : Nat) (hi : i < N) (hN : N < 2 ^ 31) (hdg : decode cc pc = .ok (.iaload, 1))
    (kk : W p l e R s m args below meth c H locs cells slots Q (F0 m (pc + 1) ls (.int (f i) :: rest))) : W p l e R s m args below meth c H locs cells slots Q (F0 m pc ls (.int (nI i) :: .ref t :: rest)) := by
  obtain ⟨hx, hb, -, hown, hts⟩ := C
  exact va_ti hx hb hT hS (vp_in_nI hi hN) (by show Value.int (f (nI i).toNatClampNeg) = _; rw [nI_clamp (by omega)]) hdg kk
end
