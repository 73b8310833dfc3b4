theorem gX.same {G : gG} {u U : State} (h : gX G u) (hv : U.vm = u.vm) (hh : U.heap = u.heap) : gX G U := by
  obtain ⟨h1, h2, ⟨t1, t2, t3, t4⟩, s1, s2, s3, s4⟩ := h
  have ha : u.vm.Alike U.vm := by rw [hv]; exact Vm.Alike.refl _
  have hq : ∀ a : Nat, a < u.heap.size → ¬ G.2.2.1 ≤ a → U.heap[a]? = u.heap[a]? := fun a _ _ => by rw [hh]
  refine ⟨va_K.moved ha h1, fun w hw => ?_, ⟨t1.go ha hq, t2.go ha hq, t3.go ha hq, t4.go ha hq⟩, (s1.kept hq).moved ha, fun i hi => (s2 i hi).same hv, (s3.kept hq).moved ha, (s4.kept hq).moved ha⟩
  obtain ⟨a, i, x, k, rfl⟩ := gNest_is w hw
  exact va_Nw.same rfl hv.symm (h2 _ hw)
theorem gZ.blind (G : gG) (n : Nat) (ad : Nat → Nat) (E : Nat → va_E) (av : Array Value) : FrameBlind (fun v U => v = av ∧ gZ G n ad E U) := fun a U g mk h => ⟨h.1, h.2.1.same rfl rfl, h.2.2⟩
theorem gTrue.blind (av : Array Value) : FrameBlind (fun v U => v = av ∧ (fun _ => True) U) := fun a U g mk h => ⟨h.1, trivial⟩
section
variable {p : Program} {l : Launch} {e : Env} {R : Room} {s : State} {m : MethodId} {args : Array Value} {below : List Frame} {meth : Method} {c : Code} {H : Heap} {locs : List Loc} {cells slots : Nat} {Q : State → Prop} {cc : ByteArray} {pc : Nat} {ls : Array Slot} {rest : List Value} {G : gG} {n : Nat} {ad : Nat → Nat} {sh : Nat → (Nat → Int32) → va_E} {σ : gM} {own : String} {nL : Nat} {index : Nat}
variable {y : MethodName} {b : ByteArray} {maxL : Nat} {ret : Option FieldType} {na ci : Nat} {rm : Room} {n1 : Nat} {ad1 : Nat → Nat} {E1 : Nat → va_E} {Qc : Array Value → State → Outcome → State → Prop} {free : Addr → Prop} {As st0 : List Value} {fs : List Value}
theorem gX.at {U : State} (hX : gX G s) (hS : va_S (fun q => G.2.2.1 ≤ q) s.heap H locs) (hU : U.heap = H) (hW : s.WarmedH U.vm) : gX G U := hX.go hW (fun a h1 h2 => by rw [hU]; exact hS.2.1 a h1 h2)
theorem g_runV (KY : gYV y b maxL ret na ci) (LK : Cond.methodLink own index y ∈ Tb) (C : CallFix p m c cc nL s args Tb own) (hX : gX G s) (hS : va_S (fun q => G.2.2.1 ≤ q) s.heap H locs) (hsub : gP G.1 n1 ad1 E1 H) (k1 : Nat) (hM : Met l y (tW y b maxL ret) rm (fun v U => v = (Value.ref (ad1 k1) :: As).toArray ∧ gZ G n1 ad1 E1 U) Qc 0 0 free) (hk1 : k1 < n1) (hE1 : E1 k1 = .inr (ci, fs)) (hR : gRm rm R maxL) (hn : As.length = na) (hsz : ls.size = nL) (hst : st0 = As.reverse ++ .ref (ad1 k1) :: rest) (hroom : (rest.map fun v => v.category).sum ≤ 8) (hcs : cells ≤ R.cells ∧ slots ≤ R.slots) (hdg : decode cc pc = .ok (.invokevirtual index, 3)) :
    va_Run p l e R s m args below meth c H locs cells slots 0 0 (F0 m pc ls st0) rest (Qc (Value.ref (ad1 k1) :: As).toArray) free := by
  subst hst
  have hts := C.2.2.2.2
  obtain ⟨k1', k2, k3, k4, kd, q, hq, hqc⟩ := KY
  exact va_runV C hM ⟨callB_of na hts (tW_in k1') rfl hR.1 hR.2.1 (hts _ k2) (hts _ LK) kd hR.2.2, hts _ k3, hts _ k4⟩ ⟨gZ.blind G n1 ad1 E1 _, by rw [← hqc]; exact va_recv hX.1 hsub.w hq (by rw [gl_at hk1]; exact congrArg (fun z => some (ad1 k1, z)) hE1), fun U hU hW => ⟨rfl, hX.at hS hU hW, by rw [hU]; exact hsub⟩⟩ rfl hn hsz rfl (lv_room hroom) hdg hcs
theorem g_runS (KY : gYS y b maxL ret na) (LK : Cond.methodLink own index y ∈ Tb) (C : CallFix p m c cc nL s args Tb own) (hM : Met l y (tW y b maxL ret) rm (fun v U => v = As.toArray ∧ (fun _ => True) U) Qc 0 0 free) (hR : gRm rm R maxL) (hn : As.length = na) (hsz : ls.size = nL) (hst : st0 = As.reverse ++ rest) (hroom : (rest.map fun v => v.category).sum ≤ 8) (hcs : cells ≤ R.cells ∧ slots ≤ R.slots) (hdg : decode cc pc = .ok (.invokestatic index, 3)) :
    va_Run p l e R s m args below meth c H locs cells slots 0 0 (F0 m pc ls st0) rest (Qc As.toArray) free := by
  subst hst
  have hts := C.2.2.2.2
  obtain ⟨k1', k2, k3, kd⟩ := KY
  exact va_runS C hM ⟨callB_of na hts (tW_in k1') rfl hR.1 hR.2.1 (hts _ k2) (hts _ LK) kd hR.2.2, hts _ k3⟩ ⟨gTrue.blind _, fun U hU hW => ⟨rfl, trivial⟩⟩ rfl hn hsz rfl (lv_room hroom) hdg hcs
theorem g_runSW (KY : gYS y b maxL ret na) (LK : Cond.methodLink own index y ∈ Tb) (C : CallFix p m c cc nL s args Tb own) (hX : gX G s) (hS : va_S (fun q => G.2.2.1 ≤ q) s.heap H locs) (hsub : gP G.1 n1 ad1 E1 H) (hM : Met l y (tW y b maxL ret) rm (fun v U => v = As.toArray ∧ gZ G n1 ad1 E1 U) Qc 0 0 free) (hR : gRm rm R maxL) (hn : As.length = na) (hsz : ls.size = nL) (hst : st0 = As.reverse ++ rest) (hroom : (rest.map fun v => v.category).sum ≤ 8) (hcs : cells ≤ R.cells ∧ slots ≤ R.slots) (hdg : decode cc pc = .ok (.invokestatic index, 3)) :
    va_Run p l e R s m args below meth c H locs cells slots 0 0 (F0 m pc ls st0) rest (Qc As.toArray) free := by
  subst hst
  have hts := C.2.2.2.2
  obtain ⟨k1', k2, k3, kd⟩ := KY
  exact va_runS C hM ⟨callB_of na hts (tW_in k1') rfl hR.1 hR.2.1 (hts _ k2) (hts _ LK) kd hR.2.2, hts _ k3⟩ ⟨gZ.blind G n1 ad1 E1 _, fun U hU hW => ⟨rfl, hX.at hS hU hW, by rw [hU]; exact hsub⟩⟩ rfl hn hsz rfl (lv_room hroom) hdg hcs
theorem g_runSN (KY : gYS y b maxL ret na) {host : String} (LK : Cond.methodLinkNest own index y host ∈ gNest) (hX : gX G s) (C : CallFix p m c cc nL s args Tb own) (hM : Met l y (tW y b maxL ret) rm (fun v U => v = As.toArray ∧ (fun _ => True) U) Qc 0 0 free) (hR : gRm rm R maxL) (hn : As.length = na) (hsz : ls.size = nL) (hst : st0 = As.reverse ++ rest) (hroom : (rest.map fun v => v.category).sum ≤ 8) (hcs : cells ≤ R.cells ∧ slots ≤ R.slots) (hdg : decode cc pc = .ok (.invokestatic index, 3)) :
    va_Run p l e R s m args below meth c H locs cells slots 0 0 (F0 m pc ls st0) rest (Qc As.toArray) free := by
  subst hst
  have hts := C.2.2.2.2
  obtain ⟨k1', k2, k3, kd⟩ := KY
  exact va_runSN C hM ⟨va_cnB na hts (tW_in k1') rfl hR.1 hR.2.1 (hX.2.1 _ LK) (hts _ k2) kd hR.2.2, hts _ k3, trivial⟩ ⟨gTrue.blind _, fun U hU hW => ⟨rfl, trivial⟩⟩ rfl hn hsz rfl (lv_room hroom) hdg hcs
/-- behind a call: of a function or a reader; of a writer -/
theorem g_rd {r : Int32} {a : Array Value} (hr : va_Run p l e R s m args below meth c H locs cells slots 0 0 (F0 m pc ls st0) rest (vp_Si (fun x => x = r) a) (fun _ => False)) (kk : W p l e R s m args below meth c H locs cells slots Q (F0 m (pc + 3) ls (.int r :: rest))) : W p l e R s m args below meth c H locs cells slots Q (F0 m pc ls st0) :=
  vp_callSi hr.run (fun x hx => by rw [hx]; exact kk)
theorem g_rdL {r : Int64} {a : Array Value} (hr : va_Run p l e R s m args below meth c H locs cells slots 0 0 (F0 m pc ls st0) rest (vp_Sl (fun x => x = r) a) (fun _ => False)) (kk : W p l e R s m args below meth c H locs cells slots Q (F0 m (pc + 3) ls (.long r :: rest))) : W p l e R s m args below meth c H locs cells slots Q (F0 m pc ls st0) :=
  vp_callSl hr.run (fun x hx => by rw [hx]; exact kk)
/-- a part of a world at a place o, of m objects -/
theorem gP.sub {D : va_G} {sh1 : Nat → (Nat → Int32) → va_E} (h : gP D n ad (gE sh σ) H) (o m1 : Nat) (hm : o + m1 ≤ n) (hs : ∀ i, i < m1 → ∀ f, sh (o + i) f = sh1 i f) : gP D m1 (fun i => ad (o + i)) (gE sh1 (mget σ o)) H := fun k hk => by
  have h1 := h (o + k) (by omega)
  show va_at D vwCl (ad (o + k), sh1 k (σ (o + k))) H
  rw [← hs k hk]
  exact h1
theorem gP.join {D : va_G} {b0 : Nat} {sh1 : Nat → (Nat → Int32) → va_E} {τ : gM} {H1 : Heap} (h : gP D n ad (gE sh σ) H) (hI : gI b0 n ad) (o m1 : Nat) (hm : o + m1 ≤ n) (hs : ∀ i, i < m1 → ∀ f, sh (o + i) f = sh1 i f) (hk : ∀ q : Nat, q < H.size → ¬ gA m1 (fun i => ad (o + i)) q → H1[q]? = H[q]?) (h1 : gP D m1 (fun i => ad (o + i)) (gE sh1 τ) H1) : gP D n ad (gE sh (mput σ o m1 τ)) H1 := fun k hkn => by
  show va_at D vwCl (ad k, sh k (mput σ o m1 τ k)) H1
  by_cases hr : o ≤ k ∧ k < o + m1
  · obtain ⟨i, rfl⟩ : ∃ i, k = o + i := ⟨k - o, by omega⟩
    rw [mput_in _ _ (by omega), hs i (by omega)]
    exact h1 i (by omega)
  · rw [mput_out _ _ (by omega)]
    have h2 := h k hkn
    refine h2.kept (hk (ad k) h2.lt ?_)
    rintro ⟨i, hi, he⟩
    have := hI.1 k (o + i) hkn (by omega) he
    omega
theorem gA_sub {o m1 : Nat} (hm : o + m1 ≤ n) {q : Nat} (h : gA m1 (fun i => ad (o + i)) q) : gA n ad q := by
  obtain ⟨k, hk, rfl⟩ := h
  exact ⟨o + k, by omega, rfl⟩
variable {sh1 : Nat → (Nat → Int32) → va_E}
theorem g_wrV {o m1 : Nat} {r : gM} {a : Array Value} {b0 : Nat} (hm : o + m1 ≤ n) (hs : ∀ i, i < m1 → ∀ f, sh (o + i) f = sh1 i f) (hI : gI b0 n ad) (hP : gP G.1 n ad (gE sh σ) H) (hS : va_S (gA n ad) s.heap H locs)
    (hr : va_Run p l e R s m args below meth c H locs cells slots 0 0 (F0 m pc ls st0) rest (va_Qv (fun τ : gM => τ = r) (fun τ t => gP G.1 m1 (fun i => ad (o + i)) (gE sh1 τ) t.heap) (gA m1 (fun i => ad (o + i))) a) (gA m1 (fun i => ad (o + i))))
    (kk : ∀ (H1 : Heap) (locs1 : List Loc), gP G.1 n ad (gE sh (mput σ o m1 r)) H1 → va_S (gA n ad) s.heap H1 locs1 → W p l e R s m args below meth c H1 locs1 cells slots Q (F0 m (pc + 3) ls rest)) : W p l e R s m args below meth c H locs cells slots Q (F0 m pc ls st0) :=
  va_callv hr hS (fun q _ h => gA_sub hm h) (fun q h => gA_sub hm h) (fun u t H1 l1 ht _ hp hB hz hk hS1 => by
    subst hp
    refine kk H1 l1 (hP.join hI o m1 hm hs hk ?_) hS1
    rw [← ht]; exact hB)
theorem g_wrI {o m1 : Nat} {r : Int32 × gM} {a : Array Value} {b0 : Nat} (hm : o + m1 ≤ n) (hs : ∀ i, i < m1 → ∀ f, sh (o + i) f = sh1 i f) (hI : gI b0 n ad) (hP : gP G.1 n ad (gE sh σ) H) (hS : va_S (gA n ad) s.heap H locs)
    (hr : va_Run p l e R s m args below meth c H locs cells slots 0 0 (F0 m pc ls st0) rest (va_Qi (fun (x : Int32) (τ : gM) => r = (x, τ)) (fun τ t => gP G.1 m1 (fun i => ad (o + i)) (gE sh1 τ) t.heap) (gA m1 (fun i => ad (o + i))) a) (gA m1 (fun i => ad (o + i))))
    (kk : ∀ (H1 : Heap) (locs1 : List Loc), gP G.1 n ad (gE sh (mput σ o m1 r.2)) H1 → va_S (gA n ad) s.heap H1 locs1 → W p l e R s m args below meth c H1 locs1 cells slots Q (F0 m (pc + 3) ls (.int r.1 :: rest))) : W p l e R s m args below meth c H locs cells slots Q (F0 m pc ls st0) :=
  va_calli hr hS (fun q _ h => gA_sub hm h) (fun q h => gA_sub hm h) (fun x u t H1 l1 ht _ hp hB hz hk hS1 => by
    subst hp
    refine kk H1 l1 (hP.join hI o m1 hm hs hk ?_) hS1
    rw [← ht]; exact hB)
/-- the whole world itself -/
theorem g_wrV0 {r : gM} {a : Array Value} (hS : va_S (gA n ad) s.heap H locs)
    (hr : va_Run p l e R s m args below meth c H locs cells slots 0 0 (F0 m pc ls st0) rest (va_Qv (fun τ : gM => τ = r) (fun τ t => gP G.1 n ad (gE sh τ) t.heap) (gA n ad) a) (gA n ad))
    (kk : ∀ (H1 : Heap) (locs1 : List Loc), gP G.1 n ad (gE sh r) H1 → va_S (gA n ad) s.heap H1 locs1 → W p l e R s m args below meth c H1 locs1 cells slots Q (F0 m (pc + 3) ls rest)) : W p l e R s m args below meth c H locs cells slots Q (F0 m pc ls st0) :=
  va_callv hr hS (fun q _ h => h) (fun q h => h) (fun u t H1 l1 ht _ hp hB hz hk hS1 => by
    subst hp
    refine kk H1 l1 ?_ hS1
    rw [← ht]; exact hB)
theorem g_wrI0 {r : Int32 × gM} {a : Array Value} (hS : va_S (gA n ad) s.heap H locs)
    (hr : va_Run p l e R s m args below meth c H locs cells slots 0 0 (F0 m pc ls st0) rest (va_Qi (fun (x : Int32) (τ : gM) => r = (x, τ)) (fun τ t => gP G.1 n ad (gE sh τ) t.heap) (gA n ad) a) (gA n ad))
    (kk : ∀ (H1 : Heap) (locs1 : List Loc), gP G.1 n ad (gE sh r.2) H1 → va_S (gA n ad) s.heap H1 locs1 → W p l e R s m args below meth c H1 locs1 cells slots Q (F0 m (pc + 3) ls (.int r.1 :: rest))) : W p l e R s m args below meth c H locs cells slots Q (F0 m pc ls st0) :=
  va_calli hr hS (fun q _ h => h) (fun q h => h) (fun x u t H1 l1 ht _ hp hB hz hk hS1 => by
    subst hp
    refine kk H1 l1 ?_ hS1
    rw [← ht]; exact hB)
/-- ends -/
theorem g_iret {r v : Int32} {ty : FieldType} {free : Addr → Prop} (C : CallFix p m c cc nL s args Tb own) (hr : meth.sig.returnType = some ty) (hlk : meth.locks = false) (hn : narrow ty (.int v) = .int v) (he : r = v) (hh : H = s.heap) (hL : locs = []) (hdg : decode cc pc = .ok (.ireturn, 1)) : W p l e R s m args below meth c H locs cells slots (MQ below (vp_Si (fun x => x = r)) args s cells slots free) (F0 m pc ls [.int v]) :=
  W.zret C.1 C.2.1 hr hn (fun t ht hW => ⟨v, rfl, he.symm, by rw [ht, hh]⟩) (fun q hq => by rw [hL] at hq; cases hq) hdg hlk
theorem g_lret {r v : Int64} {free : Addr → Prop} (C : CallFix p m c cc nL s args Tb own) (hr : meth.sig.returnType = some .long) (hlk : meth.locks = false) (he : r = v) (hh : H = s.heap) (hL : locs = []) (hdg : decode cc pc = .ok (.lreturn, 1)) : W p l e R s m args below meth c H locs cells slots (MQ below (vp_Sl (fun x => x = r)) args s cells slots free) (F0 m pc ls [.long v]) :=
  W.lret C.1 C.2.1 hr (fun t ht hW => ⟨v, rfl, he.symm, by rw [ht, hh]⟩) (fun q hq => by rw [hL] at hq; cases hq) hdg hlk
theorem g_vretM {r : gM} (C : CallFix p m c cc nL s args Tb own) (hr : meth.sig.returnType = none) (hlk : meth.locks = false) (he : r = σ) (hP : gP G.1 n ad (gE sh σ) H) (hS : va_S (gA n ad) s.heap H locs) (hdg : decode cc pc = .ok (.return_, 1)) : W p l e R s m args below meth c H locs cells slots (MQ below (va_Qv (fun τ : gM => τ = r) (fun τ t => gP G.1 n ad (gE sh τ) t.heap) (gA n ad)) args s cells slots (gA n ad)) (F0 m pc ls []) :=
  W.vret C.1 C.2.1 hr (fun t ht hW => ⟨⟨σ, rfl, he.symm, by subst ht; exact hP⟩, hS.F ht⟩) hS.2.2 hdg hlk
theorem g_iretM {r : Int32 × gM} {v : Int32} {ty : FieldType} (C : CallFix p m c cc nL s args Tb own) (hr : meth.sig.returnType = some ty) (hlk : meth.locks = false) (hn : narrow ty (.int v) = .int v) (he : r = (v, σ)) (hP : gP G.1 n ad (gE sh σ) H) (hS : va_S (gA n ad) s.heap H locs) (hdg : decode cc pc = .ok (.ireturn, 1)) : W p l e R s m args below meth c H locs cells slots (MQ below (va_Qi (fun (x : Int32) (τ : gM) => r = (x, τ)) (fun τ t => gP G.1 n ad (gE sh τ) t.heap) (gA n ad)) args s cells slots (gA n ad)) (F0 m pc ls [.int v]) :=
  W.zret C.1 C.2.1 hr hn (fun t ht hW => ⟨⟨v, σ, rfl, he, by subst ht; exact hP⟩, hS.F ht⟩) hS.2.2 hdg hlk
theorem g_lretM {r : Int64 × gM} {v : Int64} (C : CallFix p m c cc nL s args Tb own) (hr : meth.sig.returnType = some .long) (hlk : meth.locks = false) (he : r = (v, σ)) (hP : gP G.1 n ad (gE sh σ) H) (hS : va_S (gA n ad) s.heap H locs) (hdg : decode cc pc = .ok (.lreturn, 1)) : W p l e R s m args below meth c H locs cells slots (MQ below (va_Ql (fun (x : Int64) (τ : gM) => r = (x, τ)) (fun τ t => gP G.1 n ad (gE sh τ) t.heap) (gA n ad)) args s cells slots (gA n ad)) (F0 m pc ls [.long v]) :=
  W.lret C.1 C.2.1 hr (fun t ht hW => ⟨⟨v, σ, rfl, he, by subst ht; exact hP⟩, hS.F ht⟩) hS.2.2 hdg hlk
end
