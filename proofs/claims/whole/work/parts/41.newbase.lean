
def wW (D : va_G) (A : Nat → Prop) (ws : va_W) (H : Heap) : Prop := (∀ q ∈ ws, va_at D vwCl q H) ∧ (ws.map (fun q => q.1)).Nodup ∧ ∀ q ∈ ws, A q.1
theorem wW.P {D : va_G} {A : Nat → Prop} {ws : va_W} {H : Heap} (h : wW D A ws H) : va_P D vwCl ws H := fun _ q hk => h.1 q (List.mem_of_getElem? hk)
theorem wW.ix {D : va_G} {A : Nat → Prop} {ws : va_W} {H : Heap} (h : wW D A ws H) (i j : Nat) (p q : Nat × va_E) (hi : ws[i]? = some p) (hj : ws[j]? = some q) (he : p.1 = q.1) : i = j := by
  have hl : i < (ws.map (fun q => q.1)).length := by simpa using (List.getElem?_eq_some_iff.mp hi).1
  exact (List.getElem?_inj hl h.2.1).mp (by rw [List.getElem?_map, List.getElem?_map, hi, hj]; exact congrArg some he)
theorem wW.D {D : va_G} {A : Nat → Prop} {ws : va_W} {H : Heap} (h : wW D A ws H) : va_D A ws := ⟨h.ix, fun _ q hk => h.2.2 q (List.mem_of_getElem? hk)⟩
theorem wset {ws : va_W} {a : Nat} {e e' : va_E} {q0 : Nat} (h : ws[q0]? = some (a, e)) : (ws.set q0 (a, e')).map (fun q => q.1) = ws.map (fun q => q.1) := by
  apply List.ext_getElem?
  intro i
  rw [List.getElem?_map, List.getElem?_map]
  by_cases hi : q0 = i
  · subst hi
    rw [List.getElem?_set_self (List.getElem?_eq_some_iff.mp h).1, h]
    rfl
  · rw [List.getElem?_set_ne hi]
theorem wW.set {D : va_G} {A : Nat → Prop} {ws : va_W} {H H1 : Heap} (h : wW D A ws H) {a : Nat} {e e' : va_E} (q0 : Nat) (h0 : ws[q0]? = some (a, e)) (hP : va_P D vwCl (ws.set q0 (a, e')) H1) : wW D A (ws.set q0 (a, e')) H1 := by
  refine ⟨fun q hq => ?_, by rw [wset h0]; exact h.2.1, fun q hq => ?_⟩
  · obtain ⟨i, hi⟩ := List.mem_iff_getElem?.mp hq
    exact hP i q hi
  · have : q.1 ∈ (ws.set q0 (a, e')).map (fun q => q.1) := List.mem_map_of_mem hq
    rw [wset h0] at this
    obtain ⟨x, hx, e1⟩ := List.mem_map.mp this
    rw [← e1]
    exact h.2.2 x hx
theorem wW.ins {D : va_G} {A : Nat → Prop} {ws : va_W} {H H1 : Heap} (h : wW D A ws H) {q : Nat} {e : va_E} (p : Nat) (hq : va_at D vwCl (q, e) H1) (hk : ∀ x ∈ ws, H1[x.1]? = H[x.1]?) (hn : ∀ x ∈ ws, ¬ x.1 = q) (hA : A q) : wW D A (ws.take p ++ (q, e) :: ws.drop p) H1 := by
  have hm : ∀ x, x ∈ ws.take p ++ (q, e) :: ws.drop p → x = (q, e) ∨ x ∈ ws := by
    intro x hx
    rcases List.mem_append.mp hx with h1 | h1
    · exact Or.inr (List.mem_of_mem_take h1)
    · rcases List.mem_cons.mp h1 with h2 | h2
      · exact Or.inl h2
      · exact Or.inr (List.mem_of_mem_drop h2)
  refine ⟨fun x hx => ?_, ?_, fun x hx => ?_⟩
  · rcases hm x hx with rfl | h1
    · exact hq
    · exact (h.1 x h1).kept (hk x h1)
  · rw [List.map_append, List.map_cons]
    refine (List.perm_middle.nodup_iff).mpr ?_
    rw [← List.map_append, List.take_append_drop]
    refine List.nodup_cons.mpr ⟨fun hx => ?_, h.2.1⟩
    obtain ⟨y, hy, e1⟩ := List.mem_map.mp hx
    exact hn y hy e1
  · rcases hm x hx with rfl | h1
    · exact hA
    · exact h.2.2 x h1
/-- addresses apart, of a kind -/
def gIA (A : Nat → Prop) (n : Nat) (ad : Nat → Nat) : Prop := (∀ i j, i < n → j < n → ad i = ad j → i = j) ∧ ∀ k, k < n → A (ad k)
theorem gl_fst (n : Nat) (ad : Nat → Nat) (E : Nat → va_E) : (gl n ad E).map (fun q => q.1) = (List.range n).map ad := by
  unfold gl
  rw [List.map_map]
  rfl
theorem gl_nodup {A : Nat → Prop} {n : Nat} {ad : Nat → Nat} (h : gIA A n ad) : ((List.range n).map ad).Nodup := by
  unfold List.Nodup
  rw [List.pairwise_map]
  refine List.Pairwise.imp_of_mem (fun {a b} ha hb hab he => ?_) List.pairwise_lt_range
  have := h.1 a b (List.mem_range.mp ha) (List.mem_range.mp hb) he
  omega
theorem gl_mem {n : Nat} {ad : Nat → Nat} {E : Nat → va_E} {x : Nat × va_E} (h : x ∈ gl n ad E) : ∃ k, k < n ∧ x = (ad k, E k) := by
  obtain ⟨k, hk, e⟩ := List.mem_map.mp h
  exact ⟨k, List.mem_range.mp hk, e.symm⟩
theorem wsplit {ws : va_W} {x : Nat × va_E} {p : Nat} (h : ws[p]? = some x) : ws = ws.take p ++ x :: ws.drop (p + 1) := by
  have hl := (List.getElem?_eq_some_iff.mp h).1
  have e : ws[p] = x := (List.getElem?_eq_some_iff.mp h).2
  rw [← e, ← List.drop_eq_getElem_cons hl, List.take_append_drop]
theorem wW.call {D : va_G} {A : Nat → Prop} {ws : va_W} {H H1 : Heap} (h : wW D A ws H) {q : Nat} {e : va_E} (p : Nat) (hp : ws[p]? = some (q, e)) {n : Nat} {cd : Nat → Nat} {F : Nat → va_E} (hI : gIA (fun z => z = q ∨ H.size ≤ z) n cd) (hP : gP D n cd F H1) (hk : ∀ z : Nat, z < H.size → ¬ (z = q ∨ H.size ≤ z) → H1[z]? = H[z]?) (hA : ∀ z, (z = q ∨ H.size ≤ z) → A z) : wW D A (ws.take p ++ (gl n cd F ++ ws.drop (p + 1))) H1 := by
  have hs := wsplit hp
  have hnd : (q :: (ws.take p ++ ws.drop (p + 1)).map (fun x => x.1)).Nodup := by
    have h2 := h.2.1
    rw [hs, List.map_append, List.map_cons] at h2
    rw [List.map_append]
    exact (List.perm_middle.nodup_iff).mp h2
  obtain ⟨hq, hno⟩ := List.nodup_cons.mp hnd
  have hin : ∀ x, x ∈ ws.take p ++ ws.drop (p + 1) → x ∈ ws := by
    intro x hx
    rcases List.mem_append.mp hx with h1 | h1
    · exact List.mem_of_mem_take h1
    · exact List.mem_of_mem_drop h1
  have hold : ∀ x, x ∈ ws.take p ++ ws.drop (p + 1) → x.1 < H.size ∧ ¬ x.1 = q := fun x hx => ⟨(h.1 x (hin x hx)).lt, fun e1 => hq (by rw [← e1]; exact List.mem_map_of_mem hx)⟩
  have hm : ∀ x, x ∈ ws.take p ++ (gl n cd F ++ ws.drop (p + 1)) → x ∈ gl n cd F ∨ x ∈ ws.take p ++ ws.drop (p + 1) := by
    intro x hx
    rcases List.mem_append.mp hx with h1 | h1
    · exact Or.inr (List.mem_append_left _ h1)
    · rcases List.mem_append.mp h1 with h2 | h2
      · exact Or.inl h2
      · exact Or.inr (List.mem_append_right _ h2)
  refine ⟨fun x hx => ?_, ?_, fun x hx => ?_⟩
  · rcases hm x hx with h1 | h1
    · obtain ⟨k, hkn, rfl⟩ := gl_mem h1
      exact hP k hkn
    · obtain ⟨a1, a2⟩ := hold x h1
      exact (h.1 x (hin x h1)).kept (hk x.1 a1 (fun z => z.elim a2 (fun z => by omega)))
  · have e1 : ((ws.take p ++ (gl n cd F ++ ws.drop (p + 1))).map (fun x => x.1)).Perm ((gl n cd F ++ (ws.take p ++ ws.drop (p + 1))).map (fun x => x.1)) := (List.perm_append_comm_assoc _ _ _).map _
    refine e1.nodup_iff.mpr ?_
    rw [List.map_append, gl_fst]
    refine List.nodup_append.mpr ⟨gl_nodup hI, hno, fun a ha b hb hab => ?_⟩
    obtain ⟨k, hk1, rfl⟩ := List.mem_map.mp ha
    obtain ⟨y, hy, rfl⟩ := List.mem_map.mp hb
    obtain ⟨a1, a2⟩ := hold y hy
    rcases hI.2 k (List.mem_range.mp hk1) with z | z
    · exact a2 (by rw [← hab]; exact z)
    · omega
  · rcases hm x hx with h1 | h1
    · obtain ⟨k, hkn, rfl⟩ := gl_mem h1
      exact hA _ (hI.2 k hkn)
    · exact h.2.2 x (hin x h1)
/-- the start of a constructor's machine -/
def gY (G : gG) (U : State) : Prop := gX G U ∧ va_AO "LeftGloves$Glove" U ∧ va_AO "LeftGloves$Sheet" U
theorem gY.same {G : gG} {u U : State} (h : gY G u) (hv : U.vm = u.vm) (hh : U.heap = u.heap) : gY G U := ⟨h.1.same hv hh, h.2.1.moved (by rw [hv]; exact Vm.Alike.refl _), h.2.2.moved (by rw [hv]; exact Vm.Alike.refl _)⟩
theorem gY.at {G : gG} {s U : State} {H : Heap} {locs : List Loc} (h : gY G s) (hS : va_S (fun q => G.2.2.1 ≤ q) s.heap H locs) (hU : U.heap = H) (hW : s.WarmedH U.vm) : gY G U := ⟨h.1.at hS hU hW, h.2.1.moved hW.alike, h.2.2.moved hW.alike⟩
def gCP (G : gG) (h0 sz ci : Nat) (fs : List Value) (v : Array Value) (U : State) : Prop := v = ([.ref h0] : List Value).toArray ∧ gY G U ∧ U.heap.size = sz ∧ va_at G.1 vwCl (h0, .inr (ci, fs)) U.heap ∧ G.2.2.1 ≤ h0
def gCQ (G : gG) (h0 sz n1 th : Nat) (F : (Nat → Nat) → Nat → va_E) : Array Value → State → Outcome → State → Prop := va_Qv (fun cd : Nat → Nat => cd th = h0 ∧ gIA (fun z => z = h0 ∨ sz ≤ z) n1 cd) (fun cd t => gP G.1 n1 cd (F cd) t.heap) (fun z => z = h0 ∨ sz ≤ z)
def gCon (l : Launch) (y : MethodName) (b : ByteArray) (maxL : Nat) (rm : Room) (G : gG) (h0 sz ci : Nat) (fs : List Value) (n1 th : Nat) (F : (Nat → Nat) → Nat → va_E) (mc ms : Nat) : Prop := Met l y (tW y b maxL none) rm (gCP G h0 sz ci fs) (gCQ G h0 sz n1 th F) mc ms (fun z => z = h0 ∨ sz ≤ z)
theorem gCP.blind (G : gG) (h0 sz ci : Nat) (fs : List Value) : FrameBlind (gCP G h0 sz ci fs) := fun a U g mk h => ⟨h.1, h.2.1.same rfl rfl, h.2.2⟩
theorem g_startC {l : Launch} {y : MethodName} {b : ByteArray} {maxL : Nat} {rm : Room} {G : gG} {h0 sz ci : Nat} {fs : List Value} {Qc : Array Value → State → Outcome → State → Prop} {mc ms : Nat} (hy : plainName y.cls = true) (hsl : 1 ≤ maxL)
    (body : ∀ (p : Program) (e : Env) (s : State) (m : MethodId) (below : List Frame) (meth : Method) (c : Code) (ls : Array Slot), gB p s m ([.ref h0] : List Value).toArray meth c b maxL none y.cls → meth.name = y.name → gY G s → s.heap.size = sz → wW G.1 (fun z => z = h0 ∨ sz ≤ z) [(h0, .inr (ci, fs))] s.heap → (∀ z, (z = h0 ∨ sz ≤ z) → G.2.2.1 ≤ z) → lv_has ls maxL [(0, .ref h0)] → W p l e rm s m ([.ref h0] : List Value).toArray below meth c s.heap [] 0 0 (MQ below Qc ([.ref h0] : List Value).toArray s mc ms (fun z => z = h0 ∨ sz ≤ z)) (F0 m 0 ls [])) :
    Met l y (tW y b maxL none) rm (gCP G h0 sz ci fs) Qc mc ms (fun z => z = h0 ∨ sz ≤ z) := by
  refine Met.ofW (cc := b) (maxL := maxL) (ret := none) hy rfl ?_
  intro p e s m args below meth c s₁ B hml hv
  obtain ⟨rfl, hY, hsz, hat, hb0⟩ := hv
  have hts := atoms_spec (ws := tW y b maxL none) B.pre
  have hl := lv_entry ([.ref h0] : List Value) (n := maxL) hsl
  rw [lg_entry_eq]
  have hlt := hat.lt
  refine body p e s m below meth c _ ⟨⟨B.exec, B.bytes, hml, findClass_of_methodNamed B.named, fun w h => hts w (List.mem_cons_of_mem _ h)⟩, B.returns, B.notSynchronized⟩ (name_of_methodNamed B.named B.method).1 hY hsz ⟨fun q hq => ?_, ?_, fun q hq => ?_⟩ (fun z hz => ?_) hl
  · rw [List.mem_singleton.mp hq]; exact hat
  · exact List.nodup_cons.mpr ⟨List.not_mem_nil, List.nodup_nil⟩
  · rw [List.mem_singleton.mp hq]; exact Or.inl rfl
  · have h2 : h0 < sz := by rw [← hsz]; exact hlt
    omega
theorem ar_same {U : State} {cA cB : ClassId} {ty : FieldType} (h1 : va_RA U cA ty) (h2 : va_RA U cB ty) : cA = cB := by
  cases ty with
  | object C =>
    obtain ⟨_, _, _, _, _, e1⟩ := h1
    obtain ⟨_, _, _, _, _, e2⟩ := h2
    rw [e1] at e2
    exact Option.some.inj e2
  | _ =>
    have e1 : U.vm.findClass _ = some cA := h1
    have e2 : U.vm.findClass _ = some cB := h2
    rw [e1] at e2
    exact Option.some.inj e2
section
variable {p : Program} {l : Launch} {e : Env} {R : Room} {s : State} {m : MethodId} {args : Array Value} {below : List Frame} {meth : Method} {c : Code} {H : Heap} {locs : List Loc} {cells slots : Nat} {Q : State → Prop} {cc : ByteArray} {pc : Nat} {ls : Array Slot} {rest : List Value} {G : gG} {own : String} {nL : Nat} {index : Nat} {A : Nat → Prop} {ws : va_W}
theorem n_old {D : va_G} {q : Nat} {e1 : va_E} (hW : wW D A ws H) (hD : va_D A (ws ++ [(q, e1)])) : (∀ x ∈ ws, ¬ x.1 = q) ∧ A q := by
  refine ⟨fun x hx he => ?_, hD.2 ws.length (q, e1) (by rw [List.getElem?_append_right (Nat.le_refl _), Nat.sub_self]; rfl)⟩
  obtain ⟨i, hi⟩ := List.mem_iff_getElem?.mp hx
  have hl := (List.getElem?_eq_some_iff.mp hi).1
  have := hD.1 i ws.length x (q, e1) (by rw [List.getElem?_append_left hl]; exact hi) (by rw [List.getElem?_append_right (Nat.le_refl _), Nat.sub_self]; rfl) he
  omega
theorem n_ins {D : va_G} {q : Nat} {e1 : va_E} {H1 : Heap} (hW : wW D A ws H) (hP : va_P D vwCl (ws ++ [(q, e1)]) H1) (hD : va_D A (ws ++ [(q, e1)])) (pp : Nat) : wW D A (ws.take pp ++ (q, e1) :: ws.drop pp) H1 := by
  obtain ⟨h1, h2⟩ := n_old hW hD
  have hat : ∀ x ∈ ws ++ [(q, e1)], va_at D vwCl x H1 := fun x hx => by
    obtain ⟨i, hi⟩ := List.mem_iff_getElem?.mp hx
    exact hP i x hi
  refine wW.ins (H := H1) ⟨fun x hx => hat x (List.mem_append_left _ hx), hW.2.1, hW.2.2⟩ pp (hat _ (List.mem_append_right _ (List.mem_singleton.mpr rfl))) (fun _ _ => rfl) h1 h2
theorem n_new {C0 : String} {T : u_T} {N ci : Nat} (C : CallFix p m c cc nL s args Tb own) (hY : gY G s) (hW : wW G.1 A ws H) (hS : va_S A s.heap H locs) (hA : ∀ q, s.heap.size ≤ q → A q) (hin : ∀ w ∈ u_ws C0 T N, w ∈ Tb) (ty : Nat → FieldType) (hty : ∀ k, k < N → parseFieldDescriptor (T k).2.2.1 = some (ty k)) (hcl : Cond.classLink own index C0 ∈ Tb) (hinst : Cond.instantiable C0 N ∈ Tb) (hini : Cond.initialized C0 ∈ Tb) (hc : vwCl[ci]? = some (C0, T, N)) {fs : List Value} (hfs : ∀ j, j < N → defaultValue (ty j) = vp_V fs j) (hcells : cells + 1 ≤ R.cells) (hslots : slots + N ≤ R.slots) (hdg : decode cc pc = .ok (.new index, 3)) (pp : Nat)
    (kk : ∀ (q : Nat) (H1 : Heap), wW G.1 A (ws.take pp ++ (q, .inr (ci, fs)) :: ws.drop pp) H1 → va_S A s.heap H1 locs → W p l e R s m args below meth c H1 locs (cells + 1) (slots + N) Q (F0 m (pc + 3) ls (.ref q :: rest))) : W p l e R s m args below meth c H locs cells slots Q (F0 m pc ls rest) := by
  obtain ⟨hx, hb, -, hown, hts⟩ := C
  exact va_new hx hb hts hin ty hty hown (hts _ hcl) (hts _ hinst) (hts _ hini) hY.1.1 hW.P hW.D hS hA hc hfs hcells hslots hdg (fun q H1 hP hD hS1 => kk q H1 (n_ins hW hP hD pp) hS1)
theorem n_newa {atype : ArrayType} (C : CallFix p m c cc nL s args Tb own) (hY : gY G s) (hW : wW G.1 A ws H) (hS : va_S A s.heap H locs) (hA : ∀ q, s.heap.size ≤ q → A q) (harr : Cond.arrayClass (newarray.typeOf atype) ∈ Tb) (t0 : Nat) {cA0 : ClassId} {ty : FieldType} (hty : newarray.typeOf atype = ty) (ht0 : (gTys G.2.1)[t0]? = some (cA0, ty)) {N : Nat} (hdef : ∀ cA : ClassId, vp_cell cA (N, .inl (fun _ => (0 : Int32))) = arrV cA N (fun _ => defaultValue ty)) {x : Int32} (hx0 : x = nI N) (hN : N < 2 ^ 31) (hbytes : N * componentBytes ty ≤ 536870912) (hcells : cells + 1 ≤ R.cells) (hslots : slots + N ≤ R.slots) (hdg : decode cc pc = .ok (.newarray atype, 2)) (pp : Nat)
    (kk : ∀ (q : Nat) (H1 : Heap), wW G.1 A (ws.take pp ++ (q, .inl (cA0, N, .inl (fun _ => (0 : Int32)))) :: ws.drop pp) H1 → va_S A s.heap H1 locs → W p l e R s m args below meth c H1 locs (cells + 1) (slots + N) Q (F0 m (pc + 2) ls (.ref q :: rest))) : W p l e R s m args below meth c H locs cells slots Q (F0 m pc ls (.int x :: rest)) := by
  obtain ⟨hx, hb, -, hown, hts⟩ := C
  subst hx0
  refine va_newa (a0 := (N, .inl (fun _ => (0 : Int32)))) hx hb (hts _ harr) hty hY.1.1 hW.P hW.D hS hA hdef (nI_pos hN) (nI_clamp hN) hbytes hcells hslots hdg (fun q cA H1 hK hP hD hS1 => ?_)
  have e1 : cA = cA0 := by
    have h1 := (hK.2 4 (cA, ty) rfl).2
    have h2 := (hY.1.1.2 t0 _ ht0).2
    exact ar_same h1 h2
  subst e1
  exact kk q H1 (n_ins hW hP hD pp) hS1
theorem n_newq {C0 : String} (C : CallFix p m c cc nL s args Tb own) (hY : gY G s) (hW : wW G.1 A ws H) (hS : va_S A s.heap H locs) (hA : ∀ q, s.heap.size ≤ q → A q) (hcl : Cond.classLink own index C0 ∈ Tb) (hover : va_AO C0 s) (t0 : Nat) {cA0 : ClassId} (ht0 : (gTys G.2.1)[t0]? = some (cA0, .object C0)) {N : Nat} {x : Int32} (hx0 : x = nI N) (hN : N < 2 ^ 20) (hcells : cells + 1 ≤ R.cells) (hslots : slots + N ≤ R.slots) (hdg : decode cc pc = .ok (.anewarray index, 3)) (pp : Nat)
    (kk : ∀ (q : Nat) (H1 : Heap), wW G.1 A (ws.take pp ++ (q, .inl (cA0, N, .inr (.inr (.inr (.inr (fun _ => none)))))) :: ws.drop pp) H1 → va_S A s.heap H1 locs → W p l e R s m args below meth c H1 locs (cells + 1) (slots + N) Q (F0 m (pc + 3) ls (.ref q :: rest))) : W p l e R s m args below meth c H locs cells slots Q (F0 m pc ls (.int x :: rest)) := by
  obtain ⟨hx, hb, -, hown, hts⟩ := C
  subst hx0
  refine va_newq hx hb hown (hts _ hcl) hover hY.1.1 hW.P hW.D hS hA (nI_pos (by omega)) (nI_clamp (by omega)) (by omega) hcells hslots hdg (fun q cA H1 hK hP hD hS1 => ?_)
  have e1 : cA = cA0 := ar_same (hK.2 4 (cA, .object C0) rfl).2 (hY.1.1.2 t0 _ ht0).2
  subst e1
  exact kk q H1 (n_ins hW hP hD pp) hS1
/-- a field of the new object gets its value -/
theorem n_put {ci j : Nat} {fin : Bool} {ty : FieldType} (KF : gFd own index ci j fin ty) (C : CallFix p m c cc nL s args Tb own) (hnm : meth.name = "<init>") (hdecl : ∀ q : vw_C, vwCl[ci]? = some q → (q.2.1 j).1 = own) (hY : gY G s) (hW : wW G.1 A ws H) (hS : va_S A s.heap H locs) (q0 : Nat) {a : Nat} {fs : List Value} (he : ws[q0]? = some (a, .inr (ci, fs))) {v : Value} (hn : narrow ty v = v) (hfit : fits ty v = true) (hl : j < fs.length) (hdg : decode cc pc = .ok (.putfield index, 3))
    (kk : ∀ (H1 : Heap) (locs1 : List Loc), wW G.1 A (ws.set q0 (a, .inr (ci, fs.set j v))) H1 → va_S A s.heap H1 locs1 → W p l e R s m args below meth c H1 locs1 cells slots Q (F0 m (pc + 3) ls rest)) : W p l e R s m args below meth c H locs cells slots Q (F0 m pc ls (v :: .ref a :: rest)) := by
  obtain ⟨q, hq, hj, hin, hl1, hf, hd, ⟨t, ht⟩, hno⟩ := KF
  obtain ⟨hx, hb, -, hown, hts⟩ := C
  cases fin with
  | true => exact va_putF hx hb hts hin t ht hno hown hY.1.1 hW.P hW.D hS q0 he hq j hj (hts _ hl1) (fun _ h9 => h9) hf hnm (hdecl q hq) hd hn hfit hl hdg (fun H1 l1 hP1 _ hS1 => kk H1 l1 (hW.set q0 he hP1) hS1)
  | false => exact va_put hx hb hts hin t ht hno hown hY.1.1 hW.P hW.D hS q0 he hq j hj (hts _ hl1) (fun _ h9 => h9) hf hd hn hfit hl hdg (fun H1 l1 hP1 _ hS1 => kk H1 l1 (hW.set q0 he hP1) hS1)
theorem n_get {ci j : Nat} {fin : Bool} {ty : FieldType} (KF : gFd own index ci j fin ty) (C : CallFix p m c cc nL s args Tb own) (hY : gY G s) (hW : wW G.1 A ws H) (q0 : Nat) {a : Nat} {fs : List Value} (he : ws[q0]? = some (a, .inr (ci, fs))) {v : Value} (hv : fs[j]? = some v) (hdg : decode cc pc = .ok (.getfield index, 3))
    (kk : W p l e R s m args below meth c H locs cells slots Q (F0 m (pc + 3) ls (v :: rest))) : W p l e R s m args below meth c H locs cells slots Q (F0 m pc ls (.ref a :: rest)) := by
  obtain ⟨q, hq, hj, hin, hl1, hf, hd, ht, hno⟩ := KF
  obtain ⟨hx, hb, -, hown, hts⟩ := C
  exact va_get hx hb hts hin hown hY.1.1 hW.P q0 he hq j hj (hts _ hl1) (fun _ h9 => h9) hv hdg kk
theorem n_iast (C : CallFix p m c cc nL s args Tb own) (hY : gY G s) (hW : wW G.1 A ws H) (hS : va_S A s.heap H locs) (q0 : Nat) {a N : Nat} {f : Nat → Int32} (he : ws[q0]? = some (a, .inl (G.2.1 0, N, .inl f))) {i : Nat} {ix : Int32} (hix : ix = nI i) (hi : i < N) (hN : N < 2 ^ 31) {x : Int32} (hdg : decode cc pc = .ok (.iastore, 1))
    (kk : ∀ (H1 : Heap) (locs1 : List Loc), wW G.1 A (ws.set q0 (a, .inl (G.2.1 0, N, .inl (upd f i x)))) H1 → va_S A s.heap H1 locs1 → W p l e R s m args below meth c H1 locs1 cells slots Q (F0 m (pc + 1) ls rest)) : W p l e R s m args below meth c H locs cells slots Q (F0 m pc ls (.int x :: .int ix :: .ref a :: rest)) := by
  obtain ⟨hx, hb, -, hown, hts⟩ := C
  subst hix
  refine va_iast hx hb hY.1.1 hW.P hW.D hS q0 0 he rfl (vp_in_nI hi hN) hdg (fun H1 l1 hP1 _ hS1 => ?_)
  rw [nI_clamp (by omega)] at hP1
  exact kk H1 l1 (hW.set q0 he hP1) hS1
theorem n_aast (C : CallFix p m c cc nL s args Tb own) (hY : gY G s) (hW : wW G.1 A ws H) (hS : va_S A s.heap H locs) (q0 t0 qk ci : Nat) {a N v : Nat} {cA : ClassId} {r : vw_C} {vs : List Value} {f : Nat → Option Nat} (he : ws[q0]? = some (a, .inl (cA, N, .inr (.inr (.inr (.inr f)))))) (ht : (gTys G.2.1)[t0]? = some (cA, .object r.1)) (hv : ws[qk]? = some (v, .inr (ci, vs))) (hc : vwCl[ci]? = some r) {i : Nat} {ix : Int32} (hix : ix = nI i) (hi : i < N) (hN : N < 2 ^ 31) (hdg : decode cc pc = .ok (.aastore, 1))
    (kk : ∀ (H1 : Heap) (locs1 : List Loc), wW G.1 A (ws.set q0 (a, .inl (cA, N, .inr (.inr (.inr (.inr (va_up f i (some v)))))))) H1 → va_S A s.heap H1 locs1 → W p l e R s m args below meth c H1 locs1 cells slots Q (F0 m (pc + 1) ls rest)) : W p l e R s m args below meth c H locs cells slots Q (F0 m pc ls (.ref v :: .int ix :: .ref a :: rest)) := by
  obtain ⟨hx, hb, -, hown, hts⟩ := C
  subst hix
  refine va_astq hx hb hY.1.1 hW.P hW.D hS q0 t0 qk ci he ht hv hc (vp_in_nI hi hN) hdg (fun H1 l1 hP1 _ hS1 => ?_)
  rw [nI_clamp (by omega)] at hP1
  exact kk H1 l1 (hW.set q0 he hP1) hS1
variable {y : MethodName} {b : ByteArray} {maxL : Nat} {rm : Room} {ci n1 th mc ms : Nat} {fs : List Value} {F : (Nat → Nat) → Nat → va_E} {st0 : List Value}
theorem n_after {a : Array Value} {q : Nat} (hW : wW G.1 A ws H) (hS : va_S A s.heap H locs) (hA : ∀ q, s.heap.size ≤ q → A q) (pp : Nat) (hp : ws[pp]? = some (q, .inr (ci, fs)))
    (hr : va_Run p l e R s m args below meth c H locs cells slots mc ms (F0 m pc ls st0) rest (gCQ G q H.size n1 th F a) (fun z => z = q ∨ H.size ≤ z))
    (kk : ∀ (cd : Nat → Nat) (H1 : Heap) (locs1 : List Loc), cd th = q → wW G.1 A (ws.take pp ++ (gl n1 cd (F cd) ++ ws.drop (pp + 1))) H1 → va_S A s.heap H1 locs1 → W p l e R s m args below meth c H1 locs1 (cells + mc) (slots + ms) Q (F0 m (pc + 3) ls rest)) : W p l e R s m args below meth c H locs cells slots Q (F0 m pc ls st0) := by
  have hA2 : ∀ z, (z = q ∨ H.size ≤ z) → A z := fun z hz => hz.elim (fun h => by rw [h]; exact hW.2.2 _ (List.mem_of_getElem? hp)) (fun h => hA z (Nat.le_trans hS.1 h))
  refine va_callv hr hS (fun z _ h => hA2 z h) hA2 (fun cd t H1 l1 ht hvm hpost hB hz hk hS1 => ?_)
  rw [ht] at hB
  exact kk cd H1 l1 hpost.1 (hW.call pp hp hpost.2 hB hk hA2) hS1
theorem n_runI (k1 : Cond.code y b maxL none ∈ Tb) (k2 : Cond.initialized y.cls ∈ Tb) (k3 : Cond.instanceMethod y ∈ Tb) (kd : gYd y 0) (hy1 : y.name = "<init>") (LK : Cond.methodLink own index y ∈ Tb) (C : CallFix p m c cc nL s args Tb own) (hY : gY G s) (hW : wW G.1 A ws H) (hS : va_S A s.heap H locs) (hAb : ∀ z, A z → G.2.2.1 ≤ z) {q : Nat} (pp : Nat) (hp : ws[pp]? = some (q, .inr (ci, fs))) (hM : gCon l y b maxL rm G q H.size ci fs n1 th F mc ms) (hR : rm.cells = mc ∧ rm.slots = ms ∧ rm.frames + 1 ≤ R.frames ∧ 8 + (maxL + 11) + rm.locals ≤ R.locals) (hsz : ls.size = nL) (hroom : (rest.map fun v => v.category).sum ≤ 8) (hcs : cells + mc ≤ R.cells ∧ slots + ms ≤ R.slots) (hdg : decode cc pc = .ok (.invokespecial index, 3)) :
    va_Run p l e R s m args below meth c H locs cells slots mc ms (F0 m pc ls (.ref q :: rest)) rest (gCQ G q H.size n1 th F (Value.ref q :: []).toArray) (fun z => z = q ∨ H.size ≤ z) := by
  have hts := C.2.2.2.2
  have hS2 : va_S (fun z => G.2.2.1 ≤ z) s.heap H locs := ⟨hS.1, fun q h1 h2 => hS.2.1 q h1 (fun z => h2 (hAb q z)), fun l hl => hAb _ (hS.2.2 l hl)⟩
  exact va_runI (As := []) C hM ⟨callB_of 0 hts (tW_in k1) rfl hR.1 hR.2.1 (hts _ k2) (hts _ LK) kd hR.2.2, hy1, hts _ k3⟩ ⟨gCP.blind _ _ _ _ _, fun U hU hW1 => ⟨rfl, hY.at hS2 hU hW1, by rw [hU], by rw [hU]; exact hW.1 _ (List.mem_of_getElem? hp), hAb _ (hW.2.2 _ (List.mem_of_getElem? hp))⟩⟩ rfl rfl hsz rfl (lv_room hroom) hdg hcs
theorem n_runIN {host : String} (k1 : Cond.code y b maxL none ∈ Tb) (k2 : Cond.initialized y.cls ∈ Tb) (k3 : Cond.instanceMethod y ∈ Tb) (kd : gYd y 0) (hy1 : y.name = "<init>") (LK : Cond.methodLinkNest own index y host ∈ gNest) (C : CallFix p m c cc nL s args Tb own) (hY : gY G s) (hW : wW G.1 A ws H) (hS : va_S A s.heap H locs) (hAb : ∀ z, A z → G.2.2.1 ≤ z) {q : Nat} (pp : Nat) (hp : ws[pp]? = some (q, .inr (ci, fs))) (hM : gCon l y b maxL rm G q H.size ci fs n1 th F mc ms) (hR : rm.cells = mc ∧ rm.slots = ms ∧ rm.frames + 1 ≤ R.frames ∧ 8 + (maxL + 11) + rm.locals ≤ R.locals) (hsz : ls.size = nL) (hroom : (rest.map fun v => v.category).sum ≤ 8) (hcs : cells + mc ≤ R.cells ∧ slots + ms ≤ R.slots) (hdg : decode cc pc = .ok (.invokespecial index, 3)) :
    va_Run p l e R s m args below meth c H locs cells slots mc ms (F0 m pc ls (.ref q :: rest)) rest (gCQ G q H.size n1 th F (Value.ref q :: []).toArray) (fun z => z = q ∨ H.size ≤ z) := by
  have hts := C.2.2.2.2
  have hS2 : va_S (fun z => G.2.2.1 ≤ z) s.heap H locs := ⟨hS.1, fun q h1 h2 => hS.2.1 q h1 (fun z => h2 (hAb q z)), fun l hl => hAb _ (hS.2.2 l hl)⟩
  exact va_runIN (As := []) C hM ⟨va_cnB 0 hts (tW_in k1) rfl hR.1 hR.2.1 (hY.1.2.1 _ LK) (hts _ k2) kd hR.2.2, hy1, hts _ k3⟩ ⟨gCP.blind _ _ _ _ _, fun U hU hW1 => ⟨rfl, hY.at hS2 hU hW1, by rw [hU], by rw [hU]; exact hW.1 _ (List.mem_of_getElem? hp), hAb _ (hW.2.2 _ (List.mem_of_getElem? hp))⟩⟩ rfl rfl hsz rfl (lv_room hroom) hdg hcs
/-- its end: the world in its own order -/
theorem n_ret {h0 sz N1 : Nat} (C : CallFix p m c cc nL s args Tb own) (hr : meth.sig.returnType = none) (hlk : meth.locks = false) (hsz : s.heap.size = sz) (hW : wW G.1 (fun z => z = h0 ∨ sz ≤ z) ws H) (hS : va_S (fun z => z = h0 ∨ sz ≤ z) s.heap H locs) (π : Nat → Nat) (cd : Nat → Nat) (hth : cd th = h0) (hπ : ∀ i j, i < N1 → j < N1 → π i = π j → i = j) (hcd : ∀ k, k < N1 → ∃ e1, ws[π k]? = some (cd k, e1) ∧ shEq G.1 e1 (F cd k)) (hc : cells ≤ mc) (hs : slots ≤ ms) (hdg : decode cc pc = .ok (.return_, 1)) :
    W p l e R s m args below meth c H locs cells slots (MQ below (gCQ G h0 sz N1 th F) args s mc ms (fun z => z = h0 ∨ sz ≤ z)) (F0 m pc ls []) := by
  refine W.widen (k := mc) (n := ms) hc hs ?_
  refine W.vret C.1 C.2.1 hr (fun t ht hW1 => ⟨⟨cd, rfl, ⟨hth, fun i j hi hj he => ?_, fun k hk => ?_⟩, fun k hk => ?_⟩, ?_⟩) hS.2.2 hdg hlk
  · obtain ⟨e1, a1, -⟩ := hcd i hi
    obtain ⟨e2, a2, -⟩ := hcd j hj
    exact hπ i j hi hj (hW.ix _ _ _ _ a1 a2 he)
  · obtain ⟨e1, a1, -⟩ := hcd k hk
    exact hW.2.2 _ (List.mem_of_getElem? a1)
  · obtain ⟨e1, a1, a2⟩ := hcd k hk
    rw [ht]
    exact (a2 _ _).mp (hW.1 _ (List.mem_of_getElem? a1))
  · exact hS.F ht
end
theorem lt_cases {P : Nat → Prop} {n : Nat} (h0 : ∀ k, k < n → P k) (h1 : P n) : ∀ k, k < n + 1 → P k := fun k hk => by
  by_cases h : k = n
  · rw [h]; exact h1
  · exact h0 k (by omega)
theorem lt_none {P : Nat → Prop} : ∀ k, k < 0 → P k := fun k hk => absurd hk (Nat.not_lt_zero k)
theorem ka_int : Cond.arrayClass .int ∈ Tb := Tb_at 160 (by decide +kernel) (by decide +kernel)
theorem ka_byte : Cond.arrayClass .byte ∈ Tb := Tb_at 176 (by decide +kernel) (by decide +kernel)
theorem ko_inst : Cond.instanceMethod ⟨"java/lang/Object", "<init>", "()V"⟩ ∈ Tb := Tb_at 85 (by decide +kernel) (by decide +kernel)
theorem ko_code : Cond.code ⟨"java/lang/Object", "<init>", "()V"⟩ object_method_1_code 1 none ∈ Tb := Tb_at 86 (by decide +kernel) (by decide +kernel)
