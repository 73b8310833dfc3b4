theorem kx_native : Cond.native arraycopyName ∈ Tb := Tb_at 505 (by decide +kernel) (by decide +kernel)
theorem kx_static : Cond.static arraycopyName ∈ Tb := Tb_at 504 (by decide +kernel) (by decide +kernel)
theorem kx_init : Cond.initialized "java/lang/System" ∈ Tb := Tb_at 74 (by decide +kernel) (by decide +kernel)
theorem shD_8 (G : gG) (ad : Nat → Nat) (f : Nat → Int32) : shD G ad 8 f = .inr (0, [.ref (ad 11), .ref (ad 9), .ref (ad 10), .int (f 0), .int (f 1), .int (f 2)]) := rfl
theorem shD_9 (G : gG) (ad : Nat → Nat) (f : Nat → Int32) : shD G ad 9 f = .inl (G.2.1 0, 6, .inl f) := rfl
theorem shD_10 (G : gG) (ad : Nat → Nat) (f : Nat → Int32) : shD G ad 10 f = .inl (G.2.1 0, 10, .inl f) := rfl
theorem shD_11 (G : gG) (ad : Nat → Nat) (f : Nat → Int32) : shD G ad 11 f = .inl (G.2.1 2, 8, .inr (.inr (.inr (.inr (fun j => some (ad j)))))) := rfl
theorem shD_20 (G : gG) (ad : Nat → Nat) (f : Nat → Int32) : shD G ad 20 f = .inr (0, [.ref (ad 23), .ref (ad 21), .ref (ad 22), .int (f 0), .int (f 1), .int (f 2)]) := rfl
theorem shD_21 (G : gG) (ad : Nat → Nat) (f : Nat → Int32) : shD G ad 21 f = .inl (G.2.1 0, 6, .inl f) := rfl
theorem shD_22 (G : gG) (ad : Nat → Nat) (f : Nat → Int32) : shD G ad 22 f = .inl (G.2.1 0, 10, .inl f) := rfl
theorem shD_23 (G : gG) (ad : Nat → Nat) (f : Nat → Int32) : shD G ad 23 f = .inl (G.2.1 2, 8, .inr (.inr (.inr (.inr (fun j => some (ad (12 + j))))))) := rfl
theorem shD_g (G : gG) (ad : Nat → Nat) {k : Nat} (h : k < 8) (f : Nat → Int32) : shD G ad k f = .inr (1, [.int (f 0), .int (f 1), .int (f 2), .int (f 3), .int (f 4), .int (f 5), .int (f 6)]) := by
  unfold shD
  rw [if_pos (by omega)]
  exact shC_g G ad h f
theorem shD_h (G : gG) (ad : Nat → Nat) {k : Nat} (h : k < 8) (f : Nat → Int32) : shD G ad (12 + k) f = .inr (1, [.int (f 0), .int (f 1), .int (f 2), .int (f 3), .int (f 4), .int (f 5), .int (f 6)]) := by
  unfold shD
  rw [if_neg (by omega), show 12 + k - 12 = k from by omega]
  exact shC_g G _ h f
/-- a part of a world picked by places -/
def mpick (σ : gM) (ι : Nat → Nat) : gM := fun k => σ (ι k)
def mback (σ : gM) (ι κ : Nat → Nat) (m : Nat) (τ : gM) : gM := fun k => if κ k < m ∧ ι (κ k) = k then τ (κ k) else σ k
theorem gP.pick {D : va_G} {n : Nat} {ad : Nat → Nat} {sh sh1 : Nat → (Nat → Int32) → va_E} {σ : gM} {H : Heap} (h : gP D n ad (gE sh σ) H) (ι : Nat → Nat) (m : Nat) (hm : ∀ i, i < m → ι i < n) (hs : ∀ i, i < m → ∀ f, sh (ι i) f = sh1 i f) : gP D m (fun i => ad (ι i)) (gE sh1 (mpick σ ι)) H := fun k hk => by
  have h1 := h (ι k) (hm k hk)
  show va_at D vwCl (ad (ι k), sh1 k (σ (ι k))) H
  rw [← hs k hk]
  exact h1
theorem gP.back {D : va_G} {b0 n : Nat} {ad : Nat → Nat} {sh sh1 : Nat → (Nat → Int32) → va_E} {σ τ : gM} {H H1 : Heap} (h : gP D n ad (gE sh σ) H) (hI : gI b0 n ad) (ι κ : Nat → Nat) (m : Nat) (hm : ∀ i, i < m → ι i < n ∧ κ (ι i) = i) (hs : ∀ i, i < m → ∀ f, sh (ι i) f = sh1 i f) (hk : ∀ q : Nat, q < H.size → ¬ gA m (fun i => ad (ι i)) q → H1[q]? = H[q]?) (h1 : gP D m (fun i => ad (ι i)) (gE sh1 τ) H1) : gP D n ad (gE sh (mback σ ι κ m τ)) H1 := fun k hkn => by
  show va_at D vwCl (ad k, sh k (mback σ ι κ m τ k)) H1
  unfold mback
  by_cases hr : κ k < m ∧ ι (κ k) = k
  · rw [if_pos hr]
    have h2 := h1 (κ k) hr.1
    have e := hs (κ k) hr.1 (τ (κ k))
    rw [hr.2] at e
    rw [e]
    have h3 : va_at D vwCl (ad (ι (κ k)), sh1 (κ k) (τ (κ k))) H1 := h2
    rw [hr.2] at h3
    exact h3
  · rw [if_neg hr]
    have h2 := h k hkn
    refine h2.kept (hk (ad k) h2.lt ?_)
    rintro ⟨i, hi, he⟩
    have e := hI.1 k (ι i) hkn (hm i hi).1 he
    apply hr
    rw [e, (hm i hi).2]
    exact ⟨hi, rfl⟩
section
variable {p : Program} {l : Launch} {e : Env} {R : Room} {s : State} {m : MethodId} {args : Array Value} {below : List Frame} {meth : Method} {c : Code} {H : Heap} {locs : List Loc} {cells slots : Nat} {Q : State → Prop} {cc : ByteArray} {pc : Nat} {ls : Array Slot} {rest : List Value} {G : gG} {n : Nat} {ad : Nat → Nat} {sh : Nat → (Nat → Int32) → va_E} {σ : gM} {own : String} {nL : Nat} {index : Nat} {st0 : List Value} {sh1 : Nat → (Nat → Int32) → va_E}
theorem g_wrVp {ι κ : Nat → Nat} {m1 : Nat} {r : gM} {a : Array Value} {b0 : Nat} (hm : ∀ i, i < m1 → ι i < n ∧ κ (ι i) = i) (hs : ∀ i, i < m1 → ∀ f, sh (ι i) f = sh1 i f) (hI : gI b0 n ad) (hP : gP G.1 n ad (gE sh σ) H) (hS : va_S (gA n ad) s.heap H locs)
    (hr : va_Run p l e R s m args below meth c H locs cells slots 0 0 (F0 m pc ls st0) rest (va_Qv (fun τ : gM => τ = r) (fun τ t => gP G.1 m1 (fun i => ad (ι i)) (gE sh1 τ) t.heap) (gA m1 (fun i => ad (ι i))) a) (gA m1 (fun i => ad (ι i))))
    (kk : ∀ (H1 : Heap) (locs1 : List Loc), gP G.1 n ad (gE sh (mback σ ι κ m1 r)) H1 → va_S (gA n ad) s.heap H1 locs1 → W p l e R s m args below meth c H1 locs1 cells slots Q (F0 m (pc + 3) ls rest)) : W p l e R s m args below meth c H locs cells slots Q (F0 m pc ls st0) :=
  have hsub : ∀ q, gA m1 (fun i => ad (ι i)) q → gA n ad q := fun q h => by
    obtain ⟨k, hk, rfl⟩ := h
    exact ⟨ι k, (hm k hk).1, rfl⟩
  va_callv hr hS (fun q _ h => hsub q h) (fun q h => hsub q h) (fun u t H1 l1 ht _ hp hB hz hk hS1 => by
    subst hp
    refine kk H1 l1 (hP.back hI ι κ m1 hm hs hk ?_) hS1
    rw [← ht]; exact hB)
/-- System.arraycopy between rows of ints -/
theorem g_acopy (C : CallFix p m c cc nL s args Tb own) (hX : gX G s) {b0 : Nat} (hI : gI b0 n ad) (hP : gP G.1 n ad (gE sh σ) H) (hS : va_S (gA n ad) s.heap H locs) (hsz : ls.size = nL) (LK : Cond.methodLink own index arraycopyName ∈ Tb) (ks kd : Nat) (hks : ks < n) (hkd : kd < n) {N0 N1 : Nat} (hs0 : ∀ f, sh ks f = .inl (G.2.1 0, N0, .inl f)) (hs1 : ∀ f, sh kd f = .inl (G.2.1 0, N1, .inl f)) (sp dp k : Nat) (h4 : sp + k ≤ N0) (h5 : dp + k ≤ N1) (hN0 : N0 < 2 ^ 31) (hN1 : N1 < 2 ^ 31) (hfr : 1 ≤ R.frames) (hlo : (rest.map fun v => v.category).sum + (nativeFrameWords "java/lang/System" "arraycopy" 5 + 11) ≤ R.locals) (hdg : decode cc pc = .ok (.invokestatic index, 3))
    (kk : ∀ (H1 : Heap) (locs1 : List Loc), gP G.1 n ad (gE sh (va_up σ kd (va_cpy (σ ks) (σ kd) sp dp k))) H1 → va_S (gA n ad) s.heap H1 locs1 → W p l e R s m args below meth c H1 locs1 cells slots Q (F0 m (pc + 3) ls rest)) : W p l e R s m args below meth c H locs cells slots Q (F0 m pc ls (.int (nI k) :: .int (nI dp) :: .ref (ad kd) :: .int (nI sp) :: .ref (ad ks) :: rest)) := by
  obtain ⟨hx, hb, hml, hown, hts⟩ := C
  refine va_copyi hx hb (hml.trans hsz.symm) hown (hts _ LK) (hts _ kx_native) (hts _ kx_static) (hts _ kx_init) hX.1 hP.w (hI.D _) hS ks kd 0 0 (by rw [gl_at hks]; exact congrArg (fun z => some (ad ks, z)) (hs0 _)) (by rw [gl_at hkd]; exact congrArg (fun z => some (ad kd, z)) (hs1 _)) rfl rfl rfl (nI_pos (by omega)) (nI_pos (by omega)) (nI_pos (by omega)) (by rw [nI_clamp (by omega), nI_clamp (by omega)]; exact h4) (by rw [nI_clamp (by omega), nI_clamp (by omega)]; exact h5) (fun _ _ => rfl) hfr hlo hdg (fun H1 l1 hP1 _ hS1 => kk H1 l1 ?_ hS1)
  rw [gl_set hkd, nI_clamp (by omega), nI_clamp (by omega), nI_clamp (by omega)] at hP1
  refine (gP.of hP1).to (fun j hj => ?_)
  by_cases h : j = kd
  · subst h
    rw [va_up_self]
    show _ = sh j (va_up σ j _ j)
    rw [va_up_self, hs1]
  · rw [va_up_ne _ _ h]
    show sh j (σ j) = sh j (va_up σ kd _ j)
    rw [va_up_ne _ _ h]
end
