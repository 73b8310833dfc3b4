theorem kx_native : Cond.native arraycopyName ∈ Tb := Tb_at 505 (by decide +kernel) (by decide +kernel)
theorem kx_static : Cond.static arraycopyName ∈ Tb := Tb_at 504 (by decide +kernel) (by decide +kernel)
theorem kx_init : Cond.initialized "java/lang/System" ∈ Tb := Tb_at 74 (by decide +kernel) (by decide +kernel)
theorem shD_8 (G : gG) (ad : Nat → Nat) (f : Nat → Int32) : shD G ad 8 f = .inr (0, [.ref (ad 11), .ref (ad 9), .ref (ad 10), .int (f 0), .int (f 1), .int (f 2)]) := rfl
theorem shD_9 (G : gG) (ad : Nat → Nat) (f : Nat → Int32) : shD G ad 9 f = .inl (G.2.1 0, 6, .inl f) := rfl
theorem shD_10 (G : gG) (ad : Nat → Nat) (f : Nat → Int32) : shD G ad 10 f = .inl (G.2.1 0, 10, .inl f) := rfl
theorem shD_11 (G : gG) (ad : Nat → Nat) (f : Nat → Int32) : shD G ad 11 f = .inl (G.2.1 2, 8, .inr (.inr (.inr (.inr (fun j => some (ad j)))))) := rfl
theorem shD_20 (G : gG) (ad : Nat → Nat) (f : Nat → Int32) : shD G ad 20 f = .inr (0, [.ref (ad 23), .ref (ad 21), .ref (ad 22), .int (f 0), .int (f 1), .int (f 2)]) := rfl
theorem shD_21 (G : gG) (ad : Nat → Nat) (f : Nat → Int32) : shD G ad 21 f = .inl (G.2.1 0, 6, .inl f) := rfl
theorem shD_22 (G : gG) (ad : Nat → Nat) (f : Nat → Int32) : shD G ad 22 f = .inl (G.2.1 0, 10, .inl f) := rfl
theorem shD_23 (G : gG) (ad : Nat → Nat) (f : Nat → Int32) : shD G ad 23 f = .inl (G.2.1 2, 8, .inr (.inr (.inr (.inr (fun j => some (ad (12 + j))))))) := rfl
theorem shD_g (G : gG) (ad : Nat → Nat) {k : Nat} (h : k < 8) (f : Nat → Int32) : shD G ad k f = .inr (1, [.int (f 0), .int (f 1), .int (f 2), .int (f 3), .int (f 4), .int (f 5), .int (f 6)]) := by
  unfold shD
  rw [if_pos (by omega)]
  exact shC_g G ad h f
theorem shD_h (G : gG) (ad : Nat → Nat) {k : Nat} (h : k < 8) (f : Nat → Int32) : shD G ad (12 + k) f = .inr (1, [.int (f 0), .int (f 1), .int (f 2), .int (f 3), .int (f 4), .int (f 5), .int (f 6)]) := by
  unfold shD
  rw [if_neg (by omega), show 12 + k - 12 = k from by omega]
  exact shC_g G _ h f
/-- a part of a world picked by places -/
def mpick (σ : gM) (ι : Nat → Nat) : gM := fun k => σ (ι k)
def mback (σ : gM) (ι κ : Nat → Nat) (m : Nat) (τ : gM) : gM := fun k => if κ k < m ∧ ι (κ k) = k then τ (κ k) else σ k
theorem gP.pick {D : va_G} {n : Nat} {ad : Nat → Nat} {sh sh1 : Nat → (Nat → Int32) → va_E} {σ : gM} {H : Heap} (h : gP D n ad (gE sh σ) H) (ι : Nat → Nat) (m : Nat) (hm : ∀ i, i < m → ι i < n) (hs : ∀ i, i < m → ∀ f, sh (ι i) f = sh1 i f) : gP D m (fun i => ad (ι i)) (gE sh1 (mpick σ ι)) H := fun k hk => by
  have h1 := h (ι k) (hm k hk)
  show va_at D vwCl (ad (ι k), sh1 k (σ (ι k))) H
  rw [← hs k hk]
  exact h1
theorem gP.back {D : va_G} {b0 n : Nat} {ad : Nat → Nat} {sh sh1 : Nat → (Nat → Int32) → va_E} {σ τ : gM} {H H1 : Heap} (h : gP D n ad (gE sh σ) H) (hI : gI b0 n ad) (ι κ : Nat → Nat) (m : Nat) (hm : ∀ i, i < m → ι i < n ∧ κ (ι i) = i) (hs : ∀ i, i < m → ∀ f, sh (ι i) f = sh1 i f) (hk : ∀ q : Nat, q < H.size → ¬ gA m (fun i => ad (ι i)) q → H1[q]? = H[q]?) (h1 : gP D m (fun i => ad (ι i)) (gE sh1 τ) H1) : gP D n ad (gE sh (mback σ ι κ m τ)) H1 := fun k hkn => by
  show va_at D vwCl (ad k, sh k (mback σ ι κ m τ k)) H1
  unfold mback
  by_cases hr : κ k < m ∧ ι (κ k) = k
  · rw [if_pos hr]
    have h2 := h1 (κ k) hr.1
    have e := hs (κ k) hr.1 (τ (κ k))
    rw [hr.2] at e
    rw [e]
    have h3 : va_at D vwCl (ad (ι (κ k)), sh1 (κ k) (τ (κ k))) H1 := h2
    rw [hr.2] at h3
    exact h3
  · rw [if_neg hr]
    have h2 := h k hkn
    refine h2.kept (hk (ad k) h2.lt ?_)
    rintro ⟨i, hi, he⟩
    have e := hI.1 k (ι i) hkn (hm i hi).1 he
    apply hr
    rw [e, (hm i hi).2]
    exact ⟨hi, rfl⟩
section
variable {p : Program} {l : Launch} {e : Env} {R : Room} {s : State} {m : MethodId} {args : Array Value} {below : List Frame} {meth : Method} {c : Code} {H : Heap} {locs : List Loc} {cells slots : Nat} {Q : State → Prop} {cc : ByteArray} {pc : Nat} {ls : Array Slot} {rest : List Value} {G : gG} {n : Nat} {ad : Nat → Nat} {sh : Nat → (Nat → Int32) → va_E} {σ : gM} {own : String} {nL : Nat} {index : Nat} {st0 : List Value} {sh1 : Nat → (Nat → Int32) → va_E}
theorem g_wrVp {ι κ : Nat → Nat} {m1 : Nat} {r : gM} {a : Array Value} {b0 : Nat} (hm : ∀ i, i < m1 → ι i < n ∧ κ (ι i) = i) (hs : ∀ i, i < m1 → ∀ f, sh (ι i) f = sh1 i f) (hI : gI b0 n ad) (hP : gP G.1 n ad (gE sh σ) H) (hS : va_S (gA n ad) s.heap H locs)
    (hr : va_Run p l e R s m args below meth c H locs cells slots 0 0 (F0 m pc ls st0) rest (va_Qv (fun τ : gM => τ = r) (fun τ t => gP G.1 m1 (fun i => ad (ι i)) (gE sh1 τ) t.heap) (gA m1 (fun i => ad (ι i))) a) (gA m1 (fun i => ad (ι i))))
    (kk : ∀ (H1 : Heap) (locs1 : List Loc), gP G.1 n ad (gE sh (mback σ ι κ m1 r)) H1 → va_S (gA n ad) s.heap H1 locs1 → W p l e R s m args below meth c H1 locs1 cells slots Q (F0 m (pc + 3) ls rest)) : W p l e R s m args below meth c H locs cells slots Q (F0 m pc ls st0) :=
  have hsub : ∀ q, gA m1 (fun i => ad (ι i)) q → gA n ad q := fun q h => by
    obtain ⟨k, hk, rfl⟩ := h
    exact ⟨ι k, (hm k hk).1, rfl⟩
  va_callv hr hS (fun q _ h => hsub q h) (fun q h => hsub q h) (fun u t H1 l1 ht _ hp hB hz hk hS1 => by
    subst hp
    refine kk H1 l1 (hP.back hI ι κ m1 hm hs hk ?_) hS1
    rw [← ht]; exact hB)
/-- System.arraycopy between rows of ints -/
theorem g_acopy (C : CallFix p m c cc nL s args Tb own) (hX : gX G s) {b0 : Nat} (hI : gI b0 n ad) (hP : gP G.1 n ad (gE sh σ) H) (hS : va_S (gA n ad) s.heap H locs) (hsz : ls.size = nL) (LK : Cond.methodLink own index arraycopyName ∈ Tb) (ks kd : Nat) (hks : ks < n) (hkd : kd < n) {N0 N1 : Nat} (hs0 : ∀ f, sh ks f = .inl (G.2.1 0, N0, .inl f)) (hs1 : ∀ f, sh kd f = .inl (G.2.1 0, N1, .inl f)) (sp dp k : Nat) (h4 : sp + k ≤ N0) (h5 : dp + k ≤ N1) (hN0 : N0 < 2 ^ 31) (hN1 : N1 < 2 ^ 31) (hfr : 1 ≤ R.frames) (hlo : (rest.map fun v => v.category).sum + (nativeFrameWords "java/lang/System" "arraycopy" 5 + 11) ≤ R.locals) (hdg : decode cc pc = .ok (.invokestatic index, 3))
    (kk : ∀ (H1 : Heap) (locs1 : List Loc), gP G.1 n ad (gE sh (va_up σ kd (va_cpy (σ ks) (σ kd) sp dp k))) H1 → va_S (gA n ad) s.heap H1 locs1 → W p l e R s m args below meth c H1 locs1 cells slots Q (F0 m (pc + 3) ls rest)) : W p l e R s m args below meth c H locs cells slots Q (F0 m pc ls (.int (nI k) :: .int (nI dp) :: .ref (ad kd) :: .int (nI sp) :: .ref (ad ks) :: rest)) := by
  obtain ⟨hx, hb, hml, hown, hts⟩ := C
  refine va_copyi hx hb (hml.trans hsz.symm) hown (hts _ LK) (hts _ kx_native) (hts _ kx_static) (hts _ kx_init) hX.1 hP.w (hI.D _) hS ks kd 0 0 (by rw [gl_at hks]; exact congrArg (fun z => some (ad ks, z)) (hs0 _)) (by rw [gl_at hkd]; exact congrArg (fun z => some (ad kd, z)) (hs1 _)) rfl rfl rfl (nI_pos (by omega)) (nI_pos (by omega)) (nI_pos (by omega)) (by rw [nI_clamp (by omega), nI_clamp (by omega)]; exact h4) (by rw [nI_clamp (by omega), nI_clamp (by omega)]; exact h5) (fun _ _ => rfl) hfr hlo hdg (fun H1 l1 hP1 _ hS1 => kk H1 l1 ?_ hS1)
  rw [gl_set hkd, nI_clamp (by omega), nI_clamp (by omega), nI_clamp (by omega)] at hP1
  refine (gP.of hP1).to (fun j hj => ?_)
  by_cases h : j = kd
  · subst h
    rw [va_up_self]
    show _ = sh j (va_up σ j _ j)
    rw [va_up_self, hs1]
  · rw [va_up_ne _ _ h]
    show sh j (σ j) = sh j (va_up σ kd _ j)
    rw [va_up_ne _ _ h]
end
theorem pk_I {b0 n m : Nat} {ad ι κ : Nat → Nat} (h : gI b0 n ad) (hm : ∀ i, i < m → ι i < n ∧ κ (ι i) = i) : gI b0 m (fun i => ad (ι i)) := h.pick ι (fun i hi => (hm i hi).1) (fun i j hi hj e => by rw [← (hm i hi).2, e, (hm j hj).2])
def pk2 (a b : Nat) : Nat → Nat := fun q => if q = 0 then a else b
def kp2 (a : Nat) : Nat → Nat := fun k => if k = a then 0 else 1
theorem pk2_m {n a b : Nat} (ha : a < n) (hb : b < n) (hne : ¬ b = a) : ∀ i, i < 2 → pk2 a b i < n ∧ kp2 a (pk2 a b i) = i := fun i hi => by
  obtain rfl | rfl : i = 0 ∨ i = 1 := by omega
  · exact ⟨ha, if_pos rfl⟩
  · exact ⟨hb, if_neg hne⟩
theorem pk2_D (G : gG) (ad : Nat → Nat) {i0 : Nat} (h : i0 < 8) : ∀ i, i < 2 → ∀ f, shD G ad (pk2 i0 (12 + i0) i) f = shG i f := fun i hi f => by
  obtain rfl | rfl : i = 0 ∨ i = 1 := by omega
  · exact shD_g G ad h f
  · exact shD_h G ad h f

theorem mback_ne {σ τ : gM} {ι κ : Nat → Nat} {m k : Nat} (h : ∀ i, i < m → ¬ ι i = k) : mback σ ι κ m τ k = σ k := if_neg (fun q => h _ q.1 q.2)
theorem become_keep {τ τ1 : gM} {N g : Nat} (hz : τ 20 0 = nI N) (hg : g < 8) : mback τ (pk2 g (12 + g)) (kp2 g) 2 τ1 20 0 = nI N := by
  rw [mback_ne (fun i hi => ?_)]
  · exact hz
  · obtain rfl | rfl : i = 0 ∨ i = 1 := by omega
    · show ¬ g = 20; omega
    · show ¬ 12 + g = 20; omega

def x_become0_L2 (σ : gM) : Nat → Nat → gM → gM
  | 0, g, τ => (mset (mset (mset (va_up (va_up τ 9 (va_cpy (τ 21) (τ 9) 0 0 6)) 10 (va_cpy ((va_up τ 9 (va_cpy (τ 21) (τ 9) 0 0 6)) 22) ((va_up τ 9 (va_cpy (τ 21) (τ 9) 0 0 6)) 10) 0 0 10)) 8 0 (τ 20 0)) 8 1 (τ 20 1)) 8 2 (τ 20 2))
  | n2 + 1, g, τ => (x_become0_L2 σ n2 (g + 1) ((mback τ (pk2 g (12 + g)) (kp2 g) 2 (x_become1 (mpick τ (pk2 g (12 + g)))))))
def x_become0 (σ : gM) : gM := (x_become0_L2 σ (nN (σ 20 0)) 0 σ)
def rm_yX0_become : Room := { frames := 1, cells := 0, slots := 0, locals := 80 }
set_option maxHeartbeats 4000000 in
set_option maxRecDepth 100000 in
theorem c_yX0_become (l : Launch) (G : gG) (ad : Nat → Nat) (hI : gI G.2.2.1 24 ad) (σ : gM) (N : Nat) (hN : N ≤ 8) (hs : σ 20 0 = nI N) : gMutV l yX0_become cX0_become 3 none rm_yX0_become G [.ref (ad 8), .ref (ad 20)] 24 ad (shD G ad) σ (x_become0 σ) := by
  refine g_start [.ref (ad 8), .ref (ad 20)] (by decide +kernel) (Nat.le_of_ble_eq_true rfl) ?_
  intro p e s m below meth c ls B Z hl
  obtain ⟨C, hr, hlk⟩ := B
  have hx := C.1
  have hb := C.2.1
  obtain ⟨hX, hP⟩ := Z
  have hS : va_S (gA 24 ad) s.heap s.heap [] := va_S.rf
  revert hP hS
  intro hP hS
  have hl : lv_has ls 3 [(0, .ref (ad 8)), (1, .ref (ad 20))] := hl
  refine lv_iconst (v := 0) hx hb dX0_become_0 (by decide) ?_
  refine lv_istore_n (lv' := [(2, .int 0), (0, .ref (ad 8)), (1, .ref (ad 20))]) hx hb dX0_become_1 rfl hl (by decide) rfl (fun ls hl => ?_)
  suffices loop2 : ∀ (n2 : Nat) (g : Nat) (τ : gM) (H : Heap) (locs : List Loc) (ls : Array Slot), (g + n2 = N) → (τ 20 0 = nI N) → x_become0 σ = (x_become0_L2 σ n2 g τ) → gP G.1 24 ad (gE (shD G ad) τ) H → va_S (gA 24 ad) s.heap H locs → lv_has ls 3 [(2, .int (nI g)), (0, .ref (ad 8)), (1, .ref (ad 20))] → W p l e rm_yX0_become s m ([.ref (ad 8), .ref (ad 20)] : List Value).toArray below meth c H locs 0 0 (MQ below (va_Qv (fun τ : gM => τ = x_become0 σ) (fun τ t => gP G.1 24 ad (gE (shD G ad) τ) t.heap) (gA 24 ad)) ([.ref (ad 8), .ref (ad 20)] : List Value).toArray s 0 0 (gA 24 ad)) (F0 m 2 ls []) by
    exact loop2 N 0 σ _ _ _ (by omega) hs (by rw [x_become0, hs, nN_nI (by omega)]) hP hS (lv_sub hl [0, 1, 2] rfl)
  intro n2
  induction n2 with
  | zero =>
    intro g τ H locs ls hi2 hz hres2 hP hS hl
    refine lv_iload_n hx hb dX0_become_2 rfl (lv_at hl 0 rfl) ?_
    refine lv_aload_n hx hb dX0_become_3 rfl (lv_at hl 2 rfl) ?_
    refine g_get fd_RX0_29 C hX hP 20 (by decide) (shD_20 G ad _) (v := .int (τ 20 0)) rfl dX0_become_4 ?_
    refine lv_as (y := (nI N)) hz ?_
    refine lv_icmp_ge (tgt := 31) hx hb dX0_become_7 (by decide) (fun c1 => ?_) (fun c1 => ?_)
    · refine lv_aload_n hx hb dX0_become_31 rfl (lv_at hl 2 rfl) ?_
      refine g_get fd_RX0_18 C hX hP 20 (by decide) (shD_20 G ad _) (v := .ref (ad 21)) rfl dX0_become_32 ?_
      refine lv_iconst (v := 0) hx hb dX0_become_35 (by decide) ?_
      refine lv_aload_n hx hb dX0_become_36 rfl (lv_at hl 1 rfl) ?_
      refine g_get fd_RX0_18 C hX hP 8 (by decide) (shD_8 G ad _) (v := .ref (ad 9)) rfl dX0_become_37 ?_
      refine lv_iconst (v := 0) hx hb dX0_become_40 (by decide) ?_
      refine lv_bipush (v := 6) hx hb dX0_become_41 (by decide) ?_
      refine g_acopy C hX hI hP hS hl.1 lk_RX0_43 21 9 (by decide) (by decide) (fun f_ => (shD_21 G ad f_)) (fun f_ => (shD_9 G ad f_)) 0 0 6 (by omega) (by omega) (by decide) (by decide) (by decide) (Nat.le_of_ble_eq_true rfl) dX0_become_43 (fun H locs hP hS => ?_)
      refine lv_aload_n hx hb dX0_become_46 rfl (lv_at hl 2 rfl) ?_
      refine g_get fd_RX0_26 C hX hP 20 (by decide) (shD_20 G ad _) (v := .ref (ad 22)) rfl dX0_become_47 ?_
      refine lv_iconst (v := 0) hx hb dX0_become_50 (by decide) ?_
      refine lv_aload_n hx hb dX0_become_51 rfl (lv_at hl 1 rfl) ?_
      refine g_get fd_RX0_26 C hX hP 8 (by decide) (shD_8 G ad _) (v := .ref (ad 10)) rfl dX0_become_52 ?_
      refine lv_iconst (v := 0) hx hb dX0_become_55 (by decide) ?_
      refine lv_bipush (v := 10) hx hb dX0_become_56 (by decide) ?_
      refine g_acopy C hX hI hP hS hl.1 lk_RX0_43 22 10 (by decide) (by decide) (fun f_ => (shD_22 G ad f_)) (fun f_ => (shD_10 G ad f_)) 0 0 10 (by omega) (by omega) (by decide) (by decide) (by decide) (Nat.le_of_ble_eq_true rfl) dX0_become_58 (fun H locs hP hS => ?_)
      refine lv_aload_n hx hb dX0_become_61 rfl (lv_at hl 1 rfl) ?_
      refine lv_aload_n hx hb dX0_become_62 rfl (lv_at hl 2 rfl) ?_
      refine g_get fd_RX0_29 C hX hP 20 (by decide) (shD_20 G ad _) (v := .int (τ 20 0)) rfl dX0_become_63 ?_
      refine g_put fd_RX0_29 C hX hI hP hS 8 (by decide) (shD_8 G ad _) rfl rfl (Nat.le_of_ble_eq_true rfl) (upd ((va_up (va_up τ 9 (va_cpy (τ 21) (τ 9) 0 0 6)) 10 (va_cpy ((va_up τ 9 (va_cpy (τ 21) (τ 9) 0 0 6)) 22) ((va_up τ 9 (va_cpy (τ 21) (τ 9) 0 0 6)) 10) 0 0 10)) 8) 0 (τ 20 0)) (by generalize ((va_up (va_up τ 9 (va_cpy (τ 21) (τ 9) 0 0 6)) 10 (va_cpy ((va_up τ 9 (va_cpy (τ 21) (τ 9) 0 0 6)) 22) ((va_up τ 9 (va_cpy (τ 21) (τ 9) 0 0 6)) 10) 0 0 10)) 8) = f_; rfl) dX0_become_66 (fun H locs hP hS => ?_)
      have hP : gP G.1 24 ad (gE (shD G ad) (mset (va_up (va_up τ 9 (va_cpy (τ 21) (τ 9) 0 0 6)) 10 (va_cpy ((va_up τ 9 (va_cpy (τ 21) (τ 9) 0 0 6)) 22) ((va_up τ 9 (va_cpy (τ 21) (τ 9) 0 0 6)) 10) 0 0 10)) 8 0 (τ 20 0))) H := hP
      refine lv_aload_n hx hb dX0_become_69 rfl (lv_at hl 1 rfl) ?_
      refine lv_aload_n hx hb dX0_become_70 rfl (lv_at hl 2 rfl) ?_
      refine g_get fd_RX0_33 C hX hP 20 (by decide) (shD_20 G ad _) (v := .int (τ 20 1)) rfl dX0_become_71 ?_
      refine g_put fd_RX0_33 C hX hI hP hS 8 (by decide) (shD_8 G ad _) rfl rfl (Nat.le_of_ble_eq_true rfl) (upd ((mset (va_up (va_up τ 9 (va_cpy (τ 21) (τ 9) 0 0 6)) 10 (va_cpy ((va_up τ 9 (va_cpy (τ 21) (τ 9) 0 0 6)) 22) ((va_up τ 9 (va_cpy (τ 21) (τ 9) 0 0 6)) 10) 0 0 10)) 8 0 (τ 20 0)) 8) 1 (τ 20 1)) rfl dX0_become_74 (fun H locs hP hS => ?_)
      have hP : gP G.1 24 ad (gE (shD G ad) (mset (mset (va_up (va_up τ 9 (va_cpy (τ 21) (τ 9) 0 0 6)) 10 (va_cpy ((va_up τ 9 (va_cpy (τ 21) (τ 9) 0 0 6)) 22) ((va_up τ 9 (va_cpy (τ 21) (τ 9) 0 0 6)) 10) 0 0 10)) 8 0 (τ 20 0)) 8 1 (τ 20 1))) H := hP
      refine lv_aload_n hx hb dX0_become_77 rfl (lv_at hl 1 rfl) ?_
      refine lv_aload_n hx hb dX0_become_78 rfl (lv_at hl 2 rfl) ?_
      refine g_get fd_RX0_36 C hX hP 20 (by decide) (shD_20 G ad _) (v := .int (τ 20 2)) rfl dX0_become_79 ?_
      refine g_put fd_RX0_36 C hX hI hP hS 8 (by decide) (shD_8 G ad _) rfl rfl (Nat.le_of_ble_eq_true rfl) (upd ((mset (mset (va_up (va_up τ 9 (va_cpy (τ 21) (τ 9) 0 0 6)) 10 (va_cpy ((va_up τ 9 (va_cpy (τ 21) (τ 9) 0 0 6)) 22) ((va_up τ 9 (va_cpy (τ 21) (τ 9) 0 0 6)) 10) 0 0 10)) 8 0 (τ 20 0)) 8 1 (τ 20 1)) 8) 2 (τ 20 2)) rfl dX0_become_82 (fun H locs hP hS => ?_)
      have hP : gP G.1 24 ad (gE (shD G ad) (mset (mset (mset (va_up (va_up τ 9 (va_cpy (τ 21) (τ 9) 0 0 6)) 10 (va_cpy ((va_up τ 9 (va_cpy (τ 21) (τ 9) 0 0 6)) 22) ((va_up τ 9 (va_cpy (τ 21) (τ 9) 0 0 6)) 10) 0 0 10)) 8 0 (τ 20 0)) 8 1 (τ 20 1)) 8 2 (τ 20 2))) H := hP
      exact g_vretM C hr hlk (by rw [hres2, x_become0_L2]) hP hS dX0_become_85
    · exact absurd (show nI (N) ≤ nI g from nI_le (by omega) (by omega)) c1
  | succ n2 ih2 =>
    intro g τ H locs ls hi2 hz hres2 hP hS hl
    refine lv_iload_n hx hb dX0_become_2 rfl (lv_at hl 0 rfl) ?_
    refine lv_aload_n hx hb dX0_become_3 rfl (lv_at hl 2 rfl) ?_
    refine g_get fd_RX0_29 C hX hP 20 (by decide) (shD_20 G ad _) (v := .int (τ 20 0)) rfl dX0_become_4 ?_
    refine lv_as (y := (nI N)) hz ?_
    refine lv_icmp_ge (tgt := 31) hx hb dX0_become_7 (by decide) (fun c2 => ?_) (fun c2 => ?_)
    · exact absurd (show nI (N) ≤ nI g from c2) (nI_ge (by omega) (by omega))
    · refine lv_aload_n hx hb dX0_become_10 rfl (lv_at hl 1 rfl) ?_
      refine g_get fd_RX0_11 C hX hP 8 (by decide) (shD_8 G ad _) (v := .ref (ad 11)) rfl dX0_become_11 ?_
      refine lv_iload_n hx hb dX0_become_14 rfl (lv_at hl 0 rfl) ?_
      refine g_aald (t0 := 2) C hX hP 11 (by decide) (shD_11 G ad _) rfl g (by omega) (by decide) rfl dX0_become_15 ?_
      refine lv_aload_n hx hb dX0_become_16 rfl (lv_at hl 2 rfl) ?_
      refine g_get fd_RX0_11 C hX hP 20 (by decide) (shD_20 G ad _) (v := .ref (ad 23)) rfl dX0_become_17 ?_
      refine lv_iload_n hx hb dX0_become_20 rfl (lv_at hl 0 rfl) ?_
      refine g_aald (t0 := 2) C hX hP 23 (by decide) (shD_23 G ad _) rfl g (by omega) (by decide) rfl dX0_become_21 ?_
      refine g_wrVp (ι := (pk2 g (12 + g))) (κ := (kp2 g)) (m1 := 2) (pk2_m (n := 24) (a := g) (b := 12 + g) (by omega) (by omega) (by omega)) (pk2_D G ad (show g < 8 from by omega)) hI hP hS (g_runV (As := [.ref (ad (12 + g))]) (rest := []) ky_yX1_become lk_RX0_39 C hX (gS_b0 hI hS) (hP.pick (sh1 := shG) (pk2 g (12 + g)) 2 (fun i_ hi_ => ((pk2_m (n := 24) (a := g) (b := 12 + g) (by omega) (by omega) (by omega)) i_ hi_).1) (pk2_D G ad (show g < 8 from by omega))) 0 (c_yX1_become l G (fun q_ => ad ((pk2 g (12 + g)) q_)) (pk_I hI (pk2_m (n := 24) (a := g) (b := 12 + g) (by omega) (by omega) (by omega))) (mpick τ (pk2 g (12 + g))) ) (by decide) (shG_g _) ⟨rfl, rfl, by decide, by decide⟩ rfl hl.1 rfl (Nat.le_of_ble_eq_true rfl) ⟨Nat.zero_le _, Nat.zero_le _⟩ dX0_become_22) (fun H locs hP hS => ?_)
      refine lv_iinc (v := (nI (g + 1))) (lv' := [(2, .int (nI (g + 1))), (0, .ref (ad 8)), (1, .ref (ad 20))]) hx hb dX0_become_25 hl (k := 0) rfl (by exact nI_1 _) (by decide) rfl (fun ls hl => ?_)
      refine lv_goto (tgt := 2) hx hb dX0_become_28 (by decide) ?_
      exact ih2 (g + 1) ((mback τ (pk2 g (12 + g)) (kp2 g) 2 (x_become1 (mpick τ (pk2 g (12 + g)))))) _ _ _ (by omega) (become_keep hz (by omega)) (by rw [hres2, x_become0_L2]) hP hS (lv_sub hl [0, 1, 2] rfl)
