def m_in (v : Int64) (low : Int64) (high : Int64) : Int32 := if (lg_cmp v low) < 0 then 0 else (if 0 < (lg_cmp v high) then 0 else 1)
def rm_yX7_in : Room := { frames := 0, cells := 0, slots := 0, locals := 0 }
set_option maxHeartbeats 4000000 in
set_option maxRecDepth 100000 in
theorem c_yX7_in (l : Launch) (v : Int64) (low : Int64) (high : Int64) : gPure l yX7_in cX7_in 6 (some .boolean) rm_yX7_in [.long v, .long low, .long high] (m_in v low high) := by
  refine g_start [.long v, .long low, .long high] (by decide +kernel) (Nat.le_of_ble_eq_true rfl) ?_
  intro p e s m below meth c ls B Z hl
  obtain ⟨C, hr, hlk⟩ := B
  have hx := C.1
  have hb := C.2.1
  have hl : lv_has ls 6 [(0, .long v), (2, .long low), (4, .long high)] := hl
  refine lv_lload_n hx hb dX7_in_0 rfl (lv_at hl 0 rfl) ?_
  refine lv_lload_n hx hb dX7_in_1 rfl (lv_at hl 1 rfl) ?_
  refine W.lcmp hx hb dX7_in_2 ?_
  refine lv_if_lt (tgt := 17) hx hb dX7_in_3 (by decide) (fun c1 => ?_) (fun c1 => ?_)
  · refine lv_iconst (v := 0) hx hb dX7_in_17 (by decide) ?_
    exact g_iret C hr hlk rfl (by rw [m_in, if_pos c1]) rfl rfl dX7_in_18
  · refine lv_lload_n hx hb dX7_in_6 rfl (lv_at hl 0 rfl) ?_
    refine lv_lload hx hb dX7_in_7 (lv_at hl 2 rfl) ?_
    refine W.lcmp hx hb dX7_in_9 ?_
    refine lv_if_gt (tgt := 17) hx hb dX7_in_10 (by decide) (fun c2 => ?_) (fun c2 => ?_)
    · refine lv_iconst (v := 0) hx hb dX7_in_17 (by decide) ?_
      exact g_iret C hr hlk rfl (by rw [m_in, if_neg c1, if_pos c2]) rfl rfl dX7_in_18
    · refine lv_iconst (v := 1) hx hb dX7_in_13 (by decide) ?_
      refine lv_goto (tgt := 18) hx hb dX7_in_14 (by decide) ?_
      exact g_iret C hr hlk rfl (by rw [m_in, if_neg c1, if_neg c2]) rfl rfl dX7_in_18

def m_held (v : Int32) (low : Int32) (high : Int32) : Int32 := if low ≤ v then (if v ≤ high then v else high) else low
def rm_yX7_held : Room := { frames := 0, cells := 0, slots := 0, locals := 0 }
set_option maxHeartbeats 4000000 in
set_option maxRecDepth 100000 in
theorem c_yX7_held (l : Launch) (v : Int32) (low : Int32) (high : Int32) : gPure l yX7_held cX7_held 3 (some .int) rm_yX7_held [.int v, .int low, .int high] (m_held v low high) := by
  refine g_start [.int v, .int low, .int high] (by decide +kernel) (Nat.le_of_ble_eq_true rfl) ?_
  intro p e s m below meth c ls B Z hl
  obtain ⟨C, hr, hlk⟩ := B
  have hx := C.1
  have hb := C.2.1
  have hl : lv_has ls 3 [(0, .int v), (1, .int low), (2, .int high)] := hl
  refine lv_iload_n hx hb dX7_held_0 rfl (lv_at hl 0 rfl) ?_
  refine lv_iload_n hx hb dX7_held_1 rfl (lv_at hl 1 rfl) ?_
  refine lv_icmp_ge (tgt := 9) hx hb dX7_held_2 (by decide) (fun c1 => ?_) (fun c1 => ?_)
  · refine lv_iload_n hx hb dX7_held_9 rfl (lv_at hl 0 rfl) ?_
    refine lv_iload_n hx hb dX7_held_10 rfl (lv_at hl 2 rfl) ?_
    refine lv_icmp_le (tgt := 18) hx hb dX7_held_11 (by decide) (fun c2 => ?_) (fun c2 => ?_)
    · refine lv_iload_n hx hb dX7_held_18 rfl (lv_at hl 0 rfl) ?_
      exact g_iret C hr hlk rfl (by rw [m_held, if_pos c1, if_pos c2]) rfl rfl dX7_held_19
    · refine lv_iload_n hx hb dX7_held_14 rfl (lv_at hl 2 rfl) ?_
      refine lv_goto (tgt := 19) hx hb dX7_held_15 (by decide) ?_
      exact g_iret C hr hlk rfl (by rw [m_held, if_pos c1, if_neg c2]) rfl rfl dX7_held_19
  · refine lv_iload_n hx hb dX7_held_5 rfl (lv_at hl 1 rfl) ?_
    refine lv_goto (tgt := 19) hx hb dX7_held_6 (by decide) ?_
    exact g_iret C hr hlk rfl (by rw [m_held, if_neg c1]) rfl rfl dX7_held_19

theorem mb_in (v low high : Int64) : m_in v low high = 0 ∨ m_in v low high = 1 := by
  unfold m_in
  split
  · exact Or.inl rfl
  · split
    · exact Or.inl rfl
    · exact Or.inr rfl
theorem in_iff (v low high : Int64) : (¬ m_in v low high = 0) ↔ (low ≤ v ∧ v ≤ high) := by
  have e1 := lg_cmp_lt v low
  have e2 := lg_cmp_gt v high
  unfold m_in
  rw [Int64.le_iff_toInt_le, Int64.le_iff_toInt_le]
  by_cases h1 : lg_cmp v low < 0
  · rw [if_pos h1]
    have := Int64.lt_iff_toInt_lt.mp (e1.mp h1)
    exact ⟨fun q => absurd rfl q, fun q => by omega⟩
  · rw [if_neg h1]
    have a : ¬ v.toInt < low.toInt := fun q => h1 (e1.mpr (Int64.lt_iff_toInt_lt.mpr q))
    by_cases h2 : 0 < lg_cmp v high
    · rw [if_pos h2]
      have := Int64.lt_iff_toInt_lt.mp (e2.mp h2)
      exact ⟨fun q => absurd rfl q, fun q => by omega⟩
    · rw [if_neg h2]
      have b : ¬ high.toInt < v.toInt := fun q => h2 (e2.mpr (Int64.lt_iff_toInt_lt.mpr q))
      exact ⟨fun _ => ⟨by omega, by omega⟩, fun _ => by decide⟩
theorem in_int (x : Int32) (low high : Int64) : (¬ m_in x.toInt64 low high = 0) ↔ (low.toInt ≤ x.toInt ∧ x.toInt ≤ high.toInt) := by
  rw [in_iff, Int64.le_iff_toInt_le, Int64.le_iff_toInt_le, Int32.toInt_toInt64]
theorem in_nat {x : Int32} {high : Int64} {M : Nat} (hM : high.toInt < M) (hM2 : M < 2 ^ 31) (h : ¬ m_in x.toInt64 0 high = 0) : x = nI (nN x) ∧ nN x < M := by
  obtain ⟨h1, h2⟩ := (in_int _ _ _).mp h
  have h0 : (0 : Int64).toInt = 0 := rfl
  obtain ⟨j, hj, rfl⟩ := nI_of (x := x) (fun q => by have := Int32.lt_iff_toInt_lt.mp q; have z : (0 : Int32).toInt = 0 := rfl; omega)
  rw [nI_toInt hj] at h2
  rw [nN_nI hj]
  exact ⟨rfl, by omega⟩
theorem ix_its (w g : Nat) : ((9 : Int32) + (8 * nI w)) + nI g = nI (9 + 8 * w + g) := by
  show nI 9 + nI 8 * nI w + nI g = _
  rw [pk_mul, nI_add, nI_add]
theorem ix_3 (i : Nat) : (3 : Int32) + nI i = nI (3 + i) := by
  show nI 3 + nI i = _
  rw [nI_add]
theorem ix_65 (i : Nat) : (65 : Int32) + nI i = nI (65 + i) := by
  show nI 65 + nI i = _
  rw [nI_add]
theorem ix_40 (s k : Nat) : ((40 : Int32) * nI s) + nI k = nI (40 * s + k) := by
  show nI 40 * nI s + nI k = _
  rw [pk_mul, nI_add]
theorem ix_day {x : Int32} (h : ¬ x < 0) : (3 : Int32) + jrem x 6 = nI (3 + nN x % 6) := by
  obtain ⟨j, hj, rfl⟩ := nI_of h
  unfold jrem
  rw [nN_nI hj]
  show nI 3 + (nI j - nI j / nI 6 * nI 6) = _
  rw [pk_rem hj (by decide) (by decide), nI_add]
theorem sz1_of {σ : gM} {N : Nat} (hN : N ≤ 8) (hs : σ 1 0 = nI N) : σ 1 0 = nI (nN (σ 1 0)) ∧ nN (σ 1 0) = N := by
  rw [hs, nN_nI (by omega)]
  exact ⟨rfl, rfl⟩

def m_finds (σ : gM) (k : Nat) : Int32 × gM := (((-1000001) - (nI k)), (mset σ 5 k ((σ 5 k) + 1)))
def rm_yX7_finds : Room := { frames := 0, cells := 0, slots := 0, locals := 0 }
set_option maxHeartbeats 4000000 in
set_option maxRecDepth 100000 in
theorem c_yX7_finds (l : Launch) (G : gG) (ad : Nat → Nat) (hI : gI G.2.2.1 11 ad) (σ : gM) (k : Nat) (hk : k < 7) : gMutI l yX7_finds cX7_finds 2 (some .int) rm_yX7_finds G [.ref (ad 0), .int (nI k)] 11 ad (shM G ad) σ (m_finds σ k) := by
  refine g_start [.ref (ad 0), .int (nI k)] (by decide +kernel) (Nat.le_of_ble_eq_true rfl) ?_
  intro p e s m below meth c ls B Z hl
  obtain ⟨C, hr, hlk⟩ := B
  have hx := C.1
  have hb := C.2.1
  obtain ⟨hX, hP⟩ := Z
  have hS : va_S (gA 11 ad) s.heap s.heap [] := va_S.rf
  revert hP hS
  intro hP hS
  have hl : lv_has ls 2 [(0, .ref (ad 0)), (1, .int (nI k))] := hl
  refine lv_aload_n hx hb dX7_finds_0 rfl (lv_at hl 0 rfl) ?_
  refine g_get fd_RX7_22 C hX hP 0 (by decide) (shM_0 G ad _) (v := .ref (ad 5)) rfl dX7_finds_1 ?_
  refine lv_iload_n hx hb dX7_finds_4 rfl (lv_at hl 1 rfl) ?_
  refine lv_dup2_11 hx hb dX7_finds_5 rfl rfl ?_
  refine g_iald C hX hP 5 (by decide) (shM_5 G ad _) k (by omega) (by decide) dX7_finds_6 ?_
  refine lv_iconst (v := 1) hx hb dX7_finds_7 (by decide) ?_
  refine lv_iadd hx hb dX7_finds_8 ?_
  refine g_iast C hX hI hP hS 5 (by decide) (shM_5 G ad _) k (by omega) (by decide) (upd (σ 5) k ((σ 5 k) + 1)) rfl dX7_finds_9 (fun H locs hP hS => ?_)
  have hP : gP G.1 11 ad (gE (shM G ad) (mset σ 5 k ((σ 5 k) + 1))) H := hP
  refine lv_ldc hx hb C.2.2.2.1 (C.2.2.2.2 _ kc_RX7_41) dX7_finds_10 ?_
  refine lv_iload_n hx hb dX7_finds_12 rfl (lv_at hl 1 rfl) ?_
  refine lv_isub hx hb dX7_finds_13 ?_
  exact g_iretM C hr hlk rfl (by rw [m_finds]) hP hS dX7_finds_14

def m_copies_L2 (σ : gM) (a : Nat) (b : Nat) : Nat → Nat → gM → gM
  | 0, i, τ => τ
  | n2 + 1, i, τ => (m_copies_L2 σ a b n2 (i + 1) (mset τ b i (τ a i)))
def m_copies (σ : gM) (a : Nat) (b : Nat) : gM := (m_copies_L2 σ a b 75 0 σ)
def rm_yX7_copies : Room := { frames := 0, cells := 0, slots := 0, locals := 0 }
set_option maxHeartbeats 4000000 in
set_option maxRecDepth 100000 in
theorem c_yX7_copies (l : Launch) (G : gG) (ad : Nat → Nat) (hI : gI G.2.2.1 11 ad) (σ : gM) (a : Nat) (b : Nat) (ha : a < 11) (hb_ : b < 11) (ea : ∀ f, shM G ad a f = .inl (G.2.1 0, 75, .inl f)) (eb : ∀ f, shM G ad b f = .inl (G.2.1 0, 75, .inl f)) : gMutV l yX7_copies cX7_copies 3 none rm_yX7_copies G [.ref (ad a), .ref (ad b)] 11 ad (shM G ad) σ (m_copies σ a b) := by
  refine g_start [.ref (ad a), .ref (ad b)] (by decide +kernel) (Nat.le_of_ble_eq_true rfl) ?_
  intro p e s m below meth c ls B Z hl
  obtain ⟨C, hr, hlk⟩ := B
  have hx := C.1
  have hb := C.2.1
  obtain ⟨hX, hP⟩ := Z
  have hS : va_S (gA 11 ad) s.heap s.heap [] := va_S.rf
  revert hP hS
  intro hP hS
  have hl : lv_has ls 3 [(0, .ref (ad a)), (1, .ref (ad b))] := hl
  refine lv_iconst (v := 0) hx hb dX7_copies_0 (by decide) ?_
  refine lv_istore_n (lv' := [(2, .int 0), (0, .ref (ad a)), (1, .ref (ad b))]) hx hb dX7_copies_1 rfl hl (by decide) rfl (fun ls hl => ?_)
  suffices loop2 : ∀ (n2 : Nat) (i : Nat) (τ : gM) (H : Heap) (locs : List Loc) (ls : Array Slot), (i + n2 = 75) → m_copies σ a b = (m_copies_L2 σ a b n2 i τ) → gP G.1 11 ad (gE (shM G ad) τ) H → va_S (gA 11 ad) s.heap H locs → lv_has ls 3 [(2, .int (nI i)), (0, .ref (ad a)), (1, .ref (ad b))] → W p l e rm_yX7_copies s m ([.ref (ad a), .ref (ad b)] : List Value).toArray below meth c H locs 0 0 (MQ below (va_Qv (fun τ : gM => τ = m_copies σ a b) (fun τ t => gP G.1 11 ad (gE (shM G ad) τ) t.heap) (gA 11 ad)) ([.ref (ad a), .ref (ad b)] : List Value).toArray s 0 0 (gA 11 ad)) (F0 m 2 ls []) by
    exact loop2 75 0 σ _ _ _ (by omega) (by rw [m_copies]) hP hS (lv_sub hl [0, 1, 2] rfl)
  intro n2
  induction n2 with
  | zero =>
    intro i τ H locs ls hi2 hres2 hP hS hl
    refine lv_iload_n hx hb dX7_copies_2 rfl (lv_at hl 0 rfl) ?_
    refine lv_bipush (v := 75) hx hb dX7_copies_3 (by decide) ?_
    refine lv_icmp_ge (tgt := 20) hx hb dX7_copies_5 (by decide) (fun c1 => ?_) (fun c1 => ?_)
    · exact g_vretM C hr hlk (by rw [hres2, m_copies_L2]) hP hS dX7_copies_20
    · exact absurd (show nI (75) ≤ nI i from nI_le (by omega) (by omega)) c1
  | succ n2 ih2 =>
    intro i τ H locs ls hi2 hres2 hP hS hl
    refine lv_iload_n hx hb dX7_copies_2 rfl (lv_at hl 0 rfl) ?_
    refine lv_bipush (v := 75) hx hb dX7_copies_3 (by decide) ?_
    refine lv_icmp_ge (tgt := 20) hx hb dX7_copies_5 (by decide) (fun c2 => ?_) (fun c2 => ?_)
    · exact absurd (show nI (75) ≤ nI i from c2) (nI_ge (by omega) (by omega))
    · refine lv_aload_n hx hb dX7_copies_8 rfl (lv_at hl 2 rfl) ?_
      refine lv_iload_n hx hb dX7_copies_9 rfl (lv_at hl 0 rfl) ?_
      refine lv_aload_n hx hb dX7_copies_10 rfl (lv_at hl 1 rfl) ?_
      refine lv_iload_n hx hb dX7_copies_11 rfl (lv_at hl 0 rfl) ?_
      refine g_iald C hX hP a ha (ea _) i (by omega) (by decide) dX7_copies_12 ?_
      refine g_iast C hX hI hP hS b hb_ (eb _) i (by omega) (by decide) (upd (τ b) i (τ a i)) (by rw [(eb _)]) dX7_copies_13 (fun H locs hP hS => ?_)
      have hP : gP G.1 11 ad (gE (shM G ad) (mset τ b i (τ a i))) H := hP
      refine lv_iinc (v := (nI (i + 1))) (lv' := [(2, .int (nI (i + 1))), (0, .ref (ad a)), (1, .ref (ad b))]) hx hb dX7_copies_14 hl (k := 0) rfl (by exact nI_1 _) (by decide) rfl (fun ls hl => ?_)
      refine lv_goto (tgt := 2) hx hb dX7_copies_17 (by decide) ?_
      exact ih2 (i + 1) (mset τ b i (τ a i)) _ _ _ (by omega) (by rw [hres2, m_copies_L2]) hP hS (lv_sub hl [0, 1, 2] rfl)

def m_isGlove (σ : gM) (g : Int32) : Int32 := (m_in ((g).toInt64) 0 ((((σ 1 0) - 1)).toInt64))
def rm_yX7_isGlove : Room := { frames := 1, cells := 0, slots := 0, locals := 25 }
set_option maxHeartbeats 4000000 in
set_option maxRecDepth 100000 in
theorem c_yX7_isGlove (l : Launch) (G : gG) (ad : Nat → Nat) (hI : gI G.2.2.1 11 ad) (σ : gM) (g : Int32) : gRead l yX7_isGlove cX7_isGlove 2 (some .boolean) rm_yX7_isGlove G [.ref (ad 0), .int g] 11 ad (gE (shM G ad) σ) (m_isGlove σ g) := by
  refine g_start [.ref (ad 0), .int g] (by decide +kernel) (Nat.le_of_ble_eq_true rfl) ?_
  intro p e s m below meth c ls B Z hl
  obtain ⟨C, hr, hlk⟩ := B
  have hx := C.1
  have hb := C.2.1
  obtain ⟨hX, hP⟩ := Z
  have hS : va_S (gA 11 ad) s.heap s.heap [] := va_S.rf
  have hl : lv_has ls 2 [(0, .ref (ad 0)), (1, .int g)] := hl
  refine lv_iload_n hx hb dX7_isGlove_0 rfl (lv_at hl 1 rfl) ?_
  refine lv_i2l (v := (g).toInt64) hx hb dX7_isGlove_1 rfl ?_
  refine lv_lconst (v := 0) hx hb dX7_isGlove_2 (by decide) ?_
  refine lv_aload_n hx hb dX7_isGlove_3 rfl (lv_at hl 0 rfl) ?_
  refine g_get fd_RX7_7 C hX hP 0 (by decide) (shM_0 G ad _) (v := .ref (ad 1)) rfl dX7_isGlove_4 ?_
  refine lv_iconst (v := 0) hx hb dX7_isGlove_7 (by decide) ?_
  refine lv_as (y := nI 0) rfl ?_
  refine g_iald C hX hP 1 (by decide) (shM_1 G ad _) 0 (by omega) (by decide) dX7_isGlove_8 ?_
  refine lv_iconst (v := 1) hx hb dX7_isGlove_9 (by decide) ?_
  refine lv_isub hx hb dX7_isGlove_10 ?_
  refine lv_i2l (v := (((σ 1 0) - 1)).toInt64) hx hb dX7_isGlove_11 rfl ?_
  refine g_rd (g_runS (As := [.long ((g).toInt64), .long 0, .long ((((σ 1 0) - 1)).toInt64)]) (rest := []) ky_yX7_in lk_RX7_42 C (c_yX7_in l ((g).toInt64) 0 ((((σ 1 0) - 1)).toInt64)) ⟨rfl, rfl, by decide, by decide⟩ rfl hl.1 rfl (Nat.le_of_ble_eq_true rfl) ⟨Nat.zero_le _, Nat.zero_le _⟩ dX7_isGlove_12) ?_
  exact g_iret C hr hlk (nb_of (mb_in _ _ _)) (by rw [m_isGlove]) rfl rfl dX7_isGlove_15

def m_isTopic (t : Int32) : Int32 := (m_in ((t).toInt64) 0 15)
def rm_yX7_isTopic : Room := { frames := 1, cells := 0, slots := 0, locals := 25 }
set_option maxHeartbeats 4000000 in
set_option maxRecDepth 100000 in
theorem c_yX7_isTopic (l : Launch) (t : Int32) : gPure l yX7_isTopic cX7_isTopic 1 (some .boolean) rm_yX7_isTopic [.int t] (m_isTopic t) := by
  refine g_start [.int t] (by decide +kernel) (Nat.le_of_ble_eq_true rfl) ?_
  intro p e s m below meth c ls B Z hl
  obtain ⟨C, hr, hlk⟩ := B
  have hx := C.1
  have hb := C.2.1
  have hl : lv_has ls 1 [(0, .int t)] := hl
  refine lv_iload_n hx hb dX7_isTopic_0 rfl (lv_at hl 0 rfl) ?_
  refine lv_i2l (v := (t).toInt64) hx hb dX7_isTopic_1 rfl ?_
  refine lv_lconst (v := 0) hx hb dX7_isTopic_2 (by decide) ?_
  refine lv_ldc2 hx hb C.2.2.2.1 (C.2.2.2.2 _ kc_RX7_46) dX7_isTopic_3 ?_
  refine g_rd (g_runS (As := [.long ((t).toInt64), .long 0, .long 15]) (rest := []) ky_yX7_in lk_RX7_42 C (c_yX7_in l ((t).toInt64) 0 15) ⟨rfl, rfl, by decide, by decide⟩ rfl hl.1 rfl (Nat.le_of_ble_eq_true rfl) ⟨Nat.zero_le _, Nat.zero_le _⟩ dX7_isTopic_6) ?_
  exact g_iret C hr hlk (nb_of (mb_in _ _ _)) (by rw [m_isTopic]) rfl rfl dX7_isTopic_9

def m_areTopics (t : Int32) : Int32 := (m_in ((t).toInt64) 0 65535)
def rm_yX7_areTopics : Room := { frames := 1, cells := 0, slots := 0, locals := 25 }
set_option maxHeartbeats 4000000 in
set_option maxRecDepth 100000 in
theorem c_yX7_areTopics (l : Launch) (t : Int32) : gPure l yX7_areTopics cX7_areTopics 1 (some .boolean) rm_yX7_areTopics [.int t] (m_areTopics t) := by
  refine g_start [.int t] (by decide +kernel) (Nat.le_of_ble_eq_true rfl) ?_
  intro p e s m below meth c ls B Z hl
  obtain ⟨C, hr, hlk⟩ := B
  have hx := C.1
  have hb := C.2.1
  have hl : lv_has ls 1 [(0, .int t)] := hl
  refine lv_iload_n hx hb dX7_areTopics_0 rfl (lv_at hl 0 rfl) ?_
  refine lv_i2l (v := (t).toInt64) hx hb dX7_areTopics_1 rfl ?_
  refine lv_lconst (v := 0) hx hb dX7_areTopics_2 (by decide) ?_
  refine lv_ldc2 hx hb C.2.2.2.1 (C.2.2.2.2 _ kc_RX7_48) dX7_areTopics_3 ?_
  refine g_rd (g_runS (As := [.long ((t).toInt64), .long 0, .long 65535]) (rest := []) ky_yX7_in lk_RX7_42 C (c_yX7_in l ((t).toInt64) 0 65535) ⟨rfl, rfl, by decide, by decide⟩ rfl hl.1 rfl (Nat.le_of_ble_eq_true rfl) ⟨Nat.zero_le _, Nat.zero_le _⟩ dX7_areTopics_6) ?_
  exact g_iret C hr hlk (nb_of (mb_in _ _ _)) (by rw [m_areTopics]) rfl rfl dX7_areTopics_9

def m_isPlace (t : Int32) : Int32 := (m_in ((t).toInt64) 0 5)
def rm_yX7_isPlace : Room := { frames := 1, cells := 0, slots := 0, locals := 25 }
set_option maxHeartbeats 4000000 in
set_option maxRecDepth 100000 in
theorem c_yX7_isPlace (l : Launch) (t : Int32) : gPure l yX7_isPlace cX7_isPlace 1 (some .boolean) rm_yX7_isPlace [.int t] (m_isPlace t) := by
  refine g_start [.int t] (by decide +kernel) (Nat.le_of_ble_eq_true rfl) ?_
  intro p e s m below meth c ls B Z hl
  obtain ⟨C, hr, hlk⟩ := B
  have hx := C.1
  have hb := C.2.1
  have hl : lv_has ls 1 [(0, .int t)] := hl
  refine lv_iload_n hx hb dX7_isPlace_0 rfl (lv_at hl 0 rfl) ?_
  refine lv_i2l (v := (t).toInt64) hx hb dX7_isPlace_1 rfl ?_
  refine lv_lconst (v := 0) hx hb dX7_isPlace_2 (by decide) ?_
  refine lv_ldc2 hx hb C.2.2.2.1 (C.2.2.2.2 _ kc_RX7_50) dX7_isPlace_3 ?_
  refine g_rd (g_runS (As := [.long ((t).toInt64), .long 0, .long 5]) (rest := []) ky_yX7_in lk_RX7_42 C (c_yX7_in l ((t).toInt64) 0 5) ⟨rfl, rfl, by decide, by decide⟩ rfl hl.1 rfl (Nat.le_of_ble_eq_true rfl) ⟨Nat.zero_le _, Nat.zero_le _⟩ dX7_isPlace_6) ?_
  exact g_iret C hr hlk (nb_of (mb_in _ _ _)) (by rw [m_isPlace]) rfl rfl dX7_isPlace_9

def m_isSheet (t : Int32) : Int32 := (m_in ((t).toInt64) 0 3)
def rm_yX7_isSheet : Room := { frames := 1, cells := 0, slots := 0, locals := 25 }
set_option maxHeartbeats 4000000 in
set_option maxRecDepth 100000 in
theorem c_yX7_isSheet (l : Launch) (t : Int32) : gPure l yX7_isSheet cX7_isSheet 1 (some .boolean) rm_yX7_isSheet [.int t] (m_isSheet t) := by
  refine g_start [.int t] (by decide +kernel) (Nat.le_of_ble_eq_true rfl) ?_
  intro p e s m below meth c ls B Z hl
  obtain ⟨C, hr, hlk⟩ := B
  have hx := C.1
  have hb := C.2.1
  have hl : lv_has ls 1 [(0, .int t)] := hl
  refine lv_iload_n hx hb dX7_isSheet_0 rfl (lv_at hl 0 rfl) ?_
  refine lv_i2l (v := (t).toInt64) hx hb dX7_isSheet_1 rfl ?_
  refine lv_lconst (v := 0) hx hb dX7_isSheet_2 (by decide) ?_
  refine lv_ldc2 hx hb C.2.2.2.1 (C.2.2.2.2 _ kc_RX7_131) dX7_isSheet_3 ?_
  refine g_rd (g_runS (As := [.long ((t).toInt64), .long 0, .long 3]) (rest := []) ky_yX7_in lk_RX7_42 C (c_yX7_in l ((t).toInt64) 0 3) ⟨rfl, rfl, by decide, by decide⟩ rfl hl.1 rfl (Nat.le_of_ble_eq_true rfl) ⟨Nat.zero_le _, Nat.zero_le _⟩ dX7_isSheet_6) ?_
  exact g_iret C hr hlk (nb_of (mb_in _ _ _)) (by rw [m_isSheet]) rfl rfl dX7_isSheet_9

def m_isSaying (v : Int32) : Int32 := if (m_in ((v).toInt64) 0 5159) = 0 then 0 else (if 160 ≤ (jrem v 1000) then 0 else 1)
def rm_yX7_isSaying : Room := { frames := 1, cells := 0, slots := 0, locals := 25 }
set_option maxHeartbeats 4000000 in
set_option maxRecDepth 100000 in
theorem c_yX7_isSaying (l : Launch) (v : Int32) : gPure l yX7_isSaying cX7_isSaying 1 (some .boolean) rm_yX7_isSaying [.int v] (m_isSaying v) := by
  refine g_start [.int v] (by decide +kernel) (Nat.le_of_ble_eq_true rfl) ?_
  intro p e s m below meth c ls B Z hl
  obtain ⟨C, hr, hlk⟩ := B
  have hx := C.1
  have hb := C.2.1
  have hl : lv_has ls 1 [(0, .int v)] := hl
  refine lv_iload_n hx hb dX7_isSaying_0 rfl (lv_at hl 0 rfl) ?_
  refine lv_i2l (v := (v).toInt64) hx hb dX7_isSaying_1 rfl ?_
  refine lv_lconst (v := 0) hx hb dX7_isSaying_2 (by decide) ?_
  refine lv_ldc2 hx hb C.2.2.2.1 (C.2.2.2.2 _ kc_RX7_52) dX7_isSaying_3 ?_
  refine g_rd (g_runS (As := [.long ((v).toInt64), .long 0, .long 5159]) (rest := []) ky_yX7_in lk_RX7_42 C (c_yX7_in l ((v).toInt64) 0 5159) ⟨rfl, rfl, by decide, by decide⟩ rfl hl.1 rfl (Nat.le_of_ble_eq_true rfl) ⟨Nat.zero_le _, Nat.zero_le _⟩ dX7_isSaying_6) ?_
  refine lv_if_eq (tgt := 27) hx hb dX7_isSaying_9 (by decide) (fun c1 => ?_) (fun c1 => ?_)
  · refine lv_iconst (v := 0) hx hb dX7_isSaying_27 (by decide) ?_
    exact g_iret C hr hlk rfl (by rw [m_isSaying, if_pos c1]) rfl rfl dX7_isSaying_28
  · refine lv_iload_n hx hb dX7_isSaying_12 rfl (lv_at hl 0 rfl) ?_
    refine lv_sipush (v := 1000) hx hb dX7_isSaying_13 (by decide) ?_
    refine g_irem hx hb dX7_isSaying_16 (by decide) ?_
    refine lv_sipush (v := 160) hx hb dX7_isSaying_17 (by decide) ?_
    refine lv_icmp_ge (tgt := 27) hx hb dX7_isSaying_20 (by decide) (fun c2 => ?_) (fun c2 => ?_)
    · refine lv_iconst (v := 0) hx hb dX7_isSaying_27 (by decide) ?_
      exact g_iret C hr hlk rfl (by rw [m_isSaying, if_neg c1, if_pos c2]) rfl rfl dX7_isSaying_28
    · refine lv_iconst (v := 1) hx hb dX7_isSaying_23 (by decide) ?_
      refine lv_goto (tgt := 28) hx hb dX7_isSaying_24 (by decide) ?_
      exact g_iret C hr hlk rfl (by rw [m_isSaying, if_neg c1, if_neg c2]) rfl rfl dX7_isSaying_28

def m_its (σ : gM) (g : Nat) (w : Nat) : Int32 := (σ 1 (9 + 8 * w + g))
def rm_yX7_its : Room := { frames := 0, cells := 0, slots := 0, locals := 0 }
set_option maxHeartbeats 4000000 in
set_option maxRecDepth 100000 in
theorem c_yX7_its (l : Launch) (G : gG) (ad : Nat → Nat) (hI : gI G.2.2.1 11 ad) (σ : gM) (g : Nat) (w : Nat) (hg : g < 8) (hw : w < 7) : gRead l yX7_its cX7_its 3 (some .int) rm_yX7_its G [.ref (ad 0), .int (nI g), .int (nI w)] 11 ad (gE (shM G ad) σ) (m_its σ g w) := by
  refine g_start [.ref (ad 0), .int (nI g), .int (nI w)] (by decide +kernel) (Nat.le_of_ble_eq_true rfl) ?_
  intro p e s m below meth c ls B Z hl
  obtain ⟨C, hr, hlk⟩ := B
  have hx := C.1
  have hb := C.2.1
  obtain ⟨hX, hP⟩ := Z
  have hS : va_S (gA 11 ad) s.heap s.heap [] := va_S.rf
  have hl : lv_has ls 3 [(0, .ref (ad 0)), (1, .int (nI g)), (2, .int (nI w))] := hl
  refine lv_aload_n hx hb dX7_its_0 rfl (lv_at hl 0 rfl) ?_
  refine g_get fd_RX7_7 C hX hP 0 (by decide) (shM_0 G ad _) (v := .ref (ad 1)) rfl dX7_its_1 ?_
  refine lv_bipush (v := 9) hx hb dX7_its_4 (by decide) ?_
  refine lv_bipush (v := 8) hx hb dX7_its_6 (by decide) ?_
  refine lv_iload_n hx hb dX7_its_8 rfl (lv_at hl 2 rfl) ?_
  refine lv_imul hx hb dX7_its_9 ?_
  refine lv_iadd hx hb dX7_its_10 ?_
  refine lv_iload_n hx hb dX7_its_11 rfl (lv_at hl 1 rfl) ?_
  refine lv_iadd hx hb dX7_its_12 ?_
  refine lv_as (y := (nI (9 + 8 * w + g))) (ix_its w g) ?_
  refine g_iald C hX hP 1 (by decide) (shM_1 G ad _) (9 + 8 * w + g) (by omega) (by decide) dX7_its_13 ?_
  exact g_iret C hr hlk rfl (by rw [m_its]) rfl rfl dX7_its_14

def m_sets (σ : gM) (g : Nat) (w : Nat) (v : Int32) : gM := (mset σ 1 (9 + 8 * w + g) v)
def rm_yX7_sets : Room := { frames := 0, cells := 0, slots := 0, locals := 0 }
set_option maxHeartbeats 4000000 in
set_option maxRecDepth 100000 in
theorem c_yX7_sets (l : Launch) (G : gG) (ad : Nat → Nat) (hI : gI G.2.2.1 11 ad) (σ : gM) (g : Nat) (w : Nat) (v : Int32) (hg : g < 8) (hw : w < 7) : gMutV l yX7_sets cX7_sets 4 none rm_yX7_sets G [.ref (ad 0), .int (nI g), .int (nI w), .int v] 11 ad (shM G ad) σ (m_sets σ g w v) := by
  refine g_start [.ref (ad 0), .int (nI g), .int (nI w), .int v] (by decide +kernel) (Nat.le_of_ble_eq_true rfl) ?_
  intro p e s m below meth c ls B Z hl
  obtain ⟨C, hr, hlk⟩ := B
  have hx := C.1
  have hb := C.2.1
  obtain ⟨hX, hP⟩ := Z
  have hS : va_S (gA 11 ad) s.heap s.heap [] := va_S.rf
  revert hP hS
  intro hP hS
  have hl : lv_has ls 4 [(0, .ref (ad 0)), (1, .int (nI g)), (2, .int (nI w)), (3, .int v)] := hl
  refine lv_aload_n hx hb dX7_sets_0 rfl (lv_at hl 0 rfl) ?_
  refine g_get fd_RX7_7 C hX hP 0 (by decide) (shM_0 G ad _) (v := .ref (ad 1)) rfl dX7_sets_1 ?_
  refine lv_bipush (v := 9) hx hb dX7_sets_4 (by decide) ?_
  refine lv_bipush (v := 8) hx hb dX7_sets_6 (by decide) ?_
  refine lv_iload_n hx hb dX7_sets_8 rfl (lv_at hl 2 rfl) ?_
  refine lv_imul hx hb dX7_sets_9 ?_
  refine lv_iadd hx hb dX7_sets_10 ?_
  refine lv_iload_n hx hb dX7_sets_11 rfl (lv_at hl 1 rfl) ?_
  refine lv_iadd hx hb dX7_sets_12 ?_
  refine lv_iload_n hx hb dX7_sets_13 rfl (lv_at hl 3 rfl) ?_
  refine lv_as1 (y := (nI (9 + 8 * w + g))) (ix_its w g) ?_
  refine g_iast C hX hI hP hS 1 (by decide) (shM_1 G ad _) (9 + 8 * w + g) (by omega) (by decide) (upd (σ 1) (9 + 8 * w + g) v) rfl dX7_sets_14 (fun H locs hP hS => ?_)
  have hP : gP G.1 11 ad (gE (shM G ad) (mset σ 1 (9 + 8 * w + g) v)) H := hP
  exact g_vretM C hr hlk (by rw [m_sets]) hP hS dX7_sets_15

def m_becomes (σ : gM) (w : Nat) (v : Int32) : Int32 × gM := ((σ 1 w), (mset σ 1 w v))
def rm_yX7_becomes : Room := { frames := 0, cells := 0, slots := 0, locals := 0 }
set_option maxHeartbeats 4000000 in
set_option maxRecDepth 100000 in
theorem c_yX7_becomes (l : Launch) (G : gG) (ad : Nat → Nat) (hI : gI G.2.2.1 11 ad) (σ : gM) (w : Nat) (v : Int32) (hw : w < 75) : gMutI l yX7_becomes cX7_becomes 4 (some .int) rm_yX7_becomes G [.ref (ad 0), .int (nI w), .int v] 11 ad (shM G ad) σ (m_becomes σ w v) := by
  refine g_start [.ref (ad 0), .int (nI w), .int v] (by decide +kernel) (Nat.le_of_ble_eq_true rfl) ?_
  intro p e s m below meth c ls B Z hl
  obtain ⟨C, hr, hlk⟩ := B
  have hx := C.1
  have hb := C.2.1
  obtain ⟨hX, hP⟩ := Z
  have hS : va_S (gA 11 ad) s.heap s.heap [] := va_S.rf
  revert hP hS
  intro hP hS
  have hl : lv_has ls 4 [(0, .ref (ad 0)), (1, .int (nI w)), (2, .int v)] := hl
  refine lv_aload_n hx hb dX7_becomes_0 rfl (lv_at hl 0 rfl) ?_
  refine g_get fd_RX7_7 C hX hP 0 (by decide) (shM_0 G ad _) (v := .ref (ad 1)) rfl dX7_becomes_1 ?_
  refine lv_iload_n hx hb dX7_becomes_4 rfl (lv_at hl 1 rfl) ?_
  refine g_iald C hX hP 1 (by decide) (shM_1 G ad _) w (by omega) (by decide) dX7_becomes_5 ?_
  refine lv_istore_n (lv' := [(3, .int (σ 1 w)), (0, .ref (ad 0)), (1, .int (nI w)), (2, .int v)]) hx hb dX7_becomes_6 rfl hl (by decide) rfl (fun ls hl => ?_)
  refine lv_aload_n hx hb dX7_becomes_7 rfl (lv_at hl 1 rfl) ?_
  refine g_get fd_RX7_7 C hX hP 0 (by decide) (shM_0 G ad _) (v := .ref (ad 1)) rfl dX7_becomes_8 ?_
  refine lv_iload_n hx hb dX7_becomes_11 rfl (lv_at hl 2 rfl) ?_
  refine lv_iload_n hx hb dX7_becomes_12 rfl (lv_at hl 3 rfl) ?_
  refine g_iast C hX hI hP hS 1 (by decide) (shM_1 G ad _) w (by omega) (by decide) (upd (σ 1) w v) rfl dX7_becomes_13 (fun H locs hP hS => ?_)
  have hP : gP G.1 11 ad (gE (shM G ad) (mset σ 1 w v)) H := hP
  refine lv_iload_n hx hb dX7_becomes_14 rfl (lv_at hl 0 rfl) ?_
  exact g_iretM C hr hlk rfl (by rw [m_becomes]) hP hS dX7_becomes_15

def m_ones_L4 (set : Int32) : Nat → Nat → Int32 → Int32
  | 0, i, acc => acc
  | n4 + 1, i, acc => (m_ones_L4 set n4 (i + 1) (acc + ((jshr set (nI i)) &&& 1)))
def m_ones (set : Int32) : Int32 := (m_ones_L4 set 16 0 0)
def rm_yX7_ones : Room := { frames := 0, cells := 0, slots := 0, locals := 0 }
set_option maxHeartbeats 4000000 in
set_option maxRecDepth 100000 in
theorem c_yX7_ones (l : Launch) (set : Int32) : gPure l yX7_ones cX7_ones 3 (some .int) rm_yX7_ones [.int set] (m_ones set) := by
  refine g_start [.int set] (by decide +kernel) (Nat.le_of_ble_eq_true rfl) ?_
  intro p e s m below meth c ls B Z hl
  obtain ⟨C, hr, hlk⟩ := B
  have hx := C.1
  have hb := C.2.1
  have hl : lv_has ls 3 [(0, .int set)] := hl
  refine lv_iconst (v := 0) hx hb dX7_ones_0 (by decide) ?_
  refine lv_istore_n (lv' := [(1, .int 0), (0, .int set)]) hx hb dX7_ones_1 rfl hl (by decide) rfl (fun ls hl => ?_)
  refine lv_iconst (v := 0) hx hb dX7_ones_2 (by decide) ?_
  refine lv_istore_n (lv' := [(2, .int 0), (1, .int 0), (0, .int set)]) hx hb dX7_ones_3 rfl hl (by decide) rfl (fun ls hl => ?_)
  suffices loop4 : ∀ (n4 : Nat) (i : Nat) (acc : Int32) (ls : Array Slot), (i + n4 = 16) → m_ones set = (m_ones_L4 set n4 i acc) → lv_has ls 3 [(2, .int (nI i)), (1, .int acc), (0, .int set)] → W p l e rm_yX7_ones s m ([.int set] : List Value).toArray below meth c s.heap [] 0 0 (MQ below (vp_Si (fun x => x = m_ones set)) ([.int set] : List Value).toArray s 0 0 (fun _ => False)) (F0 m 4 ls []) by
    exact loop4 16 0 0 _ (by omega) (by rw [m_ones]) (lv_sub hl [0, 1, 2] rfl)
  intro n4
  induction n4 with
  | zero =>
    intro i acc ls hi4 hres4 hl
    refine lv_iload_n hx hb dX7_ones_4 rfl (lv_at hl 0 rfl) ?_
    refine lv_bipush (v := 16) hx hb dX7_ones_5 (by decide) ?_
    refine lv_icmp_ge (tgt := 24) hx hb dX7_ones_7 (by decide) (fun c1 => ?_) (fun c1 => ?_)
    · refine lv_iload_n hx hb dX7_ones_24 rfl (lv_at hl 1 rfl) ?_
      exact g_iret C hr hlk rfl (by rw [hres4, m_ones_L4]) rfl rfl dX7_ones_25
    · exact absurd (show nI (16) ≤ nI i from nI_le (by omega) (by omega)) c1
  | succ n4 ih4 =>
    intro i acc ls hi4 hres4 hl
    refine lv_iload_n hx hb dX7_ones_4 rfl (lv_at hl 0 rfl) ?_
    refine lv_bipush (v := 16) hx hb dX7_ones_5 (by decide) ?_
    refine lv_icmp_ge (tgt := 24) hx hb dX7_ones_7 (by decide) (fun c2 => ?_) (fun c2 => ?_)
    · exact absurd (show nI (16) ≤ nI i from c2) (nI_ge (by omega) (by omega))
    · refine lv_iload_n hx hb dX7_ones_10 rfl (lv_at hl 1 rfl) ?_
      refine lv_iload_n hx hb dX7_ones_11 rfl (lv_at hl 2 rfl) ?_
      refine lv_iload_n hx hb dX7_ones_12 rfl (lv_at hl 0 rfl) ?_
      refine g_ishr hx hb dX7_ones_13 ?_
      refine lv_iconst (v := 1) hx hb dX7_ones_14 (by decide) ?_
      refine lv_iand hx hb dX7_ones_15 ?_
      refine lv_iadd hx hb dX7_ones_16 ?_
      refine lv_istore_n (lv' := [(1, .int (acc + ((jshr set (nI i)) &&& 1))), (2, .int (nI i)), (0, .int set)]) hx hb dX7_ones_17 rfl hl (by decide) rfl (fun ls hl => ?_)
      refine lv_iinc (v := (nI (i + 1))) (lv' := [(2, .int (nI (i + 1))), (1, .int (acc + ((jshr set (nI i)) &&& 1))), (0, .int set)]) hx hb dX7_ones_18 hl (k := 1) rfl (by exact nI_1 _) (by decide) rfl (fun ls hl => ?_)
      refine lv_goto (tgt := 4) hx hb dX7_ones_21 (by decide) ?_
      exact ih4 (i + 1) (acc + ((jshr set (nI i)) &&& 1)) _ (by omega) (by rw [hres4, m_ones_L4]) (lv_sub hl [0, 1, 2] rfl)

def m_isIn (σ : gM) (g : Nat) (room : Int32) : Int32 := if ((jshr (σ 0 2) (nI g)) &&& 1) = 0 then (if (m_its σ g 1) = room then 1 else 0) else 0
def rm_yX7_isIn : Room := { frames := 1, cells := 0, slots := 0, locals := 22 }
set_option maxHeartbeats 4000000 in
set_option maxRecDepth 100000 in
theorem c_yX7_isIn (l : Launch) (G : gG) (ad : Nat → Nat) (hI : gI G.2.2.1 11 ad) (σ : gM) (g : Nat) (room : Int32) (hg : g < 8) : gRead l yX7_isIn cX7_isIn 3 (some .boolean) rm_yX7_isIn G [.ref (ad 0), .int (nI g), .int room] 11 ad (gE (shM G ad) σ) (m_isIn σ g room) := by
  refine g_start [.ref (ad 0), .int (nI g), .int room] (by decide +kernel) (Nat.le_of_ble_eq_true rfl) ?_
  intro p e s m below meth c ls B Z hl
  obtain ⟨C, hr, hlk⟩ := B
  have hx := C.1
  have hb := C.2.1
  obtain ⟨hX, hP⟩ := Z
  have hS : va_S (gA 11 ad) s.heap s.heap [] := va_S.rf
  have hl : lv_has ls 3 [(0, .ref (ad 0)), (1, .int (nI g)), (2, .int room)] := hl
  refine lv_aload_n hx hb dX7_isIn_0 rfl (lv_at hl 0 rfl) ?_
  refine g_get fd_RX7_54 C hX hP 0 (by decide) (shM_0 G ad _) (v := .int (σ 0 2)) rfl dX7_isIn_1 ?_
  refine lv_iload_n hx hb dX7_isIn_4 rfl (lv_at hl 1 rfl) ?_
  refine g_ishr hx hb dX7_isIn_5 ?_
  refine lv_iconst (v := 1) hx hb dX7_isIn_6 (by decide) ?_
  refine lv_iand hx hb dX7_isIn_7 ?_
  refine lv_if_ne (tgt := 25) hx hb dX7_isIn_8 (by decide) (fun c1 => ?_) (fun c1 => ?_)
  · refine lv_iconst (v := 0) hx hb dX7_isIn_25 (by decide) ?_
    exact g_iret C hr hlk rfl (by rw [m_isIn, if_neg c1]) rfl rfl dX7_isIn_26
  · refine lv_aload_n hx hb dX7_isIn_11 rfl (lv_at hl 0 rfl) ?_
    refine lv_iload_n hx hb dX7_isIn_12 rfl (lv_at hl 1 rfl) ?_
    refine lv_iconst (v := 1) hx hb dX7_isIn_13 (by decide) ?_
    refine g_rd (g_runV (As := [.int (nI g), .int 1]) (rest := []) ky_yX7_its lk_RX7_58 C hX (gS_b0 hI hS) hP 0 (c_yX7_its l G ad hI σ g 1 (by omega) (by decide)) (by decide) (shM_0 G ad _) ⟨rfl, rfl, by decide, by decide⟩ rfl hl.1 rfl (Nat.le_of_ble_eq_true rfl) ⟨Nat.zero_le _, Nat.zero_le _⟩ dX7_isIn_14) ?_
    refine lv_iload_n hx hb dX7_isIn_17 rfl (lv_at hl 2 rfl) ?_
    refine lv_icmp_ne (tgt := 25) hx hb dX7_isIn_18 (by decide) (fun c2 => ?_) (fun c2 => ?_)
    · refine lv_iconst (v := 0) hx hb dX7_isIn_25 (by decide) ?_
      exact g_iret C hr hlk rfl (by rw [m_isIn, if_pos c1, if_neg c2]) rfl rfl dX7_isIn_26
    · refine lv_iconst (v := 1) hx hb dX7_isIn_21 (by decide) ?_
      refine lv_goto (tgt := 26) hx hb dX7_isIn_22 (by decide) ?_
      exact g_iret C hr hlk rfl (by rw [m_isIn, if_pos c1, if_pos c2]) rfl rfl dX7_isIn_26

def m_hasOther_L2 (σ : gM) (g : Nat) : Nat → Nat → Int32
  | 0, i => 0
  | n2 + 1, i => if (nI i) = (nI g) then (m_hasOther_L2 σ g n2 (i + 1)) else (if (m_isIn σ i (m_its σ g 1)) = 0 then (m_hasOther_L2 σ g n2 (i + 1)) else 1)
def m_hasOther (σ : gM) (g : Nat) : Int32 := (m_hasOther_L2 σ g (nN (σ 1 0)) 0)
def rm_yX7_hasOther : Room := { frames := 2, cells := 0, slots := 0, locals := 44 }
set_option maxHeartbeats 4000000 in
set_option maxRecDepth 100000 in
theorem c_yX7_hasOther (l : Launch) (G : gG) (ad : Nat → Nat) (hI : gI G.2.2.1 11 ad) (σ : gM) (g : Nat) (N : Nat) (hN : N ≤ 8) (hs : σ 1 0 = nI N) (hg : g < 8) : gRead l yX7_hasOther cX7_hasOther 3 (some .boolean) rm_yX7_hasOther G [.ref (ad 0), .int (nI g)] 11 ad (gE (shM G ad) σ) (m_hasOther σ g) := by
  refine g_start [.ref (ad 0), .int (nI g)] (by decide +kernel) (Nat.le_of_ble_eq_true rfl) ?_
  intro p e s m below meth c ls B Z hl
  obtain ⟨C, hr, hlk⟩ := B
  have hx := C.1
  have hb := C.2.1
  obtain ⟨hX, hP⟩ := Z
  have hS : va_S (gA 11 ad) s.heap s.heap [] := va_S.rf
  have hl : lv_has ls 3 [(0, .ref (ad 0)), (1, .int (nI g))] := hl
  refine lv_iconst (v := 0) hx hb dX7_hasOther_0 (by decide) ?_
  refine lv_istore_n (lv' := [(2, .int 0), (0, .ref (ad 0)), (1, .int (nI g))]) hx hb dX7_hasOther_1 rfl hl (by decide) rfl (fun ls hl => ?_)
  suffices loop2 : ∀ (n2 : Nat) (i : Nat) (ls : Array Slot), (i + n2 = N) → m_hasOther σ g = (m_hasOther_L2 σ g n2 i) → lv_has ls 3 [(2, .int (nI i)), (0, .ref (ad 0)), (1, .int (nI g))] → W p l e rm_yX7_hasOther s m ([.ref (ad 0), .int (nI g)] : List Value).toArray below meth c s.heap [] 0 0 (MQ below (vp_Si (fun x => x = m_hasOther σ g)) ([.ref (ad 0), .int (nI g)] : List Value).toArray s 0 0 (fun _ => False)) (F0 m 2 ls []) by
    exact loop2 N 0 _ (by omega) (by rw [m_hasOther, hs, nN_nI (by omega)]) (lv_sub hl [0, 1, 2] rfl)
  intro n2
  induction n2 with
  | zero =>
    intro i ls hi2 hres2 hl
    refine lv_iload_n hx hb dX7_hasOther_2 rfl (lv_at hl 0 rfl) ?_
    refine lv_aload_n hx hb dX7_hasOther_3 rfl (lv_at hl 1 rfl) ?_
    refine g_get fd_RX7_7 C hX hP 0 (by decide) (shM_0 G ad _) (v := .ref (ad 1)) rfl dX7_hasOther_4 ?_
    refine lv_iconst (v := 0) hx hb dX7_hasOther_7 (by decide) ?_
    refine lv_as (y := nI 0) rfl ?_
    refine g_iald C hX hP 1 (by decide) (shM_1 G ad _) 0 (by omega) (by decide) dX7_hasOther_8 ?_
    refine lv_as (y := (nI N)) hs ?_
    refine lv_icmp_ge (tgt := 39) hx hb dX7_hasOther_9 (by decide) (fun c1 => ?_) (fun c1 => ?_)
    · refine lv_iconst (v := 0) hx hb dX7_hasOther_39 (by decide) ?_
      exact g_iret C hr hlk rfl (by rw [hres2, m_hasOther_L2]) rfl rfl dX7_hasOther_40
    · exact absurd (show nI (N) ≤ nI i from nI_le (by omega) (by omega)) c1
  | succ n2 ih2 =>
    intro i ls hi2 hres2 hl
    refine lv_iload_n hx hb dX7_hasOther_2 rfl (lv_at hl 0 rfl) ?_
    refine lv_aload_n hx hb dX7_hasOther_3 rfl (lv_at hl 1 rfl) ?_
    refine g_get fd_RX7_7 C hX hP 0 (by decide) (shM_0 G ad _) (v := .ref (ad 1)) rfl dX7_hasOther_4 ?_
    refine lv_iconst (v := 0) hx hb dX7_hasOther_7 (by decide) ?_
    refine lv_as (y := nI 0) rfl ?_
    refine g_iald C hX hP 1 (by decide) (shM_1 G ad _) 0 (by omega) (by decide) dX7_hasOther_8 ?_
    refine lv_as (y := (nI N)) hs ?_
    refine lv_icmp_ge (tgt := 39) hx hb dX7_hasOther_9 (by decide) (fun c2 => ?_) (fun c2 => ?_)
    · exact absurd (show nI (N) ≤ nI i from c2) (nI_ge (by omega) (by omega))
    · refine lv_iload_n hx hb dX7_hasOther_12 rfl (lv_at hl 0 rfl) ?_
      refine lv_iload_n hx hb dX7_hasOther_13 rfl (lv_at hl 2 rfl) ?_
      refine lv_icmp_eq (tgt := 33) hx hb dX7_hasOther_14 (by decide) (fun c3 => ?_) (fun c3 => ?_)
      · refine lv_iinc (v := (nI (i + 1))) (lv' := [(2, .int (nI (i + 1))), (0, .ref (ad 0)), (1, .int (nI g))]) hx hb dX7_hasOther_33 hl (k := 0) rfl (by exact nI_1 _) (by decide) rfl (fun ls hl => ?_)
        refine lv_goto (tgt := 2) hx hb dX7_hasOther_36 (by decide) ?_
        exact ih2 (i + 1) _ (by omega) (by rw [hres2, m_hasOther_L2, if_pos c3]) (lv_sub hl [0, 1, 2] rfl)
      · refine lv_aload_n hx hb dX7_hasOther_17 rfl (lv_at hl 1 rfl) ?_
        refine lv_iload_n hx hb dX7_hasOther_18 rfl (lv_at hl 0 rfl) ?_
        refine lv_aload_n hx hb dX7_hasOther_19 rfl (lv_at hl 1 rfl) ?_
        refine lv_iload_n hx hb dX7_hasOther_20 rfl (lv_at hl 2 rfl) ?_
        refine lv_iconst (v := 1) hx hb dX7_hasOther_21 (by decide) ?_
        refine g_rd (g_runV (As := [.int (nI g), .int 1]) (rest := [.int (nI i), .ref (ad 0)]) ky_yX7_its lk_RX7_58 C hX (gS_b0 hI hS) hP 0 (c_yX7_its l G ad hI σ g 1 (by omega) (by decide)) (by decide) (shM_0 G ad _) ⟨rfl, rfl, by decide, by decide⟩ rfl hl.1 rfl (Nat.le_of_ble_eq_true rfl) ⟨Nat.zero_le _, Nat.zero_le _⟩ dX7_hasOther_22) ?_
        refine g_rd (g_runV (As := [.int (nI i), .int (m_its σ g 1)]) (rest := []) ky_yX7_isIn lk_RX7_62 C hX (gS_b0 hI hS) hP 0 (c_yX7_isIn l G ad hI σ i (m_its σ g 1) (by omega)) (by decide) (shM_0 G ad _) ⟨rfl, rfl, by decide, by decide⟩ rfl hl.1 rfl (Nat.le_of_ble_eq_true rfl) ⟨Nat.zero_le _, Nat.zero_le _⟩ dX7_hasOther_25) ?_
        refine lv_if_eq (tgt := 33) hx hb dX7_hasOther_28 (by decide) (fun c4 => ?_) (fun c4 => ?_)
        · refine lv_iinc (v := (nI (i + 1))) (lv' := [(2, .int (nI (i + 1))), (0, .ref (ad 0)), (1, .int (nI g))]) hx hb dX7_hasOther_33 hl (k := 0) rfl (by exact nI_1 _) (by decide) rfl (fun ls hl => ?_)
          refine lv_goto (tgt := 2) hx hb dX7_hasOther_36 (by decide) ?_
          exact ih2 (i + 1) _ (by omega) (by rw [hres2, m_hasOther_L2, if_neg c3, if_pos c4]) (lv_sub hl [0, 1, 2] rfl)
        · refine lv_iconst (v := 1) hx hb dX7_hasOther_31 (by decide) ?_
          exact g_iret C hr hlk rfl (by rw [hres2, m_hasOther_L2, if_neg c3, if_neg c4]) rfl rfl dX7_hasOther_32

def m_needs (σ : gM) (g : Nat) : Int32 := if (m_its σ g 0) = 1 then (m_held ((10 - (m_its σ g 2)) - 2) 0 10) else (if (m_its σ g 0) = 2 then ((10 - (m_its σ g 2)) + 3) else (if (m_its σ g 0) = 3 then (m_held ((10 - (m_its σ g 2)) - 1) 0 10) else (if (m_its σ g 0) = 4 then 99 else (if (m_its σ g 0) = 5 then 0 else (if (m_its σ g 0) = 6 then (if (m_hasOther σ g) = 0 then (m_held ((10 - (m_its σ g 2)) - 2) 0 10) else 1) else (10 - (m_its σ g 2)))))))
def rm_yX7_needs : Room := { frames := 3, cells := 0, slots := 0, locals := 66 }
set_option maxHeartbeats 4000000 in
set_option maxRecDepth 100000 in
theorem c_yX7_needs (l : Launch) (G : gG) (ad : Nat → Nat) (hI : gI G.2.2.1 11 ad) (σ : gM) (g : Nat) (N : Nat) (hN : N ≤ 8) (hs : σ 1 0 = nI N) (hg : g < 8) : gRead l yX7_needs cX7_needs 4 (some .int) rm_yX7_needs G [.ref (ad 0), .int (nI g)] 11 ad (gE (shM G ad) σ) (m_needs σ g) := by
  refine g_start [.ref (ad 0), .int (nI g)] (by decide +kernel) (Nat.le_of_ble_eq_true rfl) ?_
  intro p e s m below meth c ls B Z hl
  obtain ⟨C, hr, hlk⟩ := B
  have hx := C.1
  have hb := C.2.1
  obtain ⟨hX, hP⟩ := Z
  have hS : va_S (gA 11 ad) s.heap s.heap [] := va_S.rf
  have hl : lv_has ls 4 [(0, .ref (ad 0)), (1, .int (nI g))] := hl
  refine lv_bipush (v := 10) hx hb dX7_needs_0 (by decide) ?_
  refine lv_aload_n hx hb dX7_needs_2 rfl (lv_at hl 0 rfl) ?_
  refine lv_iload_n hx hb dX7_needs_3 rfl (lv_at hl 1 rfl) ?_
  refine lv_iconst (v := 2) hx hb dX7_needs_4 (by decide) ?_
  refine g_rd (g_runV (As := [.int (nI g), .int 2]) (rest := [.int 10]) ky_yX7_its lk_RX7_58 C hX (gS_b0 hI hS) hP 0 (c_yX7_its l G ad hI σ g 2 (by omega) (by decide)) (by decide) (shM_0 G ad _) ⟨rfl, rfl, by decide, by decide⟩ rfl hl.1 rfl (Nat.le_of_ble_eq_true rfl) ⟨Nat.zero_le _, Nat.zero_le _⟩ dX7_needs_5) ?_
  refine lv_isub hx hb dX7_needs_8 ?_
  refine lv_istore_n (lv' := [(2, .int (10 - (m_its σ g 2))), (0, .ref (ad 0)), (1, .int (nI g))]) hx hb dX7_needs_9 rfl hl (by decide) rfl (fun ls hl => ?_)
  refine lv_iload_n hx hb dX7_needs_10 rfl (lv_at hl 0 rfl) ?_
  refine lv_iconst (v := 2) hx hb dX7_needs_11 (by decide) ?_
  refine lv_isub hx hb dX7_needs_12 ?_
  refine lv_iconst (v := 0) hx hb dX7_needs_13 (by decide) ?_
  refine lv_bipush (v := 10) hx hb dX7_needs_14 (by decide) ?_
  refine g_rd (g_runS (As := [.int ((10 - (m_its σ g 2)) - 2), .int 0, .int 10]) (rest := []) ky_yX7_held lk_RX7_66 C (c_yX7_held l ((10 - (m_its σ g 2)) - 2) 0 10) ⟨rfl, rfl, by decide, by decide⟩ rfl hl.1 rfl (Nat.le_of_ble_eq_true rfl) ⟨Nat.zero_le _, Nat.zero_le _⟩ dX7_needs_16) ?_
  refine lv_istore_n (lv' := [(3, .int (m_held ((10 - (m_its σ g 2)) - 2) 0 10)), (2, .int (10 - (m_its σ g 2))), (0, .ref (ad 0)), (1, .int (nI g))]) hx hb dX7_needs_19 rfl hl (by decide) rfl (fun ls hl => ?_)
  refine lv_aload_n hx hb dX7_needs_20 rfl (lv_at hl 2 rfl) ?_
  refine lv_iload_n hx hb dX7_needs_21 rfl (lv_at hl 3 rfl) ?_
  refine lv_iconst (v := 0) hx hb dX7_needs_22 (by decide) ?_
  refine g_rd (g_runV (As := [.int (nI g), .int 0]) (rest := []) ky_yX7_its lk_RX7_58 C hX (gS_b0 hI hS) hP 0 (c_yX7_its l G ad hI σ g 0 (by omega) (by decide)) (by decide) (shM_0 G ad _) ⟨rfl, rfl, by decide, by decide⟩ rfl hl.1 rfl (Nat.le_of_ble_eq_true rfl) ⟨Nat.zero_le _, Nat.zero_le _⟩ dX7_needs_23) ?_
  by_cases c1 : (m_its σ g 0) = 1
  · refine lv_as (y := 1) c1 ?_
    refine lv_tableIn (tgt := 64) (off := 38) hx hb dX7_needs_26 (by decide) (by decide) (by decide) (by decide) ?_
    refine lv_iload_n hx hb dX7_needs_64 rfl (lv_at hl 0 rfl) ?_
    exact g_iret C hr hlk rfl (by rw [m_needs, if_pos c1]) rfl rfl dX7_needs_65
  by_cases c2 : (m_its σ g 0) = 2
  · refine lv_as (y := 2) c2 ?_
    refine lv_tableIn (tgt := 66) (off := 40) hx hb dX7_needs_26 (by decide) (by decide) (by decide) (by decide) ?_
    refine lv_iload_n hx hb dX7_needs_66 rfl (lv_at hl 1 rfl) ?_
    refine lv_iconst (v := 3) hx hb dX7_needs_67 (by decide) ?_
    refine lv_iadd hx hb dX7_needs_68 ?_
    exact g_iret C hr hlk rfl (by rw [m_needs, if_neg c1, if_pos c2]) rfl rfl dX7_needs_69
  by_cases c3 : (m_its σ g 0) = 3
  · refine lv_as (y := 3) c3 ?_
    refine lv_tableIn (tgt := 70) (off := 44) hx hb dX7_needs_26 (by decide) (by decide) (by decide) (by decide) ?_
    refine lv_iload_n hx hb dX7_needs_70 rfl (lv_at hl 1 rfl) ?_
    refine lv_iconst (v := 1) hx hb dX7_needs_71 (by decide) ?_
    refine lv_isub hx hb dX7_needs_72 ?_
    refine lv_iconst (v := 0) hx hb dX7_needs_73 (by decide) ?_
    refine lv_bipush (v := 10) hx hb dX7_needs_74 (by decide) ?_
    refine g_rd (g_runS (As := [.int ((10 - (m_its σ g 2)) - 1), .int 0, .int 10]) (rest := []) ky_yX7_held lk_RX7_66 C (c_yX7_held l ((10 - (m_its σ g 2)) - 1) 0 10) ⟨rfl, rfl, by decide, by decide⟩ rfl hl.1 rfl (Nat.le_of_ble_eq_true rfl) ⟨Nat.zero_le _, Nat.zero_le _⟩ dX7_needs_76) ?_
    exact g_iret C hr hlk rfl (by rw [m_needs, if_neg c1, if_neg c2, if_pos c3]) rfl rfl dX7_needs_79
  by_cases c4 : (m_its σ g 0) = 4
  · refine lv_as (y := 4) c4 ?_
    refine lv_tableIn (tgt := 80) (off := 54) hx hb dX7_needs_26 (by decide) (by decide) (by decide) (by decide) ?_
    refine lv_bipush (v := 99) hx hb dX7_needs_80 (by decide) ?_
    exact g_iret C hr hlk rfl (by rw [m_needs, if_neg c1, if_neg c2, if_neg c3, if_pos c4]) rfl rfl dX7_needs_82
  by_cases c5 : (m_its σ g 0) = 5
  · refine lv_as (y := 5) c5 ?_
    refine lv_tableIn (tgt := 83) (off := 57) hx hb dX7_needs_26 (by decide) (by decide) (by decide) (by decide) ?_
    refine lv_iconst (v := 0) hx hb dX7_needs_83 (by decide) ?_
    exact g_iret C hr hlk rfl (by rw [m_needs, if_neg c1, if_neg c2, if_neg c3, if_neg c4, if_pos c5]) rfl rfl dX7_needs_84
  by_cases c6 : (m_its σ g 0) = 6
  · refine lv_as (y := 6) c6 ?_
    refine lv_tableIn (tgt := 85) (off := 59) hx hb dX7_needs_26 (by decide) (by decide) (by decide) (by decide) ?_
    refine lv_aload_n hx hb dX7_needs_85 rfl (lv_at hl 2 rfl) ?_
    refine lv_iload_n hx hb dX7_needs_86 rfl (lv_at hl 3 rfl) ?_
    refine g_rd (g_runV (As := [.int (nI g)]) (rest := []) ky_yX7_hasOther lk_RX7_70 C hX (gS_b0 hI hS) hP 0 (c_yX7_hasOther l G ad hI σ g N hN hs hg) (by decide) (shM_0 G ad _) ⟨rfl, rfl, by decide, by decide⟩ rfl hl.1 rfl (Nat.le_of_ble_eq_true rfl) ⟨Nat.zero_le _, Nat.zero_le _⟩ dX7_needs_87) ?_
    refine lv_if_eq (tgt := 97) hx hb dX7_needs_90 (by decide) (fun c7 => ?_) (fun c7 => ?_)
    · refine lv_iload_n hx hb dX7_needs_97 rfl (lv_at hl 0 rfl) ?_
      exact g_iret C hr hlk rfl (by rw [m_needs, if_neg c1, if_neg c2, if_neg c3, if_neg c4, if_neg c5, if_pos c6, if_pos c7]) rfl rfl dX7_needs_98
    · refine lv_iconst (v := 1) hx hb dX7_needs_93 (by decide) ?_
      refine lv_goto (tgt := 98) hx hb dX7_needs_94 (by decide) ?_
      exact g_iret C hr hlk rfl (by rw [m_needs, if_neg c1, if_neg c2, if_neg c3, if_neg c4, if_neg c5, if_pos c6, if_neg c7]) rfl rfl dX7_needs_98
  have h8 := lv_neT (a := 1) c1 (by decide)
  have h9 := lv_neT (a := 2) c2 (by decide)
  have h10 := lv_neT (a := 3) c3 (by decide)
  have h11 := lv_neT (a := 4) c4 (by decide)
  have h12 := lv_neT (a := 5) c5 (by decide)
  have h13 := lv_neT (a := 6) c6 (by decide)
  refine lv_tableOut (tgt := 99) hx hb dX7_needs_26 (by omega) (by decide) ?_
  refine lv_iload_n hx hb dX7_needs_99 rfl (lv_at hl 1 rfl) ?_
  exact g_iret C hr hlk rfl (by rw [m_needs, if_neg c1, if_neg c2, if_neg c3, if_neg c4, if_neg c5, if_neg c6]) rfl rfl dX7_needs_100

def m_hushes (σ : gM) (g : Nat) : Int32 := if (m_its σ g 0) = 1 then 1 else (if (m_its σ g 0) = 2 then 0 else (if (m_its σ g 0) = 3 then 1 else (if (m_its σ g 0) = 4 then 0 else (if (m_its σ g 0) = 5 then (if (m_its σ g 4) < 100 then 0 else 1) else (if (m_its σ g 0) = 6 then 2 else 0)))))
def rm_yX7_hushes : Room := { frames := 1, cells := 0, slots := 0, locals := 22 }
set_option maxHeartbeats 4000000 in
set_option maxRecDepth 100000 in
theorem c_yX7_hushes (l : Launch) (G : gG) (ad : Nat → Nat) (hI : gI G.2.2.1 11 ad) (σ : gM) (g : Nat) (hg : g < 8) : gRead l yX7_hushes cX7_hushes 2 (some .int) rm_yX7_hushes G [.ref (ad 0), .int (nI g)] 11 ad (gE (shM G ad) σ) (m_hushes σ g) := by
  refine g_start [.ref (ad 0), .int (nI g)] (by decide +kernel) (Nat.le_of_ble_eq_true rfl) ?_
  intro p e s m below meth c ls B Z hl
  obtain ⟨C, hr, hlk⟩ := B
  have hx := C.1
  have hb := C.2.1
  obtain ⟨hX, hP⟩ := Z
  have hS : va_S (gA 11 ad) s.heap s.heap [] := va_S.rf
  have hl : lv_has ls 2 [(0, .ref (ad 0)), (1, .int (nI g))] := hl
  refine lv_aload_n hx hb dX7_hushes_0 rfl (lv_at hl 0 rfl) ?_
  refine lv_iload_n hx hb dX7_hushes_1 rfl (lv_at hl 1 rfl) ?_
  refine lv_iconst (v := 0) hx hb dX7_hushes_2 (by decide) ?_
  refine g_rd (g_runV (As := [.int (nI g), .int 0]) (rest := []) ky_yX7_its lk_RX7_58 C hX (gS_b0 hI hS) hP 0 (c_yX7_its l G ad hI σ g 0 (by omega) (by decide)) (by decide) (shM_0 G ad _) ⟨rfl, rfl, by decide, by decide⟩ rfl hl.1 rfl (Nat.le_of_ble_eq_true rfl) ⟨Nat.zero_le _, Nat.zero_le _⟩ dX7_hushes_3) ?_
  by_cases c1 : (m_its σ g 0) = 1
  · refine lv_as (y := 1) c1 ?_
    refine lv_tableIn (tgt := 44) (off := 38) hx hb dX7_hushes_6 (by decide) (by decide) (by decide) (by decide) ?_
    refine lv_iconst (v := 1) hx hb dX7_hushes_44 (by decide) ?_
    exact g_iret C hr hlk rfl (by rw [m_hushes, if_pos c1]) rfl rfl dX7_hushes_45
  by_cases c2 : (m_its σ g 0) = 2
  · refine lv_as (y := 2) c2 ?_
    refine lv_tableIn (tgt := 65) (off := 59) hx hb dX7_hushes_6 (by decide) (by decide) (by decide) (by decide) ?_
    refine lv_iconst (v := 0) hx hb dX7_hushes_65 (by decide) ?_
    exact g_iret C hr hlk rfl (by rw [m_hushes, if_neg c1, if_pos c2]) rfl rfl dX7_hushes_66
  by_cases c3 : (m_its σ g 0) = 3
  · refine lv_as (y := 3) c3 ?_
    refine lv_tableIn (tgt := 44) (off := 38) hx hb dX7_hushes_6 (by decide) (by decide) (by decide) (by decide) ?_
    refine lv_iconst (v := 1) hx hb dX7_hushes_44 (by decide) ?_
    exact g_iret C hr hlk rfl (by rw [m_hushes, if_neg c1, if_neg c2, if_pos c3]) rfl rfl dX7_hushes_45
  by_cases c4 : (m_its σ g 0) = 4
  · refine lv_as (y := 4) c4 ?_
    refine lv_tableIn (tgt := 65) (off := 59) hx hb dX7_hushes_6 (by decide) (by decide) (by decide) (by decide) ?_
    refine lv_iconst (v := 0) hx hb dX7_hushes_65 (by decide) ?_
    exact g_iret C hr hlk rfl (by rw [m_hushes, if_neg c1, if_neg c2, if_neg c3, if_pos c4]) rfl rfl dX7_hushes_66
  by_cases c5 : (m_its σ g 0) = 5
  · refine lv_as (y := 5) c5 ?_
    refine lv_tableIn (tgt := 48) (off := 42) hx hb dX7_hushes_6 (by decide) (by decide) (by decide) (by decide) ?_
    refine lv_aload_n hx hb dX7_hushes_48 rfl (lv_at hl 0 rfl) ?_
    refine lv_iload_n hx hb dX7_hushes_49 rfl (lv_at hl 1 rfl) ?_
    refine lv_iconst (v := 4) hx hb dX7_hushes_50 (by decide) ?_
    refine g_rd (g_runV (As := [.int (nI g), .int 4]) (rest := []) ky_yX7_its lk_RX7_58 C hX (gS_b0 hI hS) hP 0 (c_yX7_its l G ad hI σ g 4 (by omega) (by decide)) (by decide) (shM_0 G ad _) ⟨rfl, rfl, by decide, by decide⟩ rfl hl.1 rfl (Nat.le_of_ble_eq_true rfl) ⟨Nat.zero_le _, Nat.zero_le _⟩ dX7_hushes_51) ?_
    refine lv_bipush (v := 100) hx hb dX7_hushes_54 (by decide) ?_
    refine lv_icmp_lt (tgt := 63) hx hb dX7_hushes_56 (by decide) (fun c6 => ?_) (fun c6 => ?_)
    · refine lv_iconst (v := 0) hx hb dX7_hushes_63 (by decide) ?_
      exact g_iret C hr hlk rfl (by rw [m_hushes, if_neg c1, if_neg c2, if_neg c3, if_neg c4, if_pos c5, if_pos c6]) rfl rfl dX7_hushes_64
    · refine lv_iconst (v := 1) hx hb dX7_hushes_59 (by decide) ?_
      refine lv_goto (tgt := 64) hx hb dX7_hushes_60 (by decide) ?_
      exact g_iret C hr hlk rfl (by rw [m_hushes, if_neg c1, if_neg c2, if_neg c3, if_neg c4, if_pos c5, if_neg c6]) rfl rfl dX7_hushes_64
  by_cases c7 : (m_its σ g 0) = 6
  · refine lv_as (y := 6) c7 ?_
    refine lv_tableIn (tgt := 46) (off := 40) hx hb dX7_hushes_6 (by decide) (by decide) (by decide) (by decide) ?_
    refine lv_iconst (v := 2) hx hb dX7_hushes_46 (by decide) ?_
    exact g_iret C hr hlk rfl (by rw [m_hushes, if_neg c1, if_neg c2, if_neg c3, if_neg c4, if_neg c5, if_pos c7]) rfl rfl dX7_hushes_47
  have h8 := lv_neT (a := 1) c1 (by decide)
  have h9 := lv_neT (a := 2) c2 (by decide)
  have h10 := lv_neT (a := 3) c3 (by decide)
  have h11 := lv_neT (a := 4) c4 (by decide)
  have h12 := lv_neT (a := 5) c5 (by decide)
  have h13 := lv_neT (a := 6) c7 (by decide)
  refine lv_tableOut (tgt := 65) hx hb dX7_hushes_6 (by omega) (by decide) ?_
  refine lv_iconst (v := 0) hx hb dX7_hushes_65 (by decide) ?_
  exact g_iret C hr hlk rfl (by rw [m_hushes, if_neg c1, if_neg c2, if_neg c3, if_neg c4, if_neg c5, if_neg c7]) rfl rfl dX7_hushes_66

def m_stays (σ : gM) (g : Nat) : Int32 := if (m_its σ g 0) = 1 then 5 else (if (m_its σ g 0) = 2 then 14 else (if (m_its σ g 0) = 3 then 14 else (if (m_its σ g 0) = 4 then 0 else (if (m_its σ g 0) = 5 then 0 else (if (m_its σ g 0) = 6 then 5 else 7)))))
def rm_yX7_stays : Room := { frames := 1, cells := 0, slots := 0, locals := 22 }
set_option maxHeartbeats 4000000 in
set_option maxRecDepth 100000 in
theorem c_yX7_stays (l : Launch) (G : gG) (ad : Nat → Nat) (hI : gI G.2.2.1 11 ad) (σ : gM) (g : Nat) (hg : g < 8) : gRead l yX7_stays cX7_stays 2 (some .int) rm_yX7_stays G [.ref (ad 0), .int (nI g)] 11 ad (gE (shM G ad) σ) (m_stays σ g) := by
  refine g_start [.ref (ad 0), .int (nI g)] (by decide +kernel) (Nat.le_of_ble_eq_true rfl) ?_
  intro p e s m below meth c ls B Z hl
  obtain ⟨C, hr, hlk⟩ := B
  have hx := C.1
  have hb := C.2.1
  obtain ⟨hX, hP⟩ := Z
  have hS : va_S (gA 11 ad) s.heap s.heap [] := va_S.rf
  have hl : lv_has ls 2 [(0, .ref (ad 0)), (1, .int (nI g))] := hl
  refine lv_aload_n hx hb dX7_stays_0 rfl (lv_at hl 0 rfl) ?_
  refine lv_iload_n hx hb dX7_stays_1 rfl (lv_at hl 1 rfl) ?_
  refine lv_iconst (v := 0) hx hb dX7_stays_2 (by decide) ?_
  refine g_rd (g_runV (As := [.int (nI g), .int 0]) (rest := []) ky_yX7_its lk_RX7_58 C hX (gS_b0 hI hS) hP 0 (c_yX7_its l G ad hI σ g 0 (by omega) (by decide)) (by decide) (shM_0 G ad _) ⟨rfl, rfl, by decide, by decide⟩ rfl hl.1 rfl (Nat.le_of_ble_eq_true rfl) ⟨Nat.zero_le _, Nat.zero_le _⟩ dX7_stays_3) ?_
  by_cases c1 : (m_its σ g 0) = 1
  · refine lv_as (y := 1) c1 ?_
    refine lv_tableIn (tgt := 44) (off := 38) hx hb dX7_stays_6 (by decide) (by decide) (by decide) (by decide) ?_
    refine lv_iconst (v := 5) hx hb dX7_stays_44 (by decide) ?_
    exact g_iret C hr hlk rfl (by rw [m_stays, if_pos c1]) rfl rfl dX7_stays_45
  by_cases c2 : (m_its σ g 0) = 2
  · refine lv_as (y := 2) c2 ?_
    refine lv_tableIn (tgt := 46) (off := 40) hx hb dX7_stays_6 (by decide) (by decide) (by decide) (by decide) ?_
    refine lv_bipush (v := 14) hx hb dX7_stays_46 (by decide) ?_
    exact g_iret C hr hlk rfl (by rw [m_stays, if_neg c1, if_pos c2]) rfl rfl dX7_stays_48
  by_cases c3 : (m_its σ g 0) = 3
  · refine lv_as (y := 3) c3 ?_
    refine lv_tableIn (tgt := 46) (off := 40) hx hb dX7_stays_6 (by decide) (by decide) (by decide) (by decide) ?_
    refine lv_bipush (v := 14) hx hb dX7_stays_46 (by decide) ?_
    exact g_iret C hr hlk rfl (by rw [m_stays, if_neg c1, if_neg c2, if_pos c3]) rfl rfl dX7_stays_48
  by_cases c4 : (m_its σ g 0) = 4
  · refine lv_as (y := 4) c4 ?_
    refine lv_tableIn (tgt := 49) (off := 43) hx hb dX7_stays_6 (by decide) (by decide) (by decide) (by decide) ?_
    refine lv_iconst (v := 0) hx hb dX7_stays_49 (by decide) ?_
    exact g_iret C hr hlk rfl (by rw [m_stays, if_neg c1, if_neg c2, if_neg c3, if_pos c4]) rfl rfl dX7_stays_50
  by_cases c5 : (m_its σ g 0) = 5
  · refine lv_as (y := 5) c5 ?_
    refine lv_tableIn (tgt := 49) (off := 43) hx hb dX7_stays_6 (by decide) (by decide) (by decide) (by decide) ?_
    refine lv_iconst (v := 0) hx hb dX7_stays_49 (by decide) ?_
    exact g_iret C hr hlk rfl (by rw [m_stays, if_neg c1, if_neg c2, if_neg c3, if_neg c4, if_pos c5]) rfl rfl dX7_stays_50
  by_cases c6 : (m_its σ g 0) = 6
  · refine lv_as (y := 6) c6 ?_
    refine lv_tableIn (tgt := 44) (off := 38) hx hb dX7_stays_6 (by decide) (by decide) (by decide) (by decide) ?_
    refine lv_iconst (v := 5) hx hb dX7_stays_44 (by decide) ?_
    exact g_iret C hr hlk rfl (by rw [m_stays, if_neg c1, if_neg c2, if_neg c3, if_neg c4, if_neg c5, if_pos c6]) rfl rfl dX7_stays_45
  have h7 := lv_neT (a := 1) c1 (by decide)
  have h8 := lv_neT (a := 2) c2 (by decide)
  have h9 := lv_neT (a := 3) c3 (by decide)
  have h10 := lv_neT (a := 4) c4 (by decide)
  have h11 := lv_neT (a := 5) c5 (by decide)
  have h12 := lv_neT (a := 6) c6 (by decide)
  refine lv_tableOut (tgt := 51) hx hb dX7_stays_6 (by omega) (by decide) ?_
  refine lv_bipush (v := 7) hx hb dX7_stays_51 (by decide) ?_
  exact g_iret C hr hlk rfl (by rw [m_stays, if_neg c1, if_neg c2, if_neg c3, if_neg c4, if_neg c5, if_neg c6]) rfl rfl dX7_stays_53

def m_keeps (σ : gM) (g : Nat) : Int32 := if (m_its σ g 0) = 1 then 8 else (if (m_its σ g 0) = 2 then 3 else (if (m_its σ g 0) = 3 then 3 else (if (m_its σ g 0) = 4 then 3 else (if (m_its σ g 0) = 5 then 16 else (if (m_its σ g 0) = 6 then 10 else 6)))))
def rm_yX7_keeps : Room := { frames := 1, cells := 0, slots := 0, locals := 22 }
set_option maxHeartbeats 4000000 in
set_option maxRecDepth 100000 in
theorem c_yX7_keeps (l : Launch) (G : gG) (ad : Nat → Nat) (hI : gI G.2.2.1 11 ad) (σ : gM) (g : Nat) (hg : g < 8) : gRead l yX7_keeps cX7_keeps 2 (some .int) rm_yX7_keeps G [.ref (ad 0), .int (nI g)] 11 ad (gE (shM G ad) σ) (m_keeps σ g) := by
  refine g_start [.ref (ad 0), .int (nI g)] (by decide +kernel) (Nat.le_of_ble_eq_true rfl) ?_
  intro p e s m below meth c ls B Z hl
  obtain ⟨C, hr, hlk⟩ := B
  have hx := C.1
  have hb := C.2.1
  obtain ⟨hX, hP⟩ := Z
  have hS : va_S (gA 11 ad) s.heap s.heap [] := va_S.rf
  have hl : lv_has ls 2 [(0, .ref (ad 0)), (1, .int (nI g))] := hl
  refine lv_aload_n hx hb dX7_keeps_0 rfl (lv_at hl 0 rfl) ?_
  refine lv_iload_n hx hb dX7_keeps_1 rfl (lv_at hl 1 rfl) ?_
  refine lv_iconst (v := 0) hx hb dX7_keeps_2 (by decide) ?_
  refine g_rd (g_runV (As := [.int (nI g), .int 0]) (rest := []) ky_yX7_its lk_RX7_58 C hX (gS_b0 hI hS) hP 0 (c_yX7_its l G ad hI σ g 0 (by omega) (by decide)) (by decide) (shM_0 G ad _) ⟨rfl, rfl, by decide, by decide⟩ rfl hl.1 rfl (Nat.le_of_ble_eq_true rfl) ⟨Nat.zero_le _, Nat.zero_le _⟩ dX7_keeps_3) ?_
  by_cases c1 : (m_its σ g 0) = 1
  · refine lv_as (y := 1) c1 ?_
    refine lv_tableIn (tgt := 44) (off := 38) hx hb dX7_keeps_6 (by decide) (by decide) (by decide) (by decide) ?_
    refine lv_bipush (v := 8) hx hb dX7_keeps_44 (by decide) ?_
    exact g_iret C hr hlk rfl (by rw [m_keeps, if_pos c1]) rfl rfl dX7_keeps_46
  by_cases c2 : (m_its σ g 0) = 2
  · refine lv_as (y := 2) c2 ?_
    refine lv_tableIn (tgt := 50) (off := 44) hx hb dX7_keeps_6 (by decide) (by decide) (by decide) (by decide) ?_
    refine lv_iconst (v := 3) hx hb dX7_keeps_50 (by decide) ?_
    exact g_iret C hr hlk rfl (by rw [m_keeps, if_neg c1, if_pos c2]) rfl rfl dX7_keeps_51
  by_cases c3 : (m_its σ g 0) = 3
  · refine lv_as (y := 3) c3 ?_
    refine lv_tableIn (tgt := 50) (off := 44) hx hb dX7_keeps_6 (by decide) (by decide) (by decide) (by decide) ?_
    refine lv_iconst (v := 3) hx hb dX7_keeps_50 (by decide) ?_
    exact g_iret C hr hlk rfl (by rw [m_keeps, if_neg c1, if_neg c2, if_pos c3]) rfl rfl dX7_keeps_51
  by_cases c4 : (m_its σ g 0) = 4
  · refine lv_as (y := 4) c4 ?_
    refine lv_tableIn (tgt := 50) (off := 44) hx hb dX7_keeps_6 (by decide) (by decide) (by decide) (by decide) ?_
    refine lv_iconst (v := 3) hx hb dX7_keeps_50 (by decide) ?_
    exact g_iret C hr hlk rfl (by rw [m_keeps, if_neg c1, if_neg c2, if_neg c3, if_pos c4]) rfl rfl dX7_keeps_51
  by_cases c5 : (m_its σ g 0) = 5
  · refine lv_as (y := 5) c5 ?_
    refine lv_tableIn (tgt := 52) (off := 46) hx hb dX7_keeps_6 (by decide) (by decide) (by decide) (by decide) ?_
    refine lv_bipush (v := 16) hx hb dX7_keeps_52 (by decide) ?_
    exact g_iret C hr hlk rfl (by rw [m_keeps, if_neg c1, if_neg c2, if_neg c3, if_neg c4, if_pos c5]) rfl rfl dX7_keeps_54
  by_cases c6 : (m_its σ g 0) = 6
  · refine lv_as (y := 6) c6 ?_
    refine lv_tableIn (tgt := 47) (off := 41) hx hb dX7_keeps_6 (by decide) (by decide) (by decide) (by decide) ?_
    refine lv_bipush (v := 10) hx hb dX7_keeps_47 (by decide) ?_
    exact g_iret C hr hlk rfl (by rw [m_keeps, if_neg c1, if_neg c2, if_neg c3, if_neg c4, if_neg c5, if_pos c6]) rfl rfl dX7_keeps_49
  have h7 := lv_neT (a := 1) c1 (by decide)
  have h8 := lv_neT (a := 2) c2 (by decide)
  have h9 := lv_neT (a := 3) c3 (by decide)
  have h10 := lv_neT (a := 4) c4 (by decide)
  have h11 := lv_neT (a := 5) c5 (by decide)
  have h12 := lv_neT (a := 6) c6 (by decide)
  refine lv_tableOut (tgt := 55) hx hb dX7_keeps_6 (by omega) (by decide) ?_
  refine lv_bipush (v := 6) hx hb dX7_keeps_55 (by decide) ?_
  exact g_iret C hr hlk rfl (by rw [m_keeps, if_neg c1, if_neg c2, if_neg c3, if_neg c4, if_neg c5, if_neg c6]) rfl rfl dX7_keeps_57

def m_hushIn_L4 (σ : gM) (room : Int32) : Nat → Nat → Int32 → Int32
  | 0, i, acc => acc
  | n4 + 1, i, acc => if (m_isIn σ i room) = 0 then (m_hushIn_L4 σ room n4 (i + 1) (acc + 0)) else (m_hushIn_L4 σ room n4 (i + 1) (acc + (m_hushes σ i)))
def m_hushIn (σ : gM) (room : Int32) : Int32 := (m_hushIn_L4 σ room (nN (σ 1 0)) 0 0)
def rm_yX7_hushIn : Room := { frames := 2, cells := 0, slots := 0, locals := 44 }
set_option maxHeartbeats 4000000 in
set_option maxRecDepth 100000 in
theorem c_yX7_hushIn (l : Launch) (G : gG) (ad : Nat → Nat) (hI : gI G.2.2.1 11 ad) (σ : gM) (room : Int32) (N : Nat) (hN : N ≤ 8) (hs : σ 1 0 = nI N) : gRead l yX7_hushIn cX7_hushIn 4 (some .int) rm_yX7_hushIn G [.ref (ad 0), .int room] 11 ad (gE (shM G ad) σ) (m_hushIn σ room) := by
  refine g_start [.ref (ad 0), .int room] (by decide +kernel) (Nat.le_of_ble_eq_true rfl) ?_
  intro p e s m below meth c ls B Z hl
  obtain ⟨C, hr, hlk⟩ := B
  have hx := C.1
  have hb := C.2.1
  obtain ⟨hX, hP⟩ := Z
  have hS : va_S (gA 11 ad) s.heap s.heap [] := va_S.rf
  have hl : lv_has ls 4 [(0, .ref (ad 0)), (1, .int room)] := hl
  refine lv_iconst (v := 0) hx hb dX7_hushIn_0 (by decide) ?_
  refine lv_istore_n (lv' := [(2, .int 0), (0, .ref (ad 0)), (1, .int room)]) hx hb dX7_hushIn_1 rfl hl (by decide) rfl (fun ls hl => ?_)
  refine lv_iconst (v := 0) hx hb dX7_hushIn_2 (by decide) ?_
  refine lv_istore_n (lv' := [(3, .int 0), (2, .int 0), (0, .ref (ad 0)), (1, .int room)]) hx hb dX7_hushIn_3 rfl hl (by decide) rfl (fun ls hl => ?_)
  suffices loop4 : ∀ (n4 : Nat) (i : Nat) (acc : Int32) (ls : Array Slot), (i + n4 = N) → m_hushIn σ room = (m_hushIn_L4 σ room n4 i acc) → lv_has ls 4 [(3, .int (nI i)), (2, .int acc), (0, .ref (ad 0)), (1, .int room)] → W p l e rm_yX7_hushIn s m ([.ref (ad 0), .int room] : List Value).toArray below meth c s.heap [] 0 0 (MQ below (vp_Si (fun x => x = m_hushIn σ room)) ([.ref (ad 0), .int room] : List Value).toArray s 0 0 (fun _ => False)) (F0 m 4 ls []) by
    exact loop4 N 0 0 _ (by omega) (by rw [m_hushIn, hs, nN_nI (by omega)]) (lv_sub hl [0, 1, 2, 3] rfl)
  intro n4
  induction n4 with
  | zero =>
    intro i acc ls hi4 hres4 hl
    refine lv_iload_n hx hb dX7_hushIn_4 rfl (lv_at hl 0 rfl) ?_
    refine lv_aload_n hx hb dX7_hushIn_5 rfl (lv_at hl 2 rfl) ?_
    refine g_get fd_RX7_7 C hX hP 0 (by decide) (shM_0 G ad _) (v := .ref (ad 1)) rfl dX7_hushIn_6 ?_
    refine lv_iconst (v := 0) hx hb dX7_hushIn_9 (by decide) ?_
    refine lv_as (y := nI 0) rfl ?_
    refine g_iald C hX hP 1 (by decide) (shM_1 G ad _) 0 (by omega) (by decide) dX7_hushIn_10 ?_
    refine lv_as (y := (nI N)) hs ?_
    refine lv_icmp_ge (tgt := 41) hx hb dX7_hushIn_11 (by decide) (fun c1 => ?_) (fun c1 => ?_)
    · refine lv_iload_n hx hb dX7_hushIn_41 rfl (lv_at hl 1 rfl) ?_
      exact g_iret C hr hlk rfl (by rw [hres4, m_hushIn_L4]) rfl rfl dX7_hushIn_42
    · exact absurd (show nI (N) ≤ nI i from nI_le (by omega) (by omega)) c1
  | succ n4 ih4 =>
    intro i acc ls hi4 hres4 hl
    refine lv_iload_n hx hb dX7_hushIn_4 rfl (lv_at hl 0 rfl) ?_
    refine lv_aload_n hx hb dX7_hushIn_5 rfl (lv_at hl 2 rfl) ?_
    refine g_get fd_RX7_7 C hX hP 0 (by decide) (shM_0 G ad _) (v := .ref (ad 1)) rfl dX7_hushIn_6 ?_
    refine lv_iconst (v := 0) hx hb dX7_hushIn_9 (by decide) ?_
    refine lv_as (y := nI 0) rfl ?_
    refine g_iald C hX hP 1 (by decide) (shM_1 G ad _) 0 (by omega) (by decide) dX7_hushIn_10 ?_
    refine lv_as (y := (nI N)) hs ?_
    refine lv_icmp_ge (tgt := 41) hx hb dX7_hushIn_11 (by decide) (fun c2 => ?_) (fun c2 => ?_)
    · exact absurd (show nI (N) ≤ nI i from c2) (nI_ge (by omega) (by omega))
    · refine lv_iload_n hx hb dX7_hushIn_14 rfl (lv_at hl 1 rfl) ?_
      refine lv_aload_n hx hb dX7_hushIn_15 rfl (lv_at hl 2 rfl) ?_
      refine lv_iload_n hx hb dX7_hushIn_16 rfl (lv_at hl 0 rfl) ?_
      refine lv_iload_n hx hb dX7_hushIn_17 rfl (lv_at hl 3 rfl) ?_
      refine g_rd (g_runV (As := [.int (nI i), .int room]) (rest := [.int acc]) ky_yX7_isIn lk_RX7_62 C hX (gS_b0 hI hS) hP 0 (c_yX7_isIn l G ad hI σ i room (by omega)) (by decide) (shM_0 G ad _) ⟨rfl, rfl, by decide, by decide⟩ rfl hl.1 rfl (Nat.le_of_ble_eq_true rfl) ⟨Nat.zero_le _, Nat.zero_le _⟩ dX7_hushIn_18) ?_
      refine lv_if_eq (tgt := 32) hx hb dX7_hushIn_21 (by decide) (fun c3 => ?_) (fun c3 => ?_)
      · refine lv_iconst (v := 0) hx hb dX7_hushIn_32 (by decide) ?_
        refine lv_iadd hx hb dX7_hushIn_33 ?_
        refine lv_istore_n (lv' := [(2, .int (acc + 0)), (3, .int (nI i)), (0, .ref (ad 0)), (1, .int room)]) hx hb dX7_hushIn_34 rfl hl (by decide) rfl (fun ls hl => ?_)
        refine lv_iinc (v := (nI (i + 1))) (lv' := [(3, .int (nI (i + 1))), (2, .int (acc + 0)), (0, .ref (ad 0)), (1, .int room)]) hx hb dX7_hushIn_35 hl (k := 1) rfl (by exact nI_1 _) (by decide) rfl (fun ls hl => ?_)
        refine lv_goto (tgt := 4) hx hb dX7_hushIn_38 (by decide) ?_
        exact ih4 (i + 1) (acc + 0) _ (by omega) (by rw [hres4, m_hushIn_L4, if_pos c3]) (lv_sub hl [0, 1, 2, 3] rfl)
      · refine lv_aload_n hx hb dX7_hushIn_24 rfl (lv_at hl 2 rfl) ?_
        refine lv_iload_n hx hb dX7_hushIn_25 rfl (lv_at hl 0 rfl) ?_
        refine g_rd (g_runV (As := [.int (nI i)]) (rest := [.int acc]) ky_yX7_hushes lk_RX7_74 C hX (gS_b0 hI hS) hP 0 (c_yX7_hushes l G ad hI σ i (by omega)) (by decide) (shM_0 G ad _) ⟨rfl, rfl, by decide, by decide⟩ rfl hl.1 rfl (Nat.le_of_ble_eq_true rfl) ⟨Nat.zero_le _, Nat.zero_le _⟩ dX7_hushIn_26) ?_
        refine lv_goto (tgt := 33) hx hb dX7_hushIn_29 (by decide) ?_
        refine lv_iadd hx hb dX7_hushIn_33 ?_
        refine lv_istore_n (lv' := [(2, .int (acc + (m_hushes σ i))), (3, .int (nI i)), (0, .ref (ad 0)), (1, .int room)]) hx hb dX7_hushIn_34 rfl hl (by decide) rfl (fun ls hl => ?_)
        refine lv_iinc (v := (nI (i + 1))) (lv' := [(3, .int (nI (i + 1))), (2, .int (acc + (m_hushes σ i))), (0, .ref (ad 0)), (1, .int room)]) hx hb dX7_hushIn_35 hl (k := 1) rfl (by exact nI_1 _) (by decide) rfl (fun ls hl => ?_)
        refine lv_goto (tgt := 4) hx hb dX7_hushIn_38 (by decide) ?_
        exact ih4 (i + 1) (acc + (m_hushes σ i)) _ (by omega) (by rw [hres4, m_hushIn_L4, if_neg c3]) (lv_sub hl [0, 1, 2, 3] rfl)

def m_hearers_L29 (σ : gM) (saying : Int32) : Nat → Nat → Int32 → Int32
  | 0, i, acc => acc
  | n29 + 1, i, acc => if (m_isIn σ i (saying / 1000)) = 0 then (m_hearers_L29 σ saying n29 (i + 1) (acc ||| 0)) else (if (m_held ((jrem saying 10) - (m_hushIn σ (saying / 1000))) 0 9) < (m_needs σ i) then (m_hearers_L29 σ saying n29 (i + 1) (acc ||| 0)) else (m_hearers_L29 σ saying n29 (i + 1) (acc ||| (jshl 1 (nI i)))))
def m_hearers (σ : gM) (saying : Int32) : Int32 := (m_hearers_L29 σ saying (nN (σ 1 0)) 0 0)
def rm_yX7_hearers : Room := { frames := 4, cells := 0, slots := 0, locals := 89 }
set_option maxHeartbeats 4000000 in
set_option maxRecDepth 100000 in
theorem c_yX7_hearers (l : Launch) (G : gG) (ad : Nat → Nat) (hI : gI G.2.2.1 11 ad) (σ : gM) (saying : Int32) (N : Nat) (hN : N ≤ 8) (hs : σ 1 0 = nI N) : gRead l yX7_hearers cX7_hearers 6 (some .int) rm_yX7_hearers G [.ref (ad 0), .int saying] 11 ad (gE (shM G ad) σ) (m_hearers σ saying) := by
  refine g_start [.ref (ad 0), .int saying] (by decide +kernel) (Nat.le_of_ble_eq_true rfl) ?_
  intro p e s m below meth c ls B Z hl
  obtain ⟨C, hr, hlk⟩ := B
  have hx := C.1
  have hb := C.2.1
  obtain ⟨hX, hP⟩ := Z
  have hS : va_S (gA 11 ad) s.heap s.heap [] := va_S.rf
  have hl : lv_has ls 6 [(0, .ref (ad 0)), (1, .int saying)] := hl
  refine lv_iload_n hx hb dX7_hearers_0 rfl (lv_at hl 1 rfl) ?_
  refine lv_sipush (v := 1000) hx hb dX7_hearers_1 (by decide) ?_
  refine lv_idiv hx hb dX7_hearers_4 (by decide) ?_
  refine lv_istore_n (lv' := [(2, .int (saying / 1000)), (0, .ref (ad 0)), (1, .int saying)]) hx hb dX7_hearers_5 rfl hl (by decide) rfl (fun ls hl => ?_)
  refine lv_iload_n hx hb dX7_hearers_6 rfl (lv_at hl 2 rfl) ?_
  refine lv_bipush (v := 10) hx hb dX7_hearers_7 (by decide) ?_
  refine g_irem hx hb dX7_hearers_9 (by decide) ?_
  refine lv_aload_n hx hb dX7_hearers_10 rfl (lv_at hl 1 rfl) ?_
  refine lv_iload_n hx hb dX7_hearers_11 rfl (lv_at hl 0 rfl) ?_
  refine g_rd (g_runV (As := [.int (saying / 1000)]) (rest := [.int (jrem saying 10)]) ky_yX7_hushIn lk_RX7_78 C hX (gS_b0 hI hS) hP 0 (c_yX7_hushIn l G ad hI σ (saying / 1000) N hN hs) (by decide) (shM_0 G ad _) ⟨rfl, rfl, by decide, by decide⟩ rfl hl.1 rfl (Nat.le_of_ble_eq_true rfl) ⟨Nat.zero_le _, Nat.zero_le _⟩ dX7_hearers_12) ?_
  refine lv_isub hx hb dX7_hearers_15 ?_
  refine lv_iconst (v := 0) hx hb dX7_hearers_16 (by decide) ?_
  refine lv_bipush (v := 9) hx hb dX7_hearers_17 (by decide) ?_
  refine g_rd (g_runS (As := [.int ((jrem saying 10) - (m_hushIn σ (saying / 1000))), .int 0, .int 9]) (rest := []) ky_yX7_held lk_RX7_66 C (c_yX7_held l ((jrem saying 10) - (m_hushIn σ (saying / 1000))) 0 9) ⟨rfl, rfl, by decide, by decide⟩ rfl hl.1 rfl (Nat.le_of_ble_eq_true rfl) ⟨Nat.zero_le _, Nat.zero_le _⟩ dX7_hearers_19) ?_
  refine lv_istore_n (lv' := [(3, .int (m_held ((jrem saying 10) - (m_hushIn σ (saying / 1000))) 0 9)), (2, .int (saying / 1000)), (0, .ref (ad 0)), (1, .int saying)]) hx hb dX7_hearers_22 rfl hl (by decide) rfl (fun ls hl => ?_)
  refine lv_iconst (v := 0) hx hb dX7_hearers_23 (by decide) ?_
  refine lv_istore (lv' := [(4, .int 0), (3, .int (m_held ((jrem saying 10) - (m_hushIn σ (saying / 1000))) 0 9)), (2, .int (saying / 1000)), (0, .ref (ad 0)), (1, .int saying)]) hx hb dX7_hearers_24 hl (by decide) rfl (fun ls hl => ?_)
  refine lv_iconst (v := 0) hx hb dX7_hearers_26 (by decide) ?_
  refine lv_istore (lv' := [(5, .int 0), (4, .int 0), (3, .int (m_held ((jrem saying 10) - (m_hushIn σ (saying / 1000))) 0 9)), (2, .int (saying / 1000)), (0, .ref (ad 0)), (1, .int saying)]) hx hb dX7_hearers_27 hl (by decide) rfl (fun ls hl => ?_)
  suffices loop29 : ∀ (n29 : Nat) (i : Nat) (acc : Int32) (ls : Array Slot), (i + n29 = N) → m_hearers σ saying = (m_hearers_L29 σ saying n29 i acc) → lv_has ls 6 [(5, .int (nI i)), (4, .int acc), (3, .int (m_held ((jrem saying 10) - (m_hushIn σ (saying / 1000))) 0 9)), (2, .int (saying / 1000)), (0, .ref (ad 0)), (1, .int saying)] → W p l e rm_yX7_hearers s m ([.ref (ad 0), .int saying] : List Value).toArray below meth c s.heap [] 0 0 (MQ below (vp_Si (fun x => x = m_hearers σ saying)) ([.ref (ad 0), .int saying] : List Value).toArray s 0 0 (fun _ => False)) (F0 m 29 ls []) by
    exact loop29 N 0 0 _ (by omega) (by rw [m_hearers, hs, nN_nI (by omega)]) (lv_sub hl [0, 1, 2, 3, 4, 5] rfl)
  intro n29
  induction n29 with
  | zero =>
    intro i acc ls hi29 hres29 hl
    refine lv_iload hx hb dX7_hearers_29 (lv_at hl 0 rfl) ?_
    refine lv_aload_n hx hb dX7_hearers_31 rfl (lv_at hl 4 rfl) ?_
    refine g_get fd_RX7_7 C hX hP 0 (by decide) (shM_0 G ad _) (v := .ref (ad 1)) rfl dX7_hearers_32 ?_
    refine lv_iconst (v := 0) hx hb dX7_hearers_35 (by decide) ?_
    refine lv_as (y := nI 0) rfl ?_
    refine g_iald C hX hP 1 (by decide) (shM_1 G ad _) 0 (by omega) (by decide) dX7_hearers_36 ?_
    refine lv_as (y := (nI N)) hs ?_
    refine lv_icmp_ge (tgt := 79) hx hb dX7_hearers_37 (by decide) (fun c1 => ?_) (fun c1 => ?_)
    · refine lv_iload hx hb dX7_hearers_79 (lv_at hl 1 rfl) ?_
      exact g_iret C hr hlk rfl (by rw [hres29, m_hearers_L29]) rfl rfl dX7_hearers_81
    · exact absurd (show nI (N) ≤ nI i from nI_le (by omega) (by omega)) c1
  | succ n29 ih29 =>
    intro i acc ls hi29 hres29 hl
    refine lv_iload hx hb dX7_hearers_29 (lv_at hl 0 rfl) ?_
    refine lv_aload_n hx hb dX7_hearers_31 rfl (lv_at hl 4 rfl) ?_
    refine g_get fd_RX7_7 C hX hP 0 (by decide) (shM_0 G ad _) (v := .ref (ad 1)) rfl dX7_hearers_32 ?_
    refine lv_iconst (v := 0) hx hb dX7_hearers_35 (by decide) ?_
    refine lv_as (y := nI 0) rfl ?_
    refine g_iald C hX hP 1 (by decide) (shM_1 G ad _) 0 (by omega) (by decide) dX7_hearers_36 ?_
    refine lv_as (y := (nI N)) hs ?_
    refine lv_icmp_ge (tgt := 79) hx hb dX7_hearers_37 (by decide) (fun c2 => ?_) (fun c2 => ?_)
    · exact absurd (show nI (N) ≤ nI i from c2) (nI_ge (by omega) (by omega))
    · refine lv_iload hx hb dX7_hearers_40 (lv_at hl 1 rfl) ?_
      refine lv_aload_n hx hb dX7_hearers_42 rfl (lv_at hl 4 rfl) ?_
      refine lv_iload hx hb dX7_hearers_43 (lv_at hl 0 rfl) ?_
      refine lv_iload_n hx hb dX7_hearers_45 rfl (lv_at hl 3 rfl) ?_
      refine g_rd (g_runV (As := [.int (nI i), .int (saying / 1000)]) (rest := [.int acc]) ky_yX7_isIn lk_RX7_62 C hX (gS_b0 hI hS) hP 0 (c_yX7_isIn l G ad hI σ i (saying / 1000) (by omega)) (by decide) (shM_0 G ad _) ⟨rfl, rfl, by decide, by decide⟩ rfl hl.1 rfl (Nat.le_of_ble_eq_true rfl) ⟨Nat.zero_le _, Nat.zero_le _⟩ dX7_hearers_46) ?_
      refine lv_if_eq (tgt := 69) hx hb dX7_hearers_49 (by decide) (fun c3 => ?_) (fun c3 => ?_)
      · refine lv_iconst (v := 0) hx hb dX7_hearers_69 (by decide) ?_
        refine lv_ior hx hb dX7_hearers_70 ?_
        refine lv_istore (lv' := [(4, .int (acc ||| 0)), (5, .int (nI i)), (3, .int (m_held ((jrem saying 10) - (m_hushIn σ (saying / 1000))) 0 9)), (2, .int (saying / 1000)), (0, .ref (ad 0)), (1, .int saying)]) hx hb dX7_hearers_71 hl (by decide) rfl (fun ls hl => ?_)
        refine lv_iinc (v := (nI (i + 1))) (lv' := [(5, .int (nI (i + 1))), (4, .int (acc ||| 0)), (3, .int (m_held ((jrem saying 10) - (m_hushIn σ (saying / 1000))) 0 9)), (2, .int (saying / 1000)), (0, .ref (ad 0)), (1, .int saying)]) hx hb dX7_hearers_73 hl (k := 1) rfl (by exact nI_1 _) (by decide) rfl (fun ls hl => ?_)
        refine lv_goto (tgt := 29) hx hb dX7_hearers_76 (by decide) ?_
        exact ih29 (i + 1) (acc ||| 0) _ (by omega) (by rw [hres29, m_hearers_L29, if_pos c3]) (lv_sub hl [0, 1, 2, 3, 4, 5] rfl)
      · refine lv_aload_n hx hb dX7_hearers_52 rfl (lv_at hl 4 rfl) ?_
        refine lv_iload hx hb dX7_hearers_53 (lv_at hl 0 rfl) ?_
        refine g_rd (g_runV (As := [.int (nI i)]) (rest := [.int acc]) ky_yX7_needs lk_RX7_81 C hX (gS_b0 hI hS) hP 0 (c_yX7_needs l G ad hI σ i N hN hs (by omega)) (by decide) (shM_0 G ad _) ⟨rfl, rfl, by decide, by decide⟩ rfl hl.1 rfl (Nat.le_of_ble_eq_true rfl) ⟨Nat.zero_le _, Nat.zero_le _⟩ dX7_hearers_55) ?_
        refine lv_iload_n hx hb dX7_hearers_58 rfl (lv_at hl 2 rfl) ?_
        refine lv_icmp_gt (tgt := 69) hx hb dX7_hearers_59 (by decide) (fun c4 => ?_) (fun c4 => ?_)
        · refine lv_iconst (v := 0) hx hb dX7_hearers_69 (by decide) ?_
          refine lv_ior hx hb dX7_hearers_70 ?_
          refine lv_istore (lv' := [(4, .int (acc ||| 0)), (5, .int (nI i)), (3, .int (m_held ((jrem saying 10) - (m_hushIn σ (saying / 1000))) 0 9)), (2, .int (saying / 1000)), (0, .ref (ad 0)), (1, .int saying)]) hx hb dX7_hearers_71 hl (by decide) rfl (fun ls hl => ?_)
          refine lv_iinc (v := (nI (i + 1))) (lv' := [(5, .int (nI (i + 1))), (4, .int (acc ||| 0)), (3, .int (m_held ((jrem saying 10) - (m_hushIn σ (saying / 1000))) 0 9)), (2, .int (saying / 1000)), (0, .ref (ad 0)), (1, .int saying)]) hx hb dX7_hearers_73 hl (k := 1) rfl (by exact nI_1 _) (by decide) rfl (fun ls hl => ?_)
          refine lv_goto (tgt := 29) hx hb dX7_hearers_76 (by decide) ?_
          exact ih29 (i + 1) (acc ||| 0) _ (by omega) (by rw [hres29, m_hearers_L29, if_neg c3, if_pos c4]) (lv_sub hl [0, 1, 2, 3, 4, 5] rfl)
        · refine lv_iconst (v := 1) hx hb dX7_hearers_62 (by decide) ?_
          refine lv_iload hx hb dX7_hearers_63 (lv_at hl 0 rfl) ?_
          refine g_ishl hx hb dX7_hearers_65 ?_
          refine lv_goto (tgt := 70) hx hb dX7_hearers_66 (by decide) ?_
          refine lv_ior hx hb dX7_hearers_70 ?_
          refine lv_istore (lv' := [(4, .int (acc ||| (jshl 1 (nI i)))), (5, .int (nI i)), (3, .int (m_held ((jrem saying 10) - (m_hushIn σ (saying / 1000))) 0 9)), (2, .int (saying / 1000)), (0, .ref (ad 0)), (1, .int saying)]) hx hb dX7_hearers_71 hl (by decide) rfl (fun ls hl => ?_)
          refine lv_iinc (v := (nI (i + 1))) (lv' := [(5, .int (nI (i + 1))), (4, .int (acc ||| (jshl 1 (nI i)))), (3, .int (m_held ((jrem saying 10) - (m_hushIn σ (saying / 1000))) 0 9)), (2, .int (saying / 1000)), (0, .ref (ad 0)), (1, .int saying)]) hx hb dX7_hearers_73 hl (k := 1) rfl (by exact nI_1 _) (by decide) rfl (fun ls hl => ?_)
          refine lv_goto (tgt := 29) hx hb dX7_hearers_76 (by decide) ?_
          exact ih29 (i + 1) (acc ||| (jshl 1 (nI i))) _ (by omega) (by rw [hres29, m_hearers_L29, if_neg c3, if_neg c4]) (lv_sub hl [0, 1, 2, 3, 4, 5] rfl)
