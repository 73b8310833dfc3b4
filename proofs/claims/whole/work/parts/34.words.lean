def x_nameWords5_L12 (σ : gM) (n2 : Nat) (k : Nat) (τ : gM) : Nat → Nat → gM → gM
  | 0, w, τ2 => (τ2)
  | n12 + 1, w, τ2 => if (τ2 1 k) = 13 then (if (x_spells3 (mget τ2 5) w (τ2 2 k) (τ2 3 k)) = 0 then (x_nameWords5_L12 σ n2 k τ n12 (w + 1) τ2) else (x_nameWords5_L12 σ n2 k τ n12 (w + 1) (mset τ2 1 k (nI w)))) else (τ2)
def x_nameWords5_L2 (σ : gM) : Nat → Nat → gM → gM
  | 0, k, τ => τ
  | n2 + 1, k, τ => (x_nameWords5_L2 σ n2 (k + 1) (x_nameWords5_L12 σ n2 k τ 13 0 τ))
def x_nameWords5 (σ : gM) : gM := (x_nameWords5_L2 σ (nN (σ 0 0)) 0 σ)
def rm_yX5_nameWords : Room := { frames := 5, cells := 0, slots := 0, locals := 109 }
set_option maxHeartbeats 4000000 in
set_option maxRecDepth 100000 in
theorem c_yX5_nameWords (l : Launch) (G : gG) (ad : Nat → Nat) (hI : gI G.2.2.1 7 ad) (σ : gM) (L : Nat) (T : Nat) (hL : L ≤ 121) (hlen : σ 0 0 = nI L) (hT : T ≤ 120) (ht : σ 5 0 = nI T) : gMutV l yX5_nameWords cX5_nameWords 4 none rm_yX5_nameWords G [.ref (ad 0), .ref (ad 5)] 7 ad (shK G ad) σ (x_nameWords5 σ) := by
  refine g_start [.ref (ad 0), .ref (ad 5)] (by decide +kernel) (Nat.le_of_ble_eq_true rfl) ?_
  intro p e s m below meth c ls B Z hl
  obtain ⟨C, hr, hlk⟩ := B
  have hx := C.1
  have hb := C.2.1
  obtain ⟨hX, hP⟩ := Z
  have hS : va_S (gA 7 ad) s.heap s.heap [] := va_S.rf
  revert hP hS
  intro hP hS
  have hl : lv_has ls 4 [(0, .ref (ad 0)), (1, .ref (ad 5))] := hl
  refine lv_iconst (v := 0) hx hb dX5_nameWords_0 (by decide) ?_
  refine lv_istore_n (lv' := [(2, .int 0), (0, .ref (ad 0)), (1, .ref (ad 5))]) hx hb dX5_nameWords_1 rfl hl (by decide) rfl (fun ls hl => ?_)
  suffices loop2 : ∀ (n2 : Nat) (k : Nat) (τ : gM) (H : Heap) (locs : List Loc) (ls : Array Slot), (k + n2 = L) → (τ 0 0 = nI L) → (τ 5 0 = nI T) → x_nameWords5 σ = (x_nameWords5_L2 σ n2 k τ) → gP G.1 7 ad (gE (shK G ad) τ) H → va_S (gA 7 ad) s.heap H locs → lv_has ls 4 [(2, .int (nI k)), (0, .ref (ad 0)), (1, .ref (ad 5))] → W p l e rm_yX5_nameWords s m ([.ref (ad 0), .ref (ad 5)] : List Value).toArray below meth c H locs 0 0 (MQ below (va_Qv (fun τ : gM => τ = x_nameWords5 σ) (fun τ t => gP G.1 7 ad (gE (shK G ad) τ) t.heap) (gA 7 ad)) ([.ref (ad 0), .ref (ad 5)] : List Value).toArray s 0 0 (gA 7 ad)) (F0 m 2 ls []) by
    exact loop2 L 0 σ _ _ _ (by omega) hlen ht (by rw [x_nameWords5, hlen, nN_nI (by omega)]) hP hS (lv_sub hl [0, 1, 2] rfl)
  intro n2
  induction n2 with
  | zero =>
    intro k τ H locs ls hi2 hz1 hT1 hres2 hP hS hl
    refine lv_iload_n hx hb dX5_nameWords_2 rfl (lv_at hl 0 rfl) ?_
    refine lv_aload_n hx hb dX5_nameWords_3 rfl (lv_at hl 1 rfl) ?_
    refine g_get fd_RX5_24 C hX hP 0 (by decide) (shK_0 G ad _) (v := .int (τ 0 0)) rfl dX5_nameWords_4 ?_
    refine lv_as (y := (nI L)) hz1 ?_
    refine lv_icmp_ge (tgt := 71) hx hb dX5_nameWords_7 (by decide) (fun c1 => ?_) (fun c1 => ?_)
    · exact g_vretM C hr hlk (by rw [hres2, x_nameWords5_L2]) hP hS dX5_nameWords_71
    · exact absurd (show nI (L) ≤ nI k from nI_le (by omega) (by omega)) c1
  | succ n2 ih2 =>
    intro k τ H locs ls hi2 hz1 hT1 hres2 hP hS hl
    refine lv_iload_n hx hb dX5_nameWords_2 rfl (lv_at hl 0 rfl) ?_
    refine lv_aload_n hx hb dX5_nameWords_3 rfl (lv_at hl 1 rfl) ?_
    refine g_get fd_RX5_24 C hX hP 0 (by decide) (shK_0 G ad _) (v := .int (τ 0 0)) rfl dX5_nameWords_4 ?_
    refine lv_as (y := (nI L)) hz1 ?_
    refine lv_icmp_ge (tgt := 71) hx hb dX5_nameWords_7 (by decide) (fun c2 => ?_) (fun c2 => ?_)
    · exact absurd (show nI (L) ≤ nI k from c2) (nI_ge (by omega) (by omega))
    · refine lv_iconst (v := 0) hx hb dX5_nameWords_10 (by decide) ?_
      refine lv_istore_n (lv' := [(3, .int 0), (2, .int (nI k)), (0, .ref (ad 0)), (1, .ref (ad 5))]) hx hb dX5_nameWords_11 rfl hl (by decide) rfl (fun ls hl => ?_)
      obtain ⟨R12, eR12⟩ : ∃ r : gM, r = (x_nameWords5_L12 σ n2 k τ 13 0 τ) := ⟨_, rfl⟩
      have kont12 : ∀  (τ2_12 : gM) (H : Heap) (locs : List Loc) (ls : Array Slot), R12 = (τ2_12) → (τ2_12 0 0 = nI L) → (τ2_12 5 0 = nI T) → gP G.1 7 ad (gE (shK G ad) τ2_12) H → va_S (gA 7 ad) s.heap H locs → lv_has ls 4 [(2, .int (nI k)), (0, .ref (ad 0)), (1, .ref (ad 5))] → W p l e rm_yX5_nameWords s m ([.ref (ad 0), .ref (ad 5)] : List Value).toArray below meth c H locs 0 0 (MQ below (va_Qv (fun τ : gM => τ = x_nameWords5 σ) (fun τ t => gP G.1 7 ad (gE (shK G ad) τ) t.heap) (gA 7 ad)) ([.ref (ad 0), .ref (ad 5)] : List Value).toArray s 0 0 (gA 7 ad)) (F0 m 65 ls []) := by
        intro  τ2_12 H locs ls hR12 hz3 hT3 hP hS hl
        refine lv_iinc (v := (nI (k + 1))) (lv' := [(2, .int (nI (k + 1))), (0, .ref (ad 0)), (1, .ref (ad 5))]) hx hb dX5_nameWords_65 hl (k := 0) rfl (by exact nI_1 _) (by decide) rfl (fun ls hl => ?_)
        refine lv_goto (tgt := 2) hx hb dX5_nameWords_68 (by decide) ?_
        exact ih2 (k + 1) τ2_12 _ _ _ (by omega) hz3 hT3 (by rw [hres2, x_nameWords5_L2, ← eR12, hR12]) hP hS (lv_sub hl [0, 1, 2] rfl)
      suffices loop12 : ∀ (n12 : Nat) (w : Nat) (τ2 : gM) (H : Heap) (locs : List Loc) (ls : Array Slot), (w + n12 = 13) → (τ2 0 0 = nI L) → (τ2 5 0 = nI T) → R12 = (x_nameWords5_L12 σ n2 k τ n12 w τ2) → gP G.1 7 ad (gE (shK G ad) τ2) H → va_S (gA 7 ad) s.heap H locs → lv_has ls 4 [(3, .int (nI w)), (2, .int (nI k)), (0, .ref (ad 0)), (1, .ref (ad 5))] → W p l e rm_yX5_nameWords s m ([.ref (ad 0), .ref (ad 5)] : List Value).toArray below meth c H locs 0 0 (MQ below (va_Qv (fun τ : gM => τ = x_nameWords5 σ) (fun τ t => gP G.1 7 ad (gE (shK G ad) τ) t.heap) (gA 7 ad)) ([.ref (ad 0), .ref (ad 5)] : List Value).toArray s 0 0 (gA 7 ad)) (F0 m 12 ls []) by
        exact loop12 13 0 τ _ _ _ (by omega) hz1 hT1 eR12 hP hS (lv_sub hl [0, 1, 2, 3] rfl)
      intro n12
      induction n12 with
      | zero =>
        intro w τ2 H locs ls hi12 hz2 hT2 hres12 hP hS hl
        refine lv_iload_n hx hb dX5_nameWords_12 rfl (lv_at hl 0 rfl) ?_
        refine lv_bipush (v := 13) hx hb dX5_nameWords_13 (by decide) ?_
        refine lv_icmp_ge (tgt := 65) hx hb dX5_nameWords_15 (by decide) (fun c3 => ?_) (fun c3 => ?_)
        · exact kont12  τ2 _ _ _ (by rw [hres12, x_nameWords5_L12]) (by exact hz2) (by exact hT2) hP hS (lv_sub hl [1, 2, 3] rfl)
        · exact absurd (show nI (13) ≤ nI w from nI_le (by omega) (by omega)) c3
      | succ n12 ih12 =>
        intro w τ2 H locs ls hi12 hz2 hT2 hres12 hP hS hl
        refine lv_iload_n hx hb dX5_nameWords_12 rfl (lv_at hl 0 rfl) ?_
        refine lv_bipush (v := 13) hx hb dX5_nameWords_13 (by decide) ?_
        refine lv_icmp_ge (tgt := 65) hx hb dX5_nameWords_15 (by decide) (fun c4 => ?_) (fun c4 => ?_)
        · exact absurd (show nI (13) ≤ nI w from c4) (nI_ge (by omega) (by omega))
        · refine lv_aload_n hx hb dX5_nameWords_18 rfl (lv_at hl 2 rfl) ?_
          refine g_get fd_RX5_11 C hX hP 0 (by decide) (shK_0 G ad _) (v := .ref (ad 1)) rfl dX5_nameWords_19 ?_
          refine lv_iload_n hx hb dX5_nameWords_22 rfl (lv_at hl 1 rfl) ?_
          refine g_iald C hX hP 1 (by decide) (shK_1 G ad _) k (by omega) (by decide) dX5_nameWords_23 ?_
          refine lv_bipush (v := 13) hx hb dX5_nameWords_24 (by decide) ?_
          refine lv_icmp_ne (tgt := 65) hx hb dX5_nameWords_26 (by decide) (fun c5 => ?_) (fun c5 => ?_)
          · exact kont12  τ2 _ _ _ (by rw [hres12, x_nameWords5_L12, if_neg c5]) (by exact hz2) (by exact hT2) hP hS (lv_sub hl [1, 2, 3] rfl)
          · refine lv_aload_n hx hb dX5_nameWords_29 rfl (lv_at hl 3 rfl) ?_
            refine lv_iload_n hx hb dX5_nameWords_30 rfl (lv_at hl 0 rfl) ?_
            refine g_rdR (g_runX (As := [.int (nI w)]) (rest := [.ref (ad 5)]) ky_yX5_spellingOf lk_RX5_62 C hX (gS_b0 hI hS) (c_yX5_spellingOf l G w (by omega)) ⟨rfl, rfl, by decide, by decide⟩ rfl hl.1 rfl (Nat.le_of_ble_eq_true rfl) ⟨Nat.zero_le _, Nat.zero_le _⟩ dX5_nameWords_31) ?_
            refine lv_aload_n hx hb dX5_nameWords_34 rfl (lv_at hl 2 rfl) ?_
            refine g_get fd_RX5_15 C hX hP 0 (by decide) (shK_0 G ad _) (v := .ref (ad 2)) rfl dX5_nameWords_35 ?_
            refine lv_iload_n hx hb dX5_nameWords_38 rfl (lv_at hl 1 rfl) ?_
            refine g_iald C hX hP 2 (by decide) (shK_2 G ad _) k (by omega) (by decide) dX5_nameWords_39 ?_
            refine lv_aload_n hx hb dX5_nameWords_40 rfl (lv_at hl 2 rfl) ?_
            refine g_get fd_RX5_18 C hX hP 0 (by decide) (shK_0 G ad _) (v := .ref (ad 3)) rfl dX5_nameWords_41 ?_
            refine lv_iload_n hx hb dX5_nameWords_44 rfl (lv_at hl 1 rfl) ?_
            refine g_iald C hX hP 3 (by decide) (shK_3 G ad _) k (by omega) (by decide) dX5_nameWords_45 ?_
            refine g_rd (g_runV (As := [.ref (G.2.2.2.1 w), .int (τ2 2 k), .int (τ2 3 k)]) (rest := []) ky_yX3_spells lk_RX5_66 C hX (gS_b0 hI hS) (hP.sub (sh1 := (shP G (fun q_ => ad (5 + q_)))) 5 2 (by omega) (shK_tape G ad)) 0 (c_yX3_spells l G (fun q_ => ad (5 + q_)) (hI.sub (m := 2) 5 (by omega)) (mget τ2 5) w (τ2 2 k) (τ2 3 k) T hT hT2 (by omega)) (by decide) (shP_0 G (fun q_ => ad (5 + q_)) _) ⟨rfl, rfl, by decide, by decide⟩ rfl hl.1 rfl (Nat.le_of_ble_eq_true rfl) ⟨Nat.zero_le _, Nat.zero_le _⟩ dX5_nameWords_46) ?_
            refine lv_if_eq (tgt := 59) hx hb dX5_nameWords_49 (by decide) (fun c6 => ?_) (fun c6 => ?_)
            · refine lv_iinc (v := (nI (w + 1))) (lv' := [(3, .int (nI (w + 1))), (2, .int (nI k)), (0, .ref (ad 0)), (1, .ref (ad 5))]) hx hb dX5_nameWords_59 hl (k := 0) rfl (by exact nI_1 _) (by decide) rfl (fun ls hl => ?_)
              refine lv_goto (tgt := 12) hx hb dX5_nameWords_62 (by decide) ?_
              exact ih12 (w + 1) τ2 _ _ _ (by omega) (by exact hz2) (by exact hT2) (by rw [hres12, x_nameWords5_L12, if_pos c5, if_pos c6]) hP hS (lv_sub hl [0, 1, 2, 3] rfl)
            · refine lv_aload_n hx hb dX5_nameWords_52 rfl (lv_at hl 2 rfl) ?_
              refine g_get fd_RX5_11 C hX hP 0 (by decide) (shK_0 G ad _) (v := .ref (ad 1)) rfl dX5_nameWords_53 ?_
              refine lv_iload_n hx hb dX5_nameWords_56 rfl (lv_at hl 1 rfl) ?_
              refine lv_iload_n hx hb dX5_nameWords_57 rfl (lv_at hl 0 rfl) ?_
              refine g_iast C hX hI hP hS 1 (by decide) (shK_1 G ad _) k (by omega) (by decide) (upd (τ2 1) k (nI w)) rfl dX5_nameWords_58 (fun H locs hP hS => ?_)
              have hP : gP G.1 7 ad (gE (shK G ad) (mset τ2 1 k (nI w))) H := hP
              refine lv_iinc (v := (nI (w + 1))) (lv' := [(3, .int (nI (w + 1))), (2, .int (nI k)), (0, .ref (ad 0)), (1, .ref (ad 5))]) hx hb dX5_nameWords_59 hl (k := 0) rfl (by exact nI_1 _) (by decide) rfl (fun ls hl => ?_)
              refine lv_goto (tgt := 12) hx hb dX5_nameWords_62 (by decide) ?_
              exact ih12 (w + 1) (mset τ2 1 k (nI w)) _ _ _ (by omega) (by exact hz2) (by exact hT2) (by rw [hres12, x_nameWords5_L12, if_pos c5, if_neg c6]) hP hS (lv_sub hl [0, 1, 2, 3] rfl)

theorem bg_sz {σ : gM} {L : Nat} (hL : L < 121) (h : σ 0 0 = nI L) (sort place : Int32) : (x_begin5 σ sort place) 0 0 = nI (L + 1) := by
  rw [x_begin5, if_neg (by rw [h]; exact nI_ge (b := 121) hL (by decide))]
  show σ 0 0 + 1 = _
  rw [h]
  exact nI_1 L
theorem bg_5 {σ : gM} {k : Nat} (hk : 5 ≤ k) (sort place : Int32) : (x_begin5 σ sort place) k = σ k := by
  unfold x_begin5
  split
  · rfl
  · rw [mset_ne _ _ _ (by omega), mset_ne _ _ _ (by omega), mset_ne _ _ _ (by omega), mset_ne _ _ _ (by omega), mset_ne _ _ _ (by omega)]
theorem tu_5 {σ : gM} {k : Nat} (hk : 5 ≤ k ∨ k = 0) (b place : Int32) : (x_takeUp5 σ b place) k = σ k := by
  unfold x_takeUp5
  split
  · rfl
  · split
    · rw [mset_ne _ _ _ (by omega), mset_ne _ _ _ (by omega)]
    · rw [mset_ne _ _ _ (by omega)]
theorem kz_0 {τ : gM} {i : Nat} (h : ∃ Z, Z ≤ i ∧ τ 0 0 = nI Z) : ∃ Z, Z ≤ i + 1 ∧ τ 0 0 = nI Z := by
  obtain ⟨Z, h1, h2⟩ := h
  exact ⟨Z, by omega, h2⟩
theorem kz_t {τ : gM} {i : Nat} (b p : Int32) (h : ∃ Z, Z ≤ i ∧ τ 0 0 = nI Z) : ∃ Z, Z ≤ i + 1 ∧ (x_takeUp5 τ b p) 0 0 = nI Z := by
  obtain ⟨Z, h1, h2⟩ := h
  exact ⟨Z, by omega, by rw [tu_5 (Or.inr rfl)]; exact h2⟩
theorem kz_bt {τ : gM} {i : Nat} (hi : i < 121) (u v b p : Int32) (h : ∃ Z, Z ≤ i ∧ τ 0 0 = nI Z) : ∃ Z, Z ≤ i + 1 ∧ (x_takeUp5 (x_begin5 τ u v) b p) 0 0 = nI Z := by
  obtain ⟨Z, h1, h2⟩ := h
  exact ⟨Z + 1, by omega, by rw [tu_5 (Or.inr rfl)]; exact bg_sz (by omega) h2 u v⟩

def x_readFrom5_L10 (σ : gM) : Nat → Nat → Int32 → gM → gM
  | 0, i, before, τ => (x_nameWords5 (x_begin5 τ 17 (τ 5 0)))
  | n10 + 1, i, before, τ => if (x_sortOf5 (x_byteAt3 (mget τ 5) (nI i))) = before then (if (x_sortOf5 (x_byteAt3 (mget τ 5) (nI i))) = 13 then (if (x_sortOf5 (x_byteAt3 (mget τ 5) (nI i))) = 18 then (x_readFrom5_L10 σ n10 (i + 1) ((x_sortOf5 (x_byteAt3 (mget τ 5) (nI i)))) τ) else (x_readFrom5_L10 σ n10 (i + 1) ((x_sortOf5 (x_byteAt3 (mget τ 5) (nI i)))) ((x_takeUp5 τ (x_byteAt3 (mget τ 5) (nI i)) (nI i))))) else (if (x_sortOf5 (x_byteAt3 (mget τ 5) (nI i))) = 14 then (if (x_sortOf5 (x_byteAt3 (mget τ 5) (nI i))) = 18 then (x_readFrom5_L10 σ n10 (i + 1) ((x_sortOf5 (x_byteAt3 (mget τ 5) (nI i)))) τ) else (x_readFrom5_L10 σ n10 (i + 1) ((x_sortOf5 (x_byteAt3 (mget τ 5) (nI i)))) ((x_takeUp5 τ (x_byteAt3 (mget τ 5) (nI i)) (nI i))))) else (if (x_sortOf5 (x_byteAt3 (mget τ 5) (nI i))) = 18 then (x_readFrom5_L10 σ n10 (i + 1) ((x_sortOf5 (x_byteAt3 (mget τ 5) (nI i)))) τ) else (x_readFrom5_L10 σ n10 (i + 1) ((x_sortOf5 (x_byteAt3 (mget τ 5) (nI i)))) ((x_takeUp5 (x_begin5 τ (x_sortOf5 (x_byteAt3 (mget τ 5) (nI i))) (nI i)) (x_byteAt3 (mget (x_begin5 τ (x_sortOf5 (x_byteAt3 (mget τ 5) (nI i))) (nI i)) 5) (nI i)) (nI i))))))) else (if (x_sortOf5 (x_byteAt3 (mget τ 5) (nI i))) = 18 then (x_readFrom5_L10 σ n10 (i + 1) ((x_sortOf5 (x_byteAt3 (mget τ 5) (nI i)))) τ) else (x_readFrom5_L10 σ n10 (i + 1) ((x_sortOf5 (x_byteAt3 (mget τ 5) (nI i)))) ((x_takeUp5 (x_begin5 τ (x_sortOf5 (x_byteAt3 (mget τ 5) (nI i))) (nI i)) (x_byteAt3 (mget (x_begin5 τ (x_sortOf5 (x_byteAt3 (mget τ 5) (nI i))) (nI i)) 5) (nI i)) (nI i)))))
def x_readFrom5 (σ : gM) : gM := (x_readFrom5_L10 σ (nN (σ 5 0)) 0 18 (mset σ 0 0 0))
def rm_yX5_readFrom : Room := { frames := 6, cells := 0, slots := 0, locals := 132 }
set_option maxHeartbeats 4000000 in
set_option maxRecDepth 100000 in
theorem c_yX5_readFrom (l : Launch) (G : gG) (ad : Nat → Nat) (hI : gI G.2.2.1 7 ad) (σ : gM) (T : Nat) (hT : T ≤ 120) (ht : σ 5 0 = nI T) : gMutV l yX5_readFrom cX5_readFrom 6 none rm_yX5_readFrom G [.ref (ad 0), .ref (ad 5)] 7 ad (shK G ad) σ (x_readFrom5 σ) := by
  refine g_start [.ref (ad 0), .ref (ad 5)] (by decide +kernel) (Nat.le_of_ble_eq_true rfl) ?_
  intro p e s m below meth c ls B Z hl
  obtain ⟨C, hr, hlk⟩ := B
  have hx := C.1
  have hb := C.2.1
  obtain ⟨hX, hP⟩ := Z
  have hS : va_S (gA 7 ad) s.heap s.heap [] := va_S.rf
  revert hP hS
  intro hP hS
  have hl : lv_has ls 6 [(0, .ref (ad 0)), (1, .ref (ad 5))] := hl
  refine lv_aload_n hx hb dX5_readFrom_0 rfl (lv_at hl 0 rfl) ?_
  refine lv_iconst (v := 0) hx hb dX5_readFrom_1 (by decide) ?_
  refine g_put fd_RX5_24 C hX hI hP hS 0 (by decide) (shK_0 G ad _) rfl rfl (Nat.le_of_ble_eq_true rfl) (upd (σ 0) 0 0) rfl dX5_readFrom_2 (fun H locs hP hS => ?_)
  have hP : gP G.1 7 ad (gE (shK G ad) (mset σ 0 0 0)) H := hP
  refine lv_bipush (v := 18) hx hb dX5_readFrom_5 (by decide) ?_
  refine lv_istore_n (lv' := [(2, .int 18), (0, .ref (ad 0)), (1, .ref (ad 5))]) hx hb dX5_readFrom_7 rfl hl (by decide) rfl (fun ls hl => ?_)
  refine lv_iconst (v := 0) hx hb dX5_readFrom_8 (by decide) ?_
  refine lv_istore_n (lv' := [(3, .int 0), (2, .int 18), (0, .ref (ad 0)), (1, .ref (ad 5))]) hx hb dX5_readFrom_9 rfl hl (by decide) rfl (fun ls hl => ?_)
  suffices loop10 : ∀ (n10 : Nat) (i : Nat) (before : Int32) (τ : gM) (H : Heap) (locs : List Loc) (ls : Array Slot), (i + n10 = T) → (τ 5 0 = nI T) → (∃ Z, Z ≤ i ∧ τ 0 0 = nI Z) → x_readFrom5 σ = (x_readFrom5_L10 σ n10 i before τ) → gP G.1 7 ad (gE (shK G ad) τ) H → va_S (gA 7 ad) s.heap H locs → lv_has ls 6 [(3, .int (nI i)), (2, .int before), (0, .ref (ad 0)), (1, .ref (ad 5))] → W p l e rm_yX5_readFrom s m ([.ref (ad 0), .ref (ad 5)] : List Value).toArray below meth c H locs 0 0 (MQ below (va_Qv (fun τ : gM => τ = x_readFrom5 σ) (fun τ t => gP G.1 7 ad (gE (shK G ad) τ) t.heap) (gA 7 ad)) ([.ref (ad 0), .ref (ad 5)] : List Value).toArray s 0 0 (gA 7 ad)) (F0 m 10 ls []) by
    exact loop10 T 0 18 (mset σ 0 0 0) _ _ _ (by omega) ht ⟨0, Nat.le_refl _, rfl⟩ (by rw [x_readFrom5, ht, nN_nI (by omega)]) hP hS (lv_sub hl [0, 1, 2, 3] rfl)
  intro n10
  induction n10 with
  | zero =>
    intro i before τ H locs ls hi10 hT1 hZ hres10 hP hS hl
    have hZ0 := hZ
    obtain ⟨Z, hZ1, hZ2⟩ := hZ0
    refine lv_iload_n hx hb dX5_readFrom_10 rfl (lv_at hl 0 rfl) ?_
    refine lv_aload_n hx hb dX5_readFrom_11 rfl (lv_at hl 3 rfl) ?_
    refine g_get fd_RX5_28 C hX hP 5 (by decide) (shK_5 G ad _) (v := .int (τ 5 0)) rfl dX5_readFrom_12 ?_
    refine lv_as (y := (nI T)) hT1 ?_
    refine lv_icmp_ge (tgt := 100) hx hb dX5_readFrom_15 (by decide) (fun c1 => ?_) (fun c1 => ?_)
    · refine lv_aload_n hx hb dX5_readFrom_100 rfl (lv_at hl 2 rfl) ?_
      refine lv_bipush (v := 17) hx hb dX5_readFrom_101 (by decide) ?_
      refine lv_aload_n hx hb dX5_readFrom_103 rfl (lv_at hl 3 rfl) ?_
      refine g_get fd_RX5_28 C hX hP 5 (by decide) (shK_5 G ad _) (v := .int (τ 5 0)) rfl dX5_readFrom_104 ?_
      refine g_wrV0 hS (g_runV (As := [.int 17, .int (τ 5 0)]) (rest := []) ky_yX5_begin lk_RX5_40 C hX (gS_b0 hI hS) hP 0 (c_yX5_begin l G ad hI τ 17 (τ 5 0) Z (by omega) hZ2) (by decide) (shK_0 G ad _) ⟨rfl, rfl, by decide, by decide⟩ rfl hl.1 rfl (Nat.le_of_ble_eq_true rfl) ⟨Nat.zero_le _, Nat.zero_le _⟩ dX5_readFrom_107) (fun H locs hP hS => ?_)
      refine lv_aload_n hx hb dX5_readFrom_110 rfl (lv_at hl 2 rfl) ?_
      refine lv_aload_n hx hb dX5_readFrom_111 rfl (lv_at hl 3 rfl) ?_
      refine g_wrV0 hS (g_runV (As := [.ref (ad 5)]) (rest := []) ky_yX5_nameWords lk_RX5_47 C hX (gS_b0 hI hS) hP 0 (c_yX5_nameWords l G ad hI (x_begin5 τ 17 (τ 5 0))  (Z + 1) T (by omega) (bg_sz (by omega) hZ2 _ _) hT (by rw [bg_5 (by decide)]; exact hT1)) (by decide) (shK_0 G ad _) ⟨rfl, rfl, by decide, by decide⟩ rfl hl.1 rfl (Nat.le_of_ble_eq_true rfl) ⟨Nat.zero_le _, Nat.zero_le _⟩ dX5_readFrom_112) (fun H locs hP hS => ?_)
      exact g_vretM C hr hlk (by rw [hres10, x_readFrom5_L10]) hP hS dX5_readFrom_115
    · exact absurd (show nI (T) ≤ nI i from nI_le (by omega) (by omega)) c1
  | succ n10 ih10 =>
    intro i before τ H locs ls hi10 hT1 hZ hres10 hP hS hl
    have hZ0 := hZ
    obtain ⟨Z, hZ1, hZ2⟩ := hZ0
    refine lv_iload_n hx hb dX5_readFrom_10 rfl (lv_at hl 0 rfl) ?_
    refine lv_aload_n hx hb dX5_readFrom_11 rfl (lv_at hl 3 rfl) ?_
    refine g_get fd_RX5_28 C hX hP 5 (by decide) (shK_5 G ad _) (v := .int (τ 5 0)) rfl dX5_readFrom_12 ?_
    refine lv_as (y := (nI T)) hT1 ?_
    refine lv_icmp_ge (tgt := 100) hx hb dX5_readFrom_15 (by decide) (fun c2 => ?_) (fun c2 => ?_)
    · exact absurd (show nI (T) ≤ nI i from c2) (nI_ge (by omega) (by omega))
    · refine lv_aload_n hx hb dX5_readFrom_18 rfl (lv_at hl 3 rfl) ?_
      refine lv_iload_n hx hb dX5_readFrom_19 rfl (lv_at hl 0 rfl) ?_
      refine g_rd (g_runV (As := [.int (nI i)]) (rest := []) ky_yX3_byteAt lk_RX5_33 C hX (gS_b0 hI hS) (hP.sub (sh1 := (shP G (fun q_ => ad (5 + q_)))) 5 2 (by omega) (shK_tape G ad)) 0 (c_yX3_byteAt l G (fun q_ => ad (5 + q_)) (hI.sub (m := 2) 5 (by omega)) (mget τ 5) (nI i) T hT hT1) (by decide) (shP_0 G (fun q_ => ad (5 + q_)) _) ⟨rfl, rfl, by decide, by decide⟩ rfl hl.1 rfl (Nat.le_of_ble_eq_true rfl) ⟨Nat.zero_le _, Nat.zero_le _⟩ dX5_readFrom_20) ?_
      refine g_rd (g_runS (As := [.int (x_byteAt3 (mget τ 5) (nI i))]) (rest := []) ky_yX5_sortOf lk_RX5_37 C (c_yX5_sortOf l (x_byteAt3 (mget τ 5) (nI i))) ⟨rfl, rfl, by decide, by decide⟩ rfl hl.1 rfl (Nat.le_of_ble_eq_true rfl) ⟨Nat.zero_le _, Nat.zero_le _⟩ dX5_readFrom_23) ?_
      refine lv_istore (lv' := [(4, .int (x_sortOf5 (x_byteAt3 (mget τ 5) (nI i)))), (3, .int (nI i)), (2, .int before), (0, .ref (ad 0)), (1, .ref (ad 5))]) hx hb dX5_readFrom_26 hl (by decide) rfl (fun ls hl => ?_)
      refine lv_iload hx hb dX5_readFrom_28 (lv_at hl 0 rfl) ?_
      refine lv_iload_n hx hb dX5_readFrom_30 rfl (lv_at hl 2 rfl) ?_
      refine lv_icmp_ne (tgt := 52) hx hb dX5_readFrom_31 (by decide) (fun c3 => ?_) (fun c3 => ?_)
      · refine lv_iconst (v := 0) hx hb dX5_readFrom_52 (by decide) ?_
        refine lv_istore (lv' := [(5, .int 0), (4, .int (x_sortOf5 (x_byteAt3 (mget τ 5) (nI i)))), (3, .int (nI i)), (2, .int before), (0, .ref (ad 0)), (1, .ref (ad 5))]) hx hb dX5_readFrom_53 hl (by decide) rfl (fun ls hl => ?_)
        refine lv_iload hx hb dX5_readFrom_55 (lv_at hl 0 rfl) ?_
        refine lv_if_ne (tgt := 74) hx hb dX5_readFrom_57 (by decide) (fun c4 => ?_) (fun c4 => ?_)
        · exact absurd (by decide) c4
        · refine lv_iload hx hb dX5_readFrom_60 (lv_at hl 1 rfl) ?_
          refine lv_bipush (v := 18) hx hb dX5_readFrom_62 (by decide) ?_
          refine lv_icmp_eq (tgt := 74) hx hb dX5_readFrom_64 (by decide) (fun c5 => ?_) (fun c5 => ?_)
          · refine lv_iload hx hb dX5_readFrom_74 (lv_at hl 1 rfl) ?_
            refine lv_bipush (v := 18) hx hb dX5_readFrom_76 (by decide) ?_
            refine lv_icmp_eq (tgt := 91) hx hb dX5_readFrom_78 (by decide) (fun c6 => ?_) (fun c6 => ?_)
            · refine lv_iload hx hb dX5_readFrom_91 (lv_at hl 1 rfl) ?_
              refine lv_istore_n (lv' := [(2, .int (x_sortOf5 (x_byteAt3 (mget τ 5) (nI i)))), (5, .int 0), (4, .int (x_sortOf5 (x_byteAt3 (mget τ 5) (nI i)))), (3, .int (nI i)), (0, .ref (ad 0)), (1, .ref (ad 5))]) hx hb dX5_readFrom_93 rfl hl (by decide) rfl (fun ls hl => ?_)
              refine lv_iinc (v := (nI (i + 1))) (lv' := [(3, .int (nI (i + 1))), (2, .int (x_sortOf5 (x_byteAt3 (mget τ 5) (nI i)))), (5, .int 0), (4, .int (x_sortOf5 (x_byteAt3 (mget τ 5) (nI i)))), (0, .ref (ad 0)), (1, .ref (ad 5))]) hx hb dX5_readFrom_94 hl (k := 3) rfl (by exact nI_1 _) (by decide) rfl (fun ls hl => ?_)
              refine lv_goto (tgt := 10) hx hb dX5_readFrom_97 (by decide) ?_
              exact ih10 (i + 1) ((x_sortOf5 (x_byteAt3 (mget τ 5) (nI i)))) τ _ _ _ (by omega) hT1 (kz_0 hZ) (by rw [hres10, x_readFrom5_L10, if_neg c3, if_pos c5]) hP hS (lv_sub hl [0, 1, 4, 5] rfl)
            · exact absurd c5 c6
          · refine lv_aload_n hx hb dX5_readFrom_67 rfl (lv_at hl 4 rfl) ?_
            refine lv_iload hx hb dX5_readFrom_68 (lv_at hl 1 rfl) ?_
            refine lv_iload_n hx hb dX5_readFrom_70 rfl (lv_at hl 2 rfl) ?_
            refine g_wrV0 hS (g_runV (As := [.int (x_sortOf5 (x_byteAt3 (mget τ 5) (nI i))), .int (nI i)]) (rest := []) ky_yX5_begin lk_RX5_40 C hX (gS_b0 hI hS) hP 0 (c_yX5_begin l G ad hI τ (x_sortOf5 (x_byteAt3 (mget τ 5) (nI i))) (nI i) Z (by omega) hZ2) (by decide) (shK_0 G ad _) ⟨rfl, rfl, by decide, by decide⟩ rfl hl.1 rfl (Nat.le_of_ble_eq_true rfl) ⟨Nat.zero_le _, Nat.zero_le _⟩ dX5_readFrom_71) (fun H locs hP hS => ?_)
            refine lv_iload hx hb dX5_readFrom_74 (lv_at hl 1 rfl) ?_
            refine lv_bipush (v := 18) hx hb dX5_readFrom_76 (by decide) ?_
            refine lv_icmp_eq (tgt := 91) hx hb dX5_readFrom_78 (by decide) (fun c7 => ?_) (fun c7 => ?_)
            · exact absurd c7 c5
            · refine lv_aload_n hx hb dX5_readFrom_81 rfl (lv_at hl 4 rfl) ?_
              refine lv_aload_n hx hb dX5_readFrom_82 rfl (lv_at hl 5 rfl) ?_
              refine lv_iload_n hx hb dX5_readFrom_83 rfl (lv_at hl 2 rfl) ?_
              refine g_rd (g_runV (As := [.int (nI i)]) (rest := [.ref (ad 0)]) ky_yX3_byteAt lk_RX5_33 C hX (gS_b0 hI hS) (hP.sub (sh1 := (shP G (fun q_ => ad (5 + q_)))) 5 2 (by omega) (shK_tape G ad)) 0 (c_yX3_byteAt l G (fun q_ => ad (5 + q_)) (hI.sub (m := 2) 5 (by omega)) (mget (x_begin5 τ (x_sortOf5 (x_byteAt3 (mget τ 5) (nI i))) (nI i)) 5) (nI i) T hT (by show (x_begin5 τ _ _) 5 0 = _; rw [bg_5 (by decide)]; exact hT1)) (by decide) (shP_0 G (fun q_ => ad (5 + q_)) _) ⟨rfl, rfl, by decide, by decide⟩ rfl hl.1 rfl (Nat.le_of_ble_eq_true rfl) ⟨Nat.zero_le _, Nat.zero_le _⟩ dX5_readFrom_84) ?_
              refine lv_iload_n hx hb dX5_readFrom_87 rfl (lv_at hl 2 rfl) ?_
              refine g_wrV0 hS (g_runV (As := [.int (x_byteAt3 (mget (x_begin5 τ (x_sortOf5 (x_byteAt3 (mget τ 5) (nI i))) (nI i)) 5) (nI i)), .int (nI i)]) (rest := []) ky_yX5_takeUp lk_RX5_44 C hX (gS_b0 hI hS) hP 0 (c_yX5_takeUp l G ad hI (x_begin5 τ (x_sortOf5 (x_byteAt3 (mget τ 5) (nI i))) (nI i)) (x_byteAt3 (mget (x_begin5 τ (x_sortOf5 (x_byteAt3 (mget τ 5) (nI i))) (nI i)) 5) (nI i)) (nI i)) (by decide) (shK_0 G ad _) ⟨rfl, rfl, by decide, by decide⟩ rfl hl.1 rfl (Nat.le_of_ble_eq_true rfl) ⟨Nat.zero_le _, Nat.zero_le _⟩ dX5_readFrom_88) (fun H locs hP hS => ?_)
              refine lv_iload hx hb dX5_readFrom_91 (lv_at hl 1 rfl) ?_
              refine lv_istore_n (lv' := [(2, .int (x_sortOf5 (x_byteAt3 (mget τ 5) (nI i)))), (5, .int 0), (4, .int (x_sortOf5 (x_byteAt3 (mget τ 5) (nI i)))), (3, .int (nI i)), (0, .ref (ad 0)), (1, .ref (ad 5))]) hx hb dX5_readFrom_93 rfl hl (by decide) rfl (fun ls hl => ?_)
              refine lv_iinc (v := (nI (i + 1))) (lv' := [(3, .int (nI (i + 1))), (2, .int (x_sortOf5 (x_byteAt3 (mget τ 5) (nI i)))), (5, .int 0), (4, .int (x_sortOf5 (x_byteAt3 (mget τ 5) (nI i)))), (0, .ref (ad 0)), (1, .ref (ad 5))]) hx hb dX5_readFrom_94 hl (k := 3) rfl (by exact nI_1 _) (by decide) rfl (fun ls hl => ?_)
              refine lv_goto (tgt := 10) hx hb dX5_readFrom_97 (by decide) ?_
              exact ih10 (i + 1) ((x_sortOf5 (x_byteAt3 (mget τ 5) (nI i)))) ((x_takeUp5 (x_begin5 τ (x_sortOf5 (x_byteAt3 (mget τ 5) (nI i))) (nI i)) (x_byteAt3 (mget (x_begin5 τ (x_sortOf5 (x_byteAt3 (mget τ 5) (nI i))) (nI i)) 5) (nI i)) (nI i))) _ _ _ (by omega) (by rw [tu_5 (Or.inl (by decide)), bg_5 (by decide)]; exact hT1) (kz_bt (by omega) _ _ _ _ hZ) (by rw [hres10, x_readFrom5_L10, if_neg c3, if_neg c5]) hP hS (lv_sub hl [0, 1, 4, 5] rfl)
      · refine lv_iload hx hb dX5_readFrom_34 (lv_at hl 0 rfl) ?_
        refine lv_bipush (v := 13) hx hb dX5_readFrom_36 (by decide) ?_
        refine lv_icmp_eq (tgt := 48) hx hb dX5_readFrom_38 (by decide) (fun c8 => ?_) (fun c8 => ?_)
        · refine lv_iconst (v := 1) hx hb dX5_readFrom_48 (by decide) ?_
          refine lv_goto (tgt := 53) hx hb dX5_readFrom_49 (by decide) ?_
          refine lv_istore (lv' := [(5, .int 1), (4, .int (x_sortOf5 (x_byteAt3 (mget τ 5) (nI i)))), (3, .int (nI i)), (2, .int before), (0, .ref (ad 0)), (1, .ref (ad 5))]) hx hb dX5_readFrom_53 hl (by decide) rfl (fun ls hl => ?_)
          refine lv_iload hx hb dX5_readFrom_55 (lv_at hl 0 rfl) ?_
          refine lv_if_ne (tgt := 74) hx hb dX5_readFrom_57 (by decide) (fun c9 => ?_) (fun c9 => ?_)
          · refine lv_iload hx hb dX5_readFrom_74 (lv_at hl 1 rfl) ?_
            refine lv_bipush (v := 18) hx hb dX5_readFrom_76 (by decide) ?_
            refine lv_icmp_eq (tgt := 91) hx hb dX5_readFrom_78 (by decide) (fun c10 => ?_) (fun c10 => ?_)
            · refine lv_iload hx hb dX5_readFrom_91 (lv_at hl 1 rfl) ?_
              refine lv_istore_n (lv' := [(2, .int (x_sortOf5 (x_byteAt3 (mget τ 5) (nI i)))), (5, .int 1), (4, .int (x_sortOf5 (x_byteAt3 (mget τ 5) (nI i)))), (3, .int (nI i)), (0, .ref (ad 0)), (1, .ref (ad 5))]) hx hb dX5_readFrom_93 rfl hl (by decide) rfl (fun ls hl => ?_)
              refine lv_iinc (v := (nI (i + 1))) (lv' := [(3, .int (nI (i + 1))), (2, .int (x_sortOf5 (x_byteAt3 (mget τ 5) (nI i)))), (5, .int 1), (4, .int (x_sortOf5 (x_byteAt3 (mget τ 5) (nI i)))), (0, .ref (ad 0)), (1, .ref (ad 5))]) hx hb dX5_readFrom_94 hl (k := 3) rfl (by exact nI_1 _) (by decide) rfl (fun ls hl => ?_)
              refine lv_goto (tgt := 10) hx hb dX5_readFrom_97 (by decide) ?_
              exact ih10 (i + 1) ((x_sortOf5 (x_byteAt3 (mget τ 5) (nI i)))) τ _ _ _ (by omega) hT1 (kz_0 hZ) (by rw [hres10, x_readFrom5_L10, if_pos c3, if_pos c8, if_pos c10]) hP hS (lv_sub hl [0, 1, 4, 5] rfl)
            · refine lv_aload_n hx hb dX5_readFrom_81 rfl (lv_at hl 4 rfl) ?_
              refine lv_aload_n hx hb dX5_readFrom_82 rfl (lv_at hl 5 rfl) ?_
              refine lv_iload_n hx hb dX5_readFrom_83 rfl (lv_at hl 2 rfl) ?_
              refine g_rd (g_runV (As := [.int (nI i)]) (rest := [.ref (ad 0)]) ky_yX3_byteAt lk_RX5_33 C hX (gS_b0 hI hS) (hP.sub (sh1 := (shP G (fun q_ => ad (5 + q_)))) 5 2 (by omega) (shK_tape G ad)) 0 (c_yX3_byteAt l G (fun q_ => ad (5 + q_)) (hI.sub (m := 2) 5 (by omega)) (mget τ 5) (nI i) T hT hT1) (by decide) (shP_0 G (fun q_ => ad (5 + q_)) _) ⟨rfl, rfl, by decide, by decide⟩ rfl hl.1 rfl (Nat.le_of_ble_eq_true rfl) ⟨Nat.zero_le _, Nat.zero_le _⟩ dX5_readFrom_84) ?_
              refine lv_iload_n hx hb dX5_readFrom_87 rfl (lv_at hl 2 rfl) ?_
              refine g_wrV0 hS (g_runV (As := [.int (x_byteAt3 (mget τ 5) (nI i)), .int (nI i)]) (rest := []) ky_yX5_takeUp lk_RX5_44 C hX (gS_b0 hI hS) hP 0 (c_yX5_takeUp l G ad hI τ (x_byteAt3 (mget τ 5) (nI i)) (nI i)) (by decide) (shK_0 G ad _) ⟨rfl, rfl, by decide, by decide⟩ rfl hl.1 rfl (Nat.le_of_ble_eq_true rfl) ⟨Nat.zero_le _, Nat.zero_le _⟩ dX5_readFrom_88) (fun H locs hP hS => ?_)
              refine lv_iload hx hb dX5_readFrom_91 (lv_at hl 1 rfl) ?_
              refine lv_istore_n (lv' := [(2, .int (x_sortOf5 (x_byteAt3 (mget τ 5) (nI i)))), (5, .int 1), (4, .int (x_sortOf5 (x_byteAt3 (mget τ 5) (nI i)))), (3, .int (nI i)), (0, .ref (ad 0)), (1, .ref (ad 5))]) hx hb dX5_readFrom_93 rfl hl (by decide) rfl (fun ls hl => ?_)
              refine lv_iinc (v := (nI (i + 1))) (lv' := [(3, .int (nI (i + 1))), (2, .int (x_sortOf5 (x_byteAt3 (mget τ 5) (nI i)))), (5, .int 1), (4, .int (x_sortOf5 (x_byteAt3 (mget τ 5) (nI i)))), (0, .ref (ad 0)), (1, .ref (ad 5))]) hx hb dX5_readFrom_94 hl (k := 3) rfl (by exact nI_1 _) (by decide) rfl (fun ls hl => ?_)
              refine lv_goto (tgt := 10) hx hb dX5_readFrom_97 (by decide) ?_
              exact ih10 (i + 1) ((x_sortOf5 (x_byteAt3 (mget τ 5) (nI i)))) ((x_takeUp5 τ (x_byteAt3 (mget τ 5) (nI i)) (nI i))) _ _ _ (by omega) (by rw [tu_5 (Or.inl (by decide))]; exact hT1) (kz_t _ _ hZ) (by rw [hres10, x_readFrom5_L10, if_pos c3, if_pos c8, if_neg c10]) hP hS (lv_sub hl [0, 1, 4, 5] rfl)
          · exact absurd c9 (by decide)
        · refine lv_iload hx hb dX5_readFrom_41 (lv_at hl 0 rfl) ?_
          refine lv_bipush (v := 14) hx hb dX5_readFrom_43 (by decide) ?_
          refine lv_icmp_ne (tgt := 52) hx hb dX5_readFrom_45 (by decide) (fun c11 => ?_) (fun c11 => ?_)
          · refine lv_iconst (v := 0) hx hb dX5_readFrom_52 (by decide) ?_
            refine lv_istore (lv' := [(5, .int 0), (4, .int (x_sortOf5 (x_byteAt3 (mget τ 5) (nI i)))), (3, .int (nI i)), (2, .int before), (0, .ref (ad 0)), (1, .ref (ad 5))]) hx hb dX5_readFrom_53 hl (by decide) rfl (fun ls hl => ?_)
            refine lv_iload hx hb dX5_readFrom_55 (lv_at hl 0 rfl) ?_
            refine lv_if_ne (tgt := 74) hx hb dX5_readFrom_57 (by decide) (fun c12 => ?_) (fun c12 => ?_)
            · exact absurd (by decide) c12
            · refine lv_iload hx hb dX5_readFrom_60 (lv_at hl 1 rfl) ?_
              refine lv_bipush (v := 18) hx hb dX5_readFrom_62 (by decide) ?_
              refine lv_icmp_eq (tgt := 74) hx hb dX5_readFrom_64 (by decide) (fun c13 => ?_) (fun c13 => ?_)
              · refine lv_iload hx hb dX5_readFrom_74 (lv_at hl 1 rfl) ?_
                refine lv_bipush (v := 18) hx hb dX5_readFrom_76 (by decide) ?_
                refine lv_icmp_eq (tgt := 91) hx hb dX5_readFrom_78 (by decide) (fun c14 => ?_) (fun c14 => ?_)
                · refine lv_iload hx hb dX5_readFrom_91 (lv_at hl 1 rfl) ?_
                  refine lv_istore_n (lv' := [(2, .int (x_sortOf5 (x_byteAt3 (mget τ 5) (nI i)))), (5, .int 0), (4, .int (x_sortOf5 (x_byteAt3 (mget τ 5) (nI i)))), (3, .int (nI i)), (0, .ref (ad 0)), (1, .ref (ad 5))]) hx hb dX5_readFrom_93 rfl hl (by decide) rfl (fun ls hl => ?_)
                  refine lv_iinc (v := (nI (i + 1))) (lv' := [(3, .int (nI (i + 1))), (2, .int (x_sortOf5 (x_byteAt3 (mget τ 5) (nI i)))), (5, .int 0), (4, .int (x_sortOf5 (x_byteAt3 (mget τ 5) (nI i)))), (0, .ref (ad 0)), (1, .ref (ad 5))]) hx hb dX5_readFrom_94 hl (k := 3) rfl (by exact nI_1 _) (by decide) rfl (fun ls hl => ?_)
                  refine lv_goto (tgt := 10) hx hb dX5_readFrom_97 (by decide) ?_
                  exact ih10 (i + 1) ((x_sortOf5 (x_byteAt3 (mget τ 5) (nI i)))) τ _ _ _ (by omega) hT1 (kz_0 hZ) (by rw [hres10, x_readFrom5_L10, if_pos c3, if_neg c8, if_neg c11, if_pos c13]) hP hS (lv_sub hl [0, 1, 4, 5] rfl)
                · exact absurd c13 c14
              · refine lv_aload_n hx hb dX5_readFrom_67 rfl (lv_at hl 4 rfl) ?_
                refine lv_iload hx hb dX5_readFrom_68 (lv_at hl 1 rfl) ?_
                refine lv_iload_n hx hb dX5_readFrom_70 rfl (lv_at hl 2 rfl) ?_
                refine g_wrV0 hS (g_runV (As := [.int (x_sortOf5 (x_byteAt3 (mget τ 5) (nI i))), .int (nI i)]) (rest := []) ky_yX5_begin lk_RX5_40 C hX (gS_b0 hI hS) hP 0 (c_yX5_begin l G ad hI τ (x_sortOf5 (x_byteAt3 (mget τ 5) (nI i))) (nI i) Z (by omega) hZ2) (by decide) (shK_0 G ad _) ⟨rfl, rfl, by decide, by decide⟩ rfl hl.1 rfl (Nat.le_of_ble_eq_true rfl) ⟨Nat.zero_le _, Nat.zero_le _⟩ dX5_readFrom_71) (fun H locs hP hS => ?_)
                refine lv_iload hx hb dX5_readFrom_74 (lv_at hl 1 rfl) ?_
                refine lv_bipush (v := 18) hx hb dX5_readFrom_76 (by decide) ?_
                refine lv_icmp_eq (tgt := 91) hx hb dX5_readFrom_78 (by decide) (fun c15 => ?_) (fun c15 => ?_)
                · exact absurd c15 c13
                · refine lv_aload_n hx hb dX5_readFrom_81 rfl (lv_at hl 4 rfl) ?_
                  refine lv_aload_n hx hb dX5_readFrom_82 rfl (lv_at hl 5 rfl) ?_
                  refine lv_iload_n hx hb dX5_readFrom_83 rfl (lv_at hl 2 rfl) ?_
                  refine g_rd (g_runV (As := [.int (nI i)]) (rest := [.ref (ad 0)]) ky_yX3_byteAt lk_RX5_33 C hX (gS_b0 hI hS) (hP.sub (sh1 := (shP G (fun q_ => ad (5 + q_)))) 5 2 (by omega) (shK_tape G ad)) 0 (c_yX3_byteAt l G (fun q_ => ad (5 + q_)) (hI.sub (m := 2) 5 (by omega)) (mget (x_begin5 τ (x_sortOf5 (x_byteAt3 (mget τ 5) (nI i))) (nI i)) 5) (nI i) T hT (by show (x_begin5 τ _ _) 5 0 = _; rw [bg_5 (by decide)]; exact hT1)) (by decide) (shP_0 G (fun q_ => ad (5 + q_)) _) ⟨rfl, rfl, by decide, by decide⟩ rfl hl.1 rfl (Nat.le_of_ble_eq_true rfl) ⟨Nat.zero_le _, Nat.zero_le _⟩ dX5_readFrom_84) ?_
                  refine lv_iload_n hx hb dX5_readFrom_87 rfl (lv_at hl 2 rfl) ?_
                  refine g_wrV0 hS (g_runV (As := [.int (x_byteAt3 (mget (x_begin5 τ (x_sortOf5 (x_byteAt3 (mget τ 5) (nI i))) (nI i)) 5) (nI i)), .int (nI i)]) (rest := []) ky_yX5_takeUp lk_RX5_44 C hX (gS_b0 hI hS) hP 0 (c_yX5_takeUp l G ad hI (x_begin5 τ (x_sortOf5 (x_byteAt3 (mget τ 5) (nI i))) (nI i)) (x_byteAt3 (mget (x_begin5 τ (x_sortOf5 (x_byteAt3 (mget τ 5) (nI i))) (nI i)) 5) (nI i)) (nI i)) (by decide) (shK_0 G ad _) ⟨rfl, rfl, by decide, by decide⟩ rfl hl.1 rfl (Nat.le_of_ble_eq_true rfl) ⟨Nat.zero_le _, Nat.zero_le _⟩ dX5_readFrom_88) (fun H locs hP hS => ?_)
                  refine lv_iload hx hb dX5_readFrom_91 (lv_at hl 1 rfl) ?_
                  refine lv_istore_n (lv' := [(2, .int (x_sortOf5 (x_byteAt3 (mget τ 5) (nI i)))), (5, .int 0), (4, .int (x_sortOf5 (x_byteAt3 (mget τ 5) (nI i)))), (3, .int (nI i)), (0, .ref (ad 0)), (1, .ref (ad 5))]) hx hb dX5_readFrom_93 rfl hl (by decide) rfl (fun ls hl => ?_)
                  refine lv_iinc (v := (nI (i + 1))) (lv' := [(3, .int (nI (i + 1))), (2, .int (x_sortOf5 (x_byteAt3 (mget τ 5) (nI i)))), (5, .int 0), (4, .int (x_sortOf5 (x_byteAt3 (mget τ 5) (nI i)))), (0, .ref (ad 0)), (1, .ref (ad 5))]) hx hb dX5_readFrom_94 hl (k := 3) rfl (by exact nI_1 _) (by decide) rfl (fun ls hl => ?_)
                  refine lv_goto (tgt := 10) hx hb dX5_readFrom_97 (by decide) ?_
                  exact ih10 (i + 1) ((x_sortOf5 (x_byteAt3 (mget τ 5) (nI i)))) ((x_takeUp5 (x_begin5 τ (x_sortOf5 (x_byteAt3 (mget τ 5) (nI i))) (nI i)) (x_byteAt3 (mget (x_begin5 τ (x_sortOf5 (x_byteAt3 (mget τ 5) (nI i))) (nI i)) 5) (nI i)) (nI i))) _ _ _ (by omega) (by rw [tu_5 (Or.inl (by decide)), bg_5 (by decide)]; exact hT1) (kz_bt (by omega) _ _ _ _ hZ) (by rw [hres10, x_readFrom5_L10, if_pos c3, if_neg c8, if_neg c11, if_neg c13]) hP hS (lv_sub hl [0, 1, 4, 5] rfl)
          · refine lv_iconst (v := 1) hx hb dX5_readFrom_48 (by decide) ?_
            refine lv_goto (tgt := 53) hx hb dX5_readFrom_49 (by decide) ?_
            refine lv_istore (lv' := [(5, .int 1), (4, .int (x_sortOf5 (x_byteAt3 (mget τ 5) (nI i)))), (3, .int (nI i)), (2, .int before), (0, .ref (ad 0)), (1, .ref (ad 5))]) hx hb dX5_readFrom_53 hl (by decide) rfl (fun ls hl => ?_)
            refine lv_iload hx hb dX5_readFrom_55 (lv_at hl 0 rfl) ?_
            refine lv_if_ne (tgt := 74) hx hb dX5_readFrom_57 (by decide) (fun c16 => ?_) (fun c16 => ?_)
            · refine lv_iload hx hb dX5_readFrom_74 (lv_at hl 1 rfl) ?_
              refine lv_bipush (v := 18) hx hb dX5_readFrom_76 (by decide) ?_
              refine lv_icmp_eq (tgt := 91) hx hb dX5_readFrom_78 (by decide) (fun c17 => ?_) (fun c17 => ?_)
              · refine lv_iload hx hb dX5_readFrom_91 (lv_at hl 1 rfl) ?_
                refine lv_istore_n (lv' := [(2, .int (x_sortOf5 (x_byteAt3 (mget τ 5) (nI i)))), (5, .int 1), (4, .int (x_sortOf5 (x_byteAt3 (mget τ 5) (nI i)))), (3, .int (nI i)), (0, .ref (ad 0)), (1, .ref (ad 5))]) hx hb dX5_readFrom_93 rfl hl (by decide) rfl (fun ls hl => ?_)
                refine lv_iinc (v := (nI (i + 1))) (lv' := [(3, .int (nI (i + 1))), (2, .int (x_sortOf5 (x_byteAt3 (mget τ 5) (nI i)))), (5, .int 1), (4, .int (x_sortOf5 (x_byteAt3 (mget τ 5) (nI i)))), (0, .ref (ad 0)), (1, .ref (ad 5))]) hx hb dX5_readFrom_94 hl (k := 3) rfl (by exact nI_1 _) (by decide) rfl (fun ls hl => ?_)
                refine lv_goto (tgt := 10) hx hb dX5_readFrom_97 (by decide) ?_
                exact ih10 (i + 1) ((x_sortOf5 (x_byteAt3 (mget τ 5) (nI i)))) τ _ _ _ (by omega) hT1 (kz_0 hZ) (by rw [hres10, x_readFrom5_L10, if_pos c3, if_neg c8, if_pos c11, if_pos c17]) hP hS (lv_sub hl [0, 1, 4, 5] rfl)
              · refine lv_aload_n hx hb dX5_readFrom_81 rfl (lv_at hl 4 rfl) ?_
                refine lv_aload_n hx hb dX5_readFrom_82 rfl (lv_at hl 5 rfl) ?_
                refine lv_iload_n hx hb dX5_readFrom_83 rfl (lv_at hl 2 rfl) ?_
                refine g_rd (g_runV (As := [.int (nI i)]) (rest := [.ref (ad 0)]) ky_yX3_byteAt lk_RX5_33 C hX (gS_b0 hI hS) (hP.sub (sh1 := (shP G (fun q_ => ad (5 + q_)))) 5 2 (by omega) (shK_tape G ad)) 0 (c_yX3_byteAt l G (fun q_ => ad (5 + q_)) (hI.sub (m := 2) 5 (by omega)) (mget τ 5) (nI i) T hT hT1) (by decide) (shP_0 G (fun q_ => ad (5 + q_)) _) ⟨rfl, rfl, by decide, by decide⟩ rfl hl.1 rfl (Nat.le_of_ble_eq_true rfl) ⟨Nat.zero_le _, Nat.zero_le _⟩ dX5_readFrom_84) ?_
                refine lv_iload_n hx hb dX5_readFrom_87 rfl (lv_at hl 2 rfl) ?_
                refine g_wrV0 hS (g_runV (As := [.int (x_byteAt3 (mget τ 5) (nI i)), .int (nI i)]) (rest := []) ky_yX5_takeUp lk_RX5_44 C hX (gS_b0 hI hS) hP 0 (c_yX5_takeUp l G ad hI τ (x_byteAt3 (mget τ 5) (nI i)) (nI i)) (by decide) (shK_0 G ad _) ⟨rfl, rfl, by decide, by decide⟩ rfl hl.1 rfl (Nat.le_of_ble_eq_true rfl) ⟨Nat.zero_le _, Nat.zero_le _⟩ dX5_readFrom_88) (fun H locs hP hS => ?_)
                refine lv_iload hx hb dX5_readFrom_91 (lv_at hl 1 rfl) ?_
                refine lv_istore_n (lv' := [(2, .int (x_sortOf5 (x_byteAt3 (mget τ 5) (nI i)))), (5, .int 1), (4, .int (x_sortOf5 (x_byteAt3 (mget τ 5) (nI i)))), (3, .int (nI i)), (0, .ref (ad 0)), (1, .ref (ad 5))]) hx hb dX5_readFrom_93 rfl hl (by decide) rfl (fun ls hl => ?_)
                refine lv_iinc (v := (nI (i + 1))) (lv' := [(3, .int (nI (i + 1))), (2, .int (x_sortOf5 (x_byteAt3 (mget τ 5) (nI i)))), (5, .int 1), (4, .int (x_sortOf5 (x_byteAt3 (mget τ 5) (nI i)))), (0, .ref (ad 0)), (1, .ref (ad 5))]) hx hb dX5_readFrom_94 hl (k := 3) rfl (by exact nI_1 _) (by decide) rfl (fun ls hl => ?_)
                refine lv_goto (tgt := 10) hx hb dX5_readFrom_97 (by decide) ?_
                exact ih10 (i + 1) ((x_sortOf5 (x_byteAt3 (mget τ 5) (nI i)))) ((x_takeUp5 τ (x_byteAt3 (mget τ 5) (nI i)) (nI i))) _ _ _ (by omega) (by rw [tu_5 (Or.inl (by decide))]; exact hT1) (kz_t _ _ hZ) (by rw [hres10, x_readFrom5_L10, if_pos c3, if_neg c8, if_pos c11, if_neg c17]) hP hS (lv_sub hl [0, 1, 4, 5] rfl)
            · exact absurd c16 (by decide)
