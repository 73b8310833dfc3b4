theorem cm_L {σ : gM} {kind room : Int32} : ∀ (n i : Nat) (τ : gM), (m_comes_L10 σ kind room n i τ).1 = nI (nN (σ 1 0)) ∧ (∀ k, k ≠ 1 → (m_comes_L10 σ kind room n i τ).2 k = τ k) ∧ (m_comes_L10 σ kind room n i τ).2 1 0 = τ 1 0 + 1 ∧ ∀ j, 1 ≤ j → j < 9 → (m_comes_L10 σ kind room n i τ).2 1 j = τ 1 j := by
  intro n
  induction n with
  | zero =>
    intro i τ
    rw [m_comes_L10]
    refine ⟨rfl, fun k hk => ?_, ?_, fun j h1 h2 => ?_⟩
    · dsimp only
      rw [mset_ne _ _ _ hk, sets_row hk, sets_row hk, sets_row hk]
    · dsimp only
      rw [mset_at]
      unfold upd
      rw [if_pos rfl, sets_lo (by decide), sets_lo (by decide), sets_lo (by decide)]
    · dsimp only
      rw [mset_at]
      unfold upd
      rw [if_neg (by omega), sets_lo h2, sets_lo h2, sets_lo h2]
  | succ n ih =>
    intro i τ
    rw [m_comes_L10]
    obtain ⟨h1, h2, h3, h4⟩ := ih (i + 1) (m_sets τ (nN (σ 1 0)) i 0)
    exact ⟨h1, fun k hk => by rw [h2 k hk, sets_row hk], by rw [h3, sets_lo (by decide)], fun j a b => by rw [h4 j a b, sets_lo b]⟩
theorem cm_1 (σ : gM) (kind room : Int32) : (m_comes σ kind room).1 = nI (nN (σ 1 0)) := (cm_L _ _ _).1
theorem cm_row (σ : gM) (kind room : Int32) {k : Nat} (hk : k ≠ 1) : (m_comes σ kind room).2 k = σ k := (cm_L _ _ _).2.1 k hk
theorem cm_N (σ : gM) (kind room : Int32) : (m_comes σ kind room).2 1 0 = σ 1 0 + 1 := (cm_L _ _ _).2.2.1
theorem px_comes {σ : gM} {T a0 N : Nat} {kind room : Int32} (px : PX T a0 σ) (hs : σ 1 0 = nI N) (hlt : N < 8) : PX T a0 (m_comes σ kind room).2 := px_of px (fun j _ => by rw [cm_row _ _ _ (by decide)]) ⟨N + 1, by omega, by rw [cm_N, hs]; exact nI_1 N⟩

theorem ph_nx {σ : gM} {T : Nat} {w : Int64} {g what : Nat} (hT : T ≤ 120) (nx : NX T σ) : NX T (m_perhaps σ w g what) := by
  unfold m_perhaps
  split
  · exact nx
  · split
    · exact nx
    · unfold m_perhaps_m1 m_perhaps_m2
      have p2 := nh_nx (most := m_mostOf (nI what)) hT (next_nx hT nx)
      split
      · exact p2
      · exact nx_of p2 (fun j _ => by rw [sets_row (by decide)])

def m_gloveHere_m5 (σ : gM) (kind : Int32) (σ1 : gM) (σ2 : gM) (gv : Int32) (σ3 : gM) (σ4 : gM) (σ5 : gM) : gM := (m_perhaps σ5 242911 (nN gv) 4)
def m_gloveHere_m4 (σ : gM) (kind : Int32) (σ1 : gM) (σ2 : gM) (gv : Int32) (σ3 : gM) (σ4 : gM) : gM := (m_gloveHere_m5 σ kind σ1 σ2 gv σ3 σ4 (m_perhaps σ4 6132988 (nN gv) 3))
def m_gloveHere_m3 (σ : gM) (kind : Int32) (σ1 : gM) (σ2 : gM) (gv : Int32) (σ3 : gM) : gM := (m_gloveHere_m4 σ kind σ1 σ2 gv σ3 (m_perhaps σ3 307058 (nN gv) 2))
def m_gloveHere_m2 (σ : gM) (kind : Int32) (σ1 : gM) (σ2 : gM) (gv : Int32) : gM := (m_gloveHere_m3 σ kind σ1 σ2 gv (m_perhaps σ2 257 (nN gv) 1))
def m_gloveHere_m1 (σ : gM) (kind : Int32) (σ1 : gM) : gM := (m_gloveHere_m2 σ kind σ1 (m_comes σ1 kind 0).2 (m_comes σ1 kind 0).1)
def m_gloveHere (σ : gM) (kind : Int32) : gM := if (σ 1 0) = 8 then (m_wrongHere σ) else (m_gloveHere_m1 σ kind (m_next σ))
def rm_yX7_gloveHere : Room := { frames := 4, cells := 0, slots := 0, locals := 89 }
set_option maxHeartbeats 4000000 in
set_option maxRecDepth 100000 in
theorem c_yX7_gloveHere (l : Launch) (G : gG) (ad : Nat → Nat) (hI : gI G.2.2.1 11 ad) (σ : gM) (kind : Int32) (N : Nat) (T : Nat) (hN : N ≤ 8) (hs : σ 1 0 = nI N) (hT : T ≤ 120) (nx : NX T σ) : gMutV l yX7_gloveHere cX7_gloveHere 3 none rm_yX7_gloveHere G [.ref (ad 0), .int kind] 11 ad (shM G ad) σ (m_gloveHere σ kind) := by
  refine g_start [.ref (ad 0), .int kind] (by decide +kernel) (Nat.le_of_ble_eq_true rfl) ?_
  intro p e s m below meth c ls B Z hl
  obtain ⟨C, hr, hlk⟩ := B
  have hx := C.1
  have hb := C.2.1
  obtain ⟨hX, hP⟩ := Z
  have hS : va_S (gA 11 ad) s.heap s.heap [] := va_S.rf
  revert hP hS
  intro hP hS
  have hl : lv_has ls 3 [(0, .ref (ad 0)), (1, .int kind)] := hl
  refine lv_aload_n hx hb dX7_gloveHere_0 rfl (lv_at hl 0 rfl) ?_
  refine g_get fd_RX7_7 C hX hP 0 (by decide) (shM_0 G ad _) (v := .ref (ad 1)) rfl dX7_gloveHere_1 ?_
  refine lv_iconst (v := 0) hx hb dX7_gloveHere_4 (by decide) ?_
  refine lv_as (y := nI 0) rfl ?_
  refine g_iald C hX hP 1 (by decide) (shM_1 G ad _) 0 (by omega) (by decide) dX7_gloveHere_5 ?_
  refine lv_bipush (v := 8) hx hb dX7_gloveHere_6 (by decide) ?_
  refine lv_icmp_ne (tgt := 16) hx hb dX7_gloveHere_8 (by decide) (fun c1 => ?_) (fun c1 => ?_)
  · have hlt : N < 8 := Nat.lt_of_le_of_ne hN (fun e => c1 (by rw [hs, e]; rfl))
    refine lv_aload_n hx hb dX7_gloveHere_16 rfl (lv_at hl 0 rfl) ?_
    refine g_wrV0 hS (g_runV (As := []) (rest := []) ky_yX7_next lk_RX7_262 C hX (gS_b0 hI hS) hP 0 (c_yX7_next l G ad hI σ  T hT nx.1 nx.2.1) (by decide) (shM_0 G ad _) ⟨rfl, rfl, by decide, by decide⟩ rfl hl.1 rfl (Nat.le_of_ble_eq_true rfl) ⟨Nat.zero_le _, Nat.zero_le _⟩ dX7_gloveHere_17) (fun H locs hP hS => ?_)
    obtain ⟨σ1, eσ1⟩ : ∃ τ_ : gM, τ_ = (m_next σ) := ⟨_, rfl⟩
    rw [← eσ1] at hP
    have nx1 : NX T σ1 := by rw [eσ1]; exact next_nx hT nx
    have hs1 : σ1 1 0 = nI N := by rw [eσ1, next_row hT nx.1 nx.2.1 (by decide)]; exact hs
    refine lv_aload_n hx hb dX7_gloveHere_20 rfl (lv_at hl 0 rfl) ?_
    refine lv_iload_n hx hb dX7_gloveHere_21 rfl (lv_at hl 1 rfl) ?_
    refine lv_iconst (v := 0) hx hb dX7_gloveHere_22 (by decide) ?_
    refine g_wrI0 hS (g_runV (As := [.int kind, .int 0]) (rest := []) ky_yX7_comes lk_RX7_135 C hX (gS_b0 hI hS) hP 0 (c_yX7_comes l G ad hI σ1 kind 0 N hN hs1 hlt) (by decide) (shM_0 G ad _) ⟨rfl, rfl, by decide, by decide⟩ rfl hl.1 rfl (Nat.le_of_ble_eq_true rfl) ⟨Nat.zero_le _, Nat.zero_le _⟩ dX7_gloveHere_23) (fun H locs hP hS => ?_)
    obtain ⟨σ2, eσ2⟩ : ∃ τ_ : gM, τ_ = (m_comes σ1 kind 0).2 := ⟨_, rfl⟩
    rw [← eσ2] at hP
    have nx2 : NX T σ2 := by rw [eσ2]; exact nx_of nx1 (fun j _ => by rw [cm_row _ _ _ (by decide)])
    obtain ⟨gv, egv⟩ : ∃ z : Int32, z = (m_comes σ1 kind 0).1 := ⟨_, rfl⟩
    refine lv_as (y := gv) egv.symm ?_
    have hgv : gv = nI (nN gv) ∧ nN gv < 8 := by rw [egv, cm_1, hs1, nN_nI (by omega), nN_nI (by omega)]; exact ⟨rfl, hlt⟩
    refine lv_istore_n (lv' := [(2, .int gv), (0, .ref (ad 0)), (1, .int kind)]) hx hb dX7_gloveHere_26 rfl hl (by decide) rfl (fun ls hl => ?_)
    refine lv_aload_n hx hb dX7_gloveHere_27 rfl (lv_at hl 1 rfl) ?_
    refine lv_ldc2 hx hb C.2.2.2.1 (C.2.2.2.2 _ kc_RX7_268) dX7_gloveHere_28 ?_
    refine lv_iload_n hx hb dX7_gloveHere_31 rfl (lv_at hl 0 rfl) ?_
    refine lv_as (y := (nI (nN gv))) hgv.1 ?_
    refine lv_iconst (v := 1) hx hb dX7_gloveHere_32 (by decide) ?_
    refine g_wrV0 hS (g_runV (As := [.long 257, .int (nI (nN gv)), .int 1]) (rest := []) ky_yX7_perhaps lk_RX7_270 C hX (gS_b0 hI hS) hP 0 (c_yX7_perhaps l G ad hI σ2 257 (nN gv) 1 T hT nx2 hgv.2 (by decide)) (by decide) (shM_0 G ad _) ⟨rfl, rfl, by decide, by decide⟩ rfl hl.1 rfl (Nat.le_of_ble_eq_true rfl) ⟨Nat.zero_le _, Nat.zero_le _⟩ dX7_gloveHere_33) (fun H locs hP hS => ?_)
    obtain ⟨σ3, eσ3⟩ : ∃ τ_ : gM, τ_ = (m_perhaps σ2 257 (nN gv) 1) := ⟨_, rfl⟩
    rw [← eσ3] at hP
    have nx3 : NX T σ3 := by rw [eσ3]; exact ph_nx hT nx2
    refine lv_aload_n hx hb dX7_gloveHere_36 rfl (lv_at hl 1 rfl) ?_
    refine lv_ldc2 hx hb C.2.2.2.1 (C.2.2.2.2 _ kc_RX7_274) dX7_gloveHere_37 ?_
    refine lv_iload_n hx hb dX7_gloveHere_40 rfl (lv_at hl 0 rfl) ?_
    refine lv_as (y := (nI (nN gv))) hgv.1 ?_
    refine lv_iconst (v := 2) hx hb dX7_gloveHere_41 (by decide) ?_
    refine g_wrV0 hS (g_runV (As := [.long 307058, .int (nI (nN gv)), .int 2]) (rest := []) ky_yX7_perhaps lk_RX7_270 C hX (gS_b0 hI hS) hP 0 (c_yX7_perhaps l G ad hI σ3 307058 (nN gv) 2 T hT nx3 hgv.2 (by decide)) (by decide) (shM_0 G ad _) ⟨rfl, rfl, by decide, by decide⟩ rfl hl.1 rfl (Nat.le_of_ble_eq_true rfl) ⟨Nat.zero_le _, Nat.zero_le _⟩ dX7_gloveHere_42) (fun H locs hP hS => ?_)
    obtain ⟨σ4, eσ4⟩ : ∃ τ_ : gM, τ_ = (m_perhaps σ3 307058 (nN gv) 2) := ⟨_, rfl⟩
    rw [← eσ4] at hP
    have nx4 : NX T σ4 := by rw [eσ4]; exact ph_nx hT nx3
    refine lv_aload_n hx hb dX7_gloveHere_45 rfl (lv_at hl 1 rfl) ?_
    refine lv_ldc2 hx hb C.2.2.2.1 (C.2.2.2.2 _ kc_RX7_276) dX7_gloveHere_46 ?_
    refine lv_iload_n hx hb dX7_gloveHere_49 rfl (lv_at hl 0 rfl) ?_
    refine lv_as (y := (nI (nN gv))) hgv.1 ?_
    refine lv_iconst (v := 3) hx hb dX7_gloveHere_50 (by decide) ?_
    refine g_wrV0 hS (g_runV (As := [.long 6132988, .int (nI (nN gv)), .int 3]) (rest := []) ky_yX7_perhaps lk_RX7_270 C hX (gS_b0 hI hS) hP 0 (c_yX7_perhaps l G ad hI σ4 6132988 (nN gv) 3 T hT nx4 hgv.2 (by decide)) (by decide) (shM_0 G ad _) ⟨rfl, rfl, by decide, by decide⟩ rfl hl.1 rfl (Nat.le_of_ble_eq_true rfl) ⟨Nat.zero_le _, Nat.zero_le _⟩ dX7_gloveHere_51) (fun H locs hP hS => ?_)
    obtain ⟨σ5, eσ5⟩ : ∃ τ_ : gM, τ_ = (m_perhaps σ4 6132988 (nN gv) 3) := ⟨_, rfl⟩
    rw [← eσ5] at hP
    have nx5 : NX T σ5 := by rw [eσ5]; exact ph_nx hT nx4
    refine lv_aload_n hx hb dX7_gloveHere_54 rfl (lv_at hl 1 rfl) ?_
    refine lv_ldc2 hx hb C.2.2.2.1 (C.2.2.2.2 _ kc_RX7_278) dX7_gloveHere_55 ?_
    refine lv_iload_n hx hb dX7_gloveHere_58 rfl (lv_at hl 0 rfl) ?_
    refine lv_as (y := (nI (nN gv))) hgv.1 ?_
    refine lv_iconst (v := 4) hx hb dX7_gloveHere_59 (by decide) ?_
    refine g_wrV0 hS (g_runV (As := [.long 242911, .int (nI (nN gv)), .int 4]) (rest := []) ky_yX7_perhaps lk_RX7_270 C hX (gS_b0 hI hS) hP 0 (c_yX7_perhaps l G ad hI σ5 242911 (nN gv) 4 T hT nx5 hgv.2 (by decide)) (by decide) (shM_0 G ad _) ⟨rfl, rfl, by decide, by decide⟩ rfl hl.1 rfl (Nat.le_of_ble_eq_true rfl) ⟨Nat.zero_le _, Nat.zero_le _⟩ dX7_gloveHere_60) (fun H locs hP hS => ?_)
    exact g_vretM C hr hlk (by rw [m_gloveHere, if_neg c1, ← eσ1, m_gloveHere_m1, ← eσ2, ← egv, m_gloveHere_m2, ← eσ3, m_gloveHere_m3, ← eσ4, m_gloveHere_m4, ← eσ5, m_gloveHere_m5]) hP hS dX7_gloveHere_63
  · refine lv_aload_n hx hb dX7_gloveHere_11 rfl (lv_at hl 0 rfl) ?_
    refine g_wrV0 hS (g_runV (As := []) (rest := []) ky_yX7_wrongHere lk_RX7_259 C hX (gS_b0 hI hS) hP 0 (c_yX7_wrongHere l G ad hI σ ) (by decide) (shM_0 G ad _) ⟨rfl, rfl, by decide, by decide⟩ rfl hl.1 rfl (Nat.le_of_ble_eq_true rfl) ⟨Nat.zero_le _, Nat.zero_le _⟩ dX7_gloveHere_12) (fun H locs hP hS => ?_)
    exact g_vretM C hr hlk (by rw [m_gloveHere, if_pos c1]) hP hS dX7_gloveHere_15

def m_saidHere_m5 (σ : gM) (σ1 : gM) (σ2 : gM) (iv : Int32) (σ3 : gM) (rv : Int32) (σ4 : gM) (tv : Int32) (σ5 : gM) (lv : Int32) : gM := if 0 ≤ (σ5 0 6) then σ5 else (mset σ5 1 (3 + nN iv) (((1000 * rv) + (10 * tv)) + lv))
def m_saidHere_m4 (σ : gM) (σ1 : gM) (σ2 : gM) (iv : Int32) (σ3 : gM) (rv : Int32) (σ4 : gM) (tv : Int32) : gM := if 0 ≤ (σ4 0 6) then σ4 else (m_saidHere_m5 σ σ1 σ2 iv σ3 rv σ4 tv (m_numberHere σ4 9).2 (m_numberHere σ4 9).1)
def m_saidHere_m3 (σ : gM) (σ1 : gM) (σ2 : gM) (iv : Int32) (σ3 : gM) (rv : Int32) : gM := if 0 ≤ (σ3 0 6) then σ3 else (m_saidHere_m4 σ σ1 σ2 iv σ3 rv (m_numberHere σ3 15).2 (m_numberHere σ3 15).1)
def m_saidHere_m2 (σ : gM) (σ1 : gM) (σ2 : gM) (iv : Int32) : gM := if 0 ≤ (σ2 0 6) then σ2 else (m_saidHere_m3 σ σ1 σ2 iv (m_numberHere σ2 5).2 (m_numberHere σ2 5).1)
def m_saidHere_m1 (σ : gM) (σ1 : gM) : gM := (m_saidHere_m2 σ σ1 (m_numberHere σ1 5).2 (m_numberHere σ1 5).1)
def m_saidHere (σ : gM) : gM := (m_saidHere_m1 σ (m_next σ))
def rm_yX7_saidHere : Room := { frames := 3, cells := 0, slots := 0, locals := 64 }
set_option maxHeartbeats 4000000 in
set_option maxRecDepth 100000 in
theorem c_yX7_saidHere (l : Launch) (G : gG) (ad : Nat → Nat) (hI : gI G.2.2.1 11 ad) (σ : gM) (N : Nat) (T : Nat) (hN : N ≤ 8) (hs : σ 1 0 = nI N) (hT : T ≤ 120) (nx : NX T σ) : gMutV l yX7_saidHere cX7_saidHere 5 none rm_yX7_saidHere G [.ref (ad 0)] 11 ad (shM G ad) σ (m_saidHere σ) := by
  refine g_start [.ref (ad 0)] (by decide +kernel) (Nat.le_of_ble_eq_true rfl) ?_
  intro p e s m below meth c ls B Z hl
  obtain ⟨C, hr, hlk⟩ := B
  have hx := C.1
  have hb := C.2.1
  obtain ⟨hX, hP⟩ := Z
  have hS : va_S (gA 11 ad) s.heap s.heap [] := va_S.rf
  revert hP hS
  intro hP hS
  have hl : lv_has ls 5 [(0, .ref (ad 0))] := hl
  refine lv_aload_n hx hb dX7_saidHere_0 rfl (lv_at hl 0 rfl) ?_
  refine g_wrV0 hS (g_runV (As := []) (rest := []) ky_yX7_next lk_RX7_262 C hX (gS_b0 hI hS) hP 0 (c_yX7_next l G ad hI σ  T hT nx.1 nx.2.1) (by decide) (shM_0 G ad _) ⟨rfl, rfl, by decide, by decide⟩ rfl hl.1 rfl (Nat.le_of_ble_eq_true rfl) ⟨Nat.zero_le _, Nat.zero_le _⟩ dX7_saidHere_1) (fun H locs hP hS => ?_)
  obtain ⟨σ1, eσ1⟩ : ∃ τ_ : gM, τ_ = (m_next σ) := ⟨_, rfl⟩
  rw [← eσ1] at hP
  have nx1 : NX T σ1 := by rw [eσ1]; exact next_nx hT nx
  have hs1 : σ1 1 0 = nI N := by rw [eσ1, next_row hT nx.1 nx.2.1 (by decide)]; exact hs
  refine lv_aload_n hx hb dX7_saidHere_4 rfl (lv_at hl 0 rfl) ?_
  refine lv_iconst (v := 5) hx hb dX7_saidHere_5 (by decide) ?_
  refine g_wrI0 hS (g_runV (As := [.int 5]) (rest := []) ky_yX7_numberHere lk_RX7_265 C hX (gS_b0 hI hS) hP 0 (c_yX7_numberHere l G ad hI σ1 5 T hT nx1) (by decide) (shM_0 G ad _) ⟨rfl, rfl, by decide, by decide⟩ rfl hl.1 rfl (Nat.le_of_ble_eq_true rfl) ⟨Nat.zero_le _, Nat.zero_le _⟩ dX7_saidHere_6) (fun H locs hP hS => ?_)
  obtain ⟨σ2, eσ2⟩ : ∃ τ_ : gM, τ_ = (m_numberHere σ1 5).2 := ⟨_, rfl⟩
  rw [← eσ2] at hP
  have nx2 : NX T σ2 := by rw [eσ2]; exact nh_nx hT nx1
  obtain ⟨iv, eiv⟩ : ∃ z : Int32, z = (m_numberHere σ1 5).1 := ⟨_, rfl⟩
  refine lv_as (y := iv) eiv.symm ?_
  refine lv_istore_n (lv' := [(1, .int iv), (0, .ref (ad 0))]) hx hb dX7_saidHere_9 rfl hl (by decide) rfl (fun ls hl => ?_)
  refine lv_aload_n hx hb dX7_saidHere_10 rfl (lv_at hl 1 rfl) ?_
  refine g_get fd_RX7_238 C hX hP 0 (by decide) (shM_0 G ad _) (v := .int (σ2 0 6)) rfl dX7_saidHere_11 ?_
  refine lv_if_ge (tgt := 25) hx hb dX7_saidHere_14 (by decide) (fun c1 => ?_) (fun c1 => ?_)
  · have f14 := c1
    refine lv_iconst (v := 0) hx hb dX7_saidHere_25 (by decide) ?_
    refine lv_istore_n (lv' := [(2, .int 0), (1, .int iv), (0, .ref (ad 0))]) hx hb dX7_saidHere_26 rfl hl (by decide) rfl (fun ls hl => ?_)
    refine lv_aload_n hx hb dX7_saidHere_27 rfl (lv_at hl 2 rfl) ?_
    refine g_get fd_RX7_238 C hX hP 0 (by decide) (shM_0 G ad _) (v := .int (σ2 0 6)) rfl dX7_saidHere_28 ?_
    refine lv_if_ge (tgt := 43) hx hb dX7_saidHere_31 (by decide) (fun c2 => ?_) (fun c2 => ?_)
    · refine lv_iconst (v := 0) hx hb dX7_saidHere_43 (by decide) ?_
      refine lv_istore_n (lv' := [(3, .int 0), (2, .int 0), (1, .int iv), (0, .ref (ad 0))]) hx hb dX7_saidHere_44 rfl hl (by decide) rfl (fun ls hl => ?_)
      refine lv_aload_n hx hb dX7_saidHere_45 rfl (lv_at hl 3 rfl) ?_
      refine g_get fd_RX7_238 C hX hP 0 (by decide) (shM_0 G ad _) (v := .int (σ2 0 6)) rfl dX7_saidHere_46 ?_
      refine lv_if_ge (tgt := 61) hx hb dX7_saidHere_49 (by decide) (fun c3 => ?_) (fun c3 => ?_)
      · refine lv_iconst (v := 0) hx hb dX7_saidHere_61 (by decide) ?_
        refine lv_istore (lv' := [(4, .int 0), (3, .int 0), (2, .int 0), (1, .int iv), (0, .ref (ad 0))]) hx hb dX7_saidHere_62 hl (by decide) rfl (fun ls hl => ?_)
        refine lv_aload_n hx hb dX7_saidHere_64 rfl (lv_at hl 4 rfl) ?_
        refine g_get fd_RX7_238 C hX hP 0 (by decide) (shM_0 G ad _) (v := .int (σ2 0 6)) rfl dX7_saidHere_65 ?_
        refine lv_if_ge (tgt := 92) hx hb dX7_saidHere_68 (by decide) (fun c4 => ?_) (fun c4 => ?_)
        · exact g_vretM C hr hlk (by rw [m_saidHere, ← eσ1, m_saidHere_m1, ← eσ2, ← eiv, m_saidHere_m2, if_pos c1]) hP hS dX7_saidHere_92
        · exact absurd f14 c4
      · exact absurd f14 c3
    · exact absurd f14 c2
  · have hi := nh_ok (M := 6) nx1 (by decide) (by decide) (show (m_numberHere σ1 5).2 0 6 < 0 by rw [← eσ2]; exact Int32.not_le.mp c1)
    rw [← eiv] at hi
    refine lv_aload_n hx hb dX7_saidHere_17 rfl (lv_at hl 1 rfl) ?_
    refine lv_iconst (v := 5) hx hb dX7_saidHere_18 (by decide) ?_
    refine g_wrI0 hS (g_runV (As := [.int 5]) (rest := []) ky_yX7_numberHere lk_RX7_265 C hX (gS_b0 hI hS) hP 0 (c_yX7_numberHere l G ad hI σ2 5 T hT nx2) (by decide) (shM_0 G ad _) ⟨rfl, rfl, by decide, by decide⟩ rfl hl.1 rfl (Nat.le_of_ble_eq_true rfl) ⟨Nat.zero_le _, Nat.zero_le _⟩ dX7_saidHere_19) (fun H locs hP hS => ?_)
    obtain ⟨σ3, eσ3⟩ : ∃ τ_ : gM, τ_ = (m_numberHere σ2 5).2 := ⟨_, rfl⟩
    rw [← eσ3] at hP
    have nx3 : NX T σ3 := by rw [eσ3]; exact nh_nx hT nx2
    obtain ⟨rv, erv⟩ : ∃ z : Int32, z = (m_numberHere σ2 5).1 := ⟨_, rfl⟩
    refine lv_as (y := rv) erv.symm ?_
    refine lv_goto (tgt := 26) hx hb dX7_saidHere_22 (by decide) ?_
    refine lv_istore_n (lv' := [(2, .int rv), (1, .int iv), (0, .ref (ad 0))]) hx hb dX7_saidHere_26 rfl hl (by decide) rfl (fun ls hl => ?_)
    refine lv_aload_n hx hb dX7_saidHere_27 rfl (lv_at hl 2 rfl) ?_
    refine g_get fd_RX7_238 C hX hP 0 (by decide) (shM_0 G ad _) (v := .int (σ3 0 6)) rfl dX7_saidHere_28 ?_
    refine lv_if_ge (tgt := 43) hx hb dX7_saidHere_31 (by decide) (fun c5 => ?_) (fun c5 => ?_)
    · have f31 := c5
      refine lv_iconst (v := 0) hx hb dX7_saidHere_43 (by decide) ?_
      refine lv_istore_n (lv' := [(3, .int 0), (2, .int rv), (1, .int iv), (0, .ref (ad 0))]) hx hb dX7_saidHere_44 rfl hl (by decide) rfl (fun ls hl => ?_)
      refine lv_aload_n hx hb dX7_saidHere_45 rfl (lv_at hl 3 rfl) ?_
      refine g_get fd_RX7_238 C hX hP 0 (by decide) (shM_0 G ad _) (v := .int (σ3 0 6)) rfl dX7_saidHere_46 ?_
      refine lv_if_ge (tgt := 61) hx hb dX7_saidHere_49 (by decide) (fun c6 => ?_) (fun c6 => ?_)
      · refine lv_iconst (v := 0) hx hb dX7_saidHere_61 (by decide) ?_
        refine lv_istore (lv' := [(4, .int 0), (3, .int 0), (2, .int rv), (1, .int iv), (0, .ref (ad 0))]) hx hb dX7_saidHere_62 hl (by decide) rfl (fun ls hl => ?_)
        refine lv_aload_n hx hb dX7_saidHere_64 rfl (lv_at hl 4 rfl) ?_
        refine g_get fd_RX7_238 C hX hP 0 (by decide) (shM_0 G ad _) (v := .int (σ3 0 6)) rfl dX7_saidHere_65 ?_
        refine lv_if_ge (tgt := 92) hx hb dX7_saidHere_68 (by decide) (fun c7 => ?_) (fun c7 => ?_)
        · exact g_vretM C hr hlk (by rw [m_saidHere, ← eσ1, m_saidHere_m1, ← eσ2, ← eiv, m_saidHere_m2, if_neg c1, ← eσ3, ← erv, m_saidHere_m3, if_pos c5]) hP hS dX7_saidHere_92
        · exact absurd f31 c7
      · exact absurd f31 c6
    · refine lv_aload_n hx hb dX7_saidHere_34 rfl (lv_at hl 2 rfl) ?_
      refine lv_bipush (v := 15) hx hb dX7_saidHere_35 (by decide) ?_
      refine g_wrI0 hS (g_runV (As := [.int 15]) (rest := []) ky_yX7_numberHere lk_RX7_265 C hX (gS_b0 hI hS) hP 0 (c_yX7_numberHere l G ad hI σ3 15 T hT nx3) (by decide) (shM_0 G ad _) ⟨rfl, rfl, by decide, by decide⟩ rfl hl.1 rfl (Nat.le_of_ble_eq_true rfl) ⟨Nat.zero_le _, Nat.zero_le _⟩ dX7_saidHere_37) (fun H locs hP hS => ?_)
      obtain ⟨σ4, eσ4⟩ : ∃ τ_ : gM, τ_ = (m_numberHere σ3 15).2 := ⟨_, rfl⟩
      rw [← eσ4] at hP
      have nx4 : NX T σ4 := by rw [eσ4]; exact nh_nx hT nx3
      obtain ⟨tv, etv⟩ : ∃ z : Int32, z = (m_numberHere σ3 15).1 := ⟨_, rfl⟩
      refine lv_as (y := tv) etv.symm ?_
      refine lv_goto (tgt := 44) hx hb dX7_saidHere_40 (by decide) ?_
      refine lv_istore_n (lv' := [(3, .int tv), (2, .int rv), (1, .int iv), (0, .ref (ad 0))]) hx hb dX7_saidHere_44 rfl hl (by decide) rfl (fun ls hl => ?_)
      refine lv_aload_n hx hb dX7_saidHere_45 rfl (lv_at hl 3 rfl) ?_
      refine g_get fd_RX7_238 C hX hP 0 (by decide) (shM_0 G ad _) (v := .int (σ4 0 6)) rfl dX7_saidHere_46 ?_
      refine lv_if_ge (tgt := 61) hx hb dX7_saidHere_49 (by decide) (fun c8 => ?_) (fun c8 => ?_)
      · have f49 := c8
        refine lv_iconst (v := 0) hx hb dX7_saidHere_61 (by decide) ?_
        refine lv_istore (lv' := [(4, .int 0), (3, .int tv), (2, .int rv), (1, .int iv), (0, .ref (ad 0))]) hx hb dX7_saidHere_62 hl (by decide) rfl (fun ls hl => ?_)
        refine lv_aload_n hx hb dX7_saidHere_64 rfl (lv_at hl 4 rfl) ?_
        refine g_get fd_RX7_238 C hX hP 0 (by decide) (shM_0 G ad _) (v := .int (σ4 0 6)) rfl dX7_saidHere_65 ?_
        refine lv_if_ge (tgt := 92) hx hb dX7_saidHere_68 (by decide) (fun c9 => ?_) (fun c9 => ?_)
        · exact g_vretM C hr hlk (by rw [m_saidHere, ← eσ1, m_saidHere_m1, ← eσ2, ← eiv, m_saidHere_m2, if_neg c1, ← eσ3, ← erv, m_saidHere_m3, if_neg c5, ← eσ4, ← etv, m_saidHere_m4, if_pos c8]) hP hS dX7_saidHere_92
        · exact absurd f49 c9
      · refine lv_aload_n hx hb dX7_saidHere_52 rfl (lv_at hl 3 rfl) ?_
        refine lv_bipush (v := 9) hx hb dX7_saidHere_53 (by decide) ?_
        refine g_wrI0 hS (g_runV (As := [.int 9]) (rest := []) ky_yX7_numberHere lk_RX7_265 C hX (gS_b0 hI hS) hP 0 (c_yX7_numberHere l G ad hI σ4 9 T hT nx4) (by decide) (shM_0 G ad _) ⟨rfl, rfl, by decide, by decide⟩ rfl hl.1 rfl (Nat.le_of_ble_eq_true rfl) ⟨Nat.zero_le _, Nat.zero_le _⟩ dX7_saidHere_55) (fun H locs hP hS => ?_)
        obtain ⟨σ5, eσ5⟩ : ∃ τ_ : gM, τ_ = (m_numberHere σ4 9).2 := ⟨_, rfl⟩
        rw [← eσ5] at hP
        have nx5 : NX T σ5 := by rw [eσ5]; exact nh_nx hT nx4
        obtain ⟨lv, elv⟩ : ∃ z : Int32, z = (m_numberHere σ4 9).1 := ⟨_, rfl⟩
        refine lv_as (y := lv) elv.symm ?_
        refine lv_goto (tgt := 62) hx hb dX7_saidHere_58 (by decide) ?_
        refine lv_istore (lv' := [(4, .int lv), (3, .int tv), (2, .int rv), (1, .int iv), (0, .ref (ad 0))]) hx hb dX7_saidHere_62 hl (by decide) rfl (fun ls hl => ?_)
        refine lv_aload_n hx hb dX7_saidHere_64 rfl (lv_at hl 4 rfl) ?_
        refine g_get fd_RX7_238 C hX hP 0 (by decide) (shM_0 G ad _) (v := .int (σ5 0 6)) rfl dX7_saidHere_65 ?_
        refine lv_if_ge (tgt := 92) hx hb dX7_saidHere_68 (by decide) (fun c10 => ?_) (fun c10 => ?_)
        · exact g_vretM C hr hlk (by rw [m_saidHere, ← eσ1, m_saidHere_m1, ← eσ2, ← eiv, m_saidHere_m2, if_neg c1, ← eσ3, ← erv, m_saidHere_m3, if_neg c5, ← eσ4, ← etv, m_saidHere_m4, if_neg c8, ← eσ5, ← elv, m_saidHere_m5, if_pos c10]) hP hS dX7_saidHere_92
        · refine lv_aload_n hx hb dX7_saidHere_71 rfl (lv_at hl 4 rfl) ?_
          refine g_get fd_RX7_7 C hX hP 0 (by decide) (shM_0 G ad _) (v := .ref (ad 1)) rfl dX7_saidHere_72 ?_
          refine lv_iconst (v := 3) hx hb dX7_saidHere_75 (by decide) ?_
          refine lv_iload_n hx hb dX7_saidHere_76 rfl (lv_at hl 3 rfl) ?_
          refine lv_iadd hx hb dX7_saidHere_77 ?_
          refine lv_as (y := (nI (3 + nN iv))) ((congrArg (fun z => 3 + z) hi.1).trans (ix_3 _)) ?_
          refine lv_sipush (v := 1000) hx hb dX7_saidHere_78 (by decide) ?_
          refine lv_iload_n hx hb dX7_saidHere_81 rfl (lv_at hl 2 rfl) ?_
          refine lv_imul hx hb dX7_saidHere_82 ?_
          refine lv_bipush (v := 10) hx hb dX7_saidHere_83 (by decide) ?_
          refine lv_iload_n hx hb dX7_saidHere_85 rfl (lv_at hl 1 rfl) ?_
          refine lv_imul hx hb dX7_saidHere_86 ?_
          refine lv_iadd hx hb dX7_saidHere_87 ?_
          refine lv_iload hx hb dX7_saidHere_88 (lv_at hl 0 rfl) ?_
          refine lv_iadd hx hb dX7_saidHere_90 ?_
          refine g_iast C hX hI hP hS 1 (by decide) (shM_1 G ad _) (3 + nN iv) (by omega) (by decide) (upd (σ5 1) (3 + nN iv) (((1000 * rv) + (10 * tv)) + lv)) rfl dX7_saidHere_91 (fun H locs hP hS => ?_)
          have hP : gP G.1 11 ad (gE (shM G ad) (mset σ5 1 (3 + nN iv) (((1000 * rv) + (10 * tv)) + lv))) H := hP
          exact g_vretM C hr hlk (by rw [m_saidHere, ← eσ1, m_saidHere_m1, ← eσ2, ← eiv, m_saidHere_m2, if_neg c1, ← eσ3, ← erv, m_saidHere_m3, if_neg c5, ← eσ4, ← etv, m_saidHere_m4, if_neg c8, ← eσ5, ← elv, m_saidHere_m5, if_neg c10]) hP hS dX7_saidHere_92

def m_handHere_m3 (σ : gM) (σ1 : gM) (σ2 : gM) (gv : Int32) (σ3 : gM) (tv : Int32) : gM := if 0 ≤ (σ3 0 6) then σ3 else (m_sets σ3 (nN gv) 5 tv)
def m_handHere_m2 (σ : gM) (σ1 : gM) (σ2 : gM) (gv : Int32) : gM := if 0 ≤ (σ2 0 6) then σ2 else (m_handHere_m3 σ σ1 σ2 gv (m_numberHere σ2 65535).2 (m_numberHere σ2 65535).1)
def m_handHere_m1 (σ : gM) (σ1 : gM) : gM := (m_handHere_m2 σ σ1 (m_numberHere σ1 ((σ1 1 0) - 1)).2 (m_numberHere σ1 ((σ1 1 0) - 1)).1)
def m_handHere (σ : gM) : gM := (m_handHere_m1 σ (m_next σ))
def rm_yX7_handHere : Room := { frames := 3, cells := 0, slots := 0, locals := 64 }
set_option maxHeartbeats 4000000 in
set_option maxRecDepth 100000 in
theorem c_yX7_handHere (l : Launch) (G : gG) (ad : Nat → Nat) (hI : gI G.2.2.1 11 ad) (σ : gM) (N : Nat) (T : Nat) (hN : N ≤ 8) (hs : σ 1 0 = nI N) (hT : T ≤ 120) (nx : NX T σ) : gMutV l yX7_handHere cX7_handHere 3 none rm_yX7_handHere G [.ref (ad 0)] 11 ad (shM G ad) σ (m_handHere σ) := by
  refine g_start [.ref (ad 0)] (by decide +kernel) (Nat.le_of_ble_eq_true rfl) ?_
  intro p e s m below meth c ls B Z hl
  obtain ⟨C, hr, hlk⟩ := B
  have hx := C.1
  have hb := C.2.1
  obtain ⟨hX, hP⟩ := Z
  have hS : va_S (gA 11 ad) s.heap s.heap [] := va_S.rf
  revert hP hS
  intro hP hS
  have hl : lv_has ls 3 [(0, .ref (ad 0))] := hl
  refine lv_aload_n hx hb dX7_handHere_0 rfl (lv_at hl 0 rfl) ?_
  refine g_wrV0 hS (g_runV (As := []) (rest := []) ky_yX7_next lk_RX7_262 C hX (gS_b0 hI hS) hP 0 (c_yX7_next l G ad hI σ  T hT nx.1 nx.2.1) (by decide) (shM_0 G ad _) ⟨rfl, rfl, by decide, by decide⟩ rfl hl.1 rfl (Nat.le_of_ble_eq_true rfl) ⟨Nat.zero_le _, Nat.zero_le _⟩ dX7_handHere_1) (fun H locs hP hS => ?_)
  obtain ⟨σ1, eσ1⟩ : ∃ τ_ : gM, τ_ = (m_next σ) := ⟨_, rfl⟩
  rw [← eσ1] at hP
  have nx1 : NX T σ1 := by rw [eσ1]; exact next_nx hT nx
  have hs1 : σ1 1 0 = nI N := by rw [eσ1, next_row hT nx.1 nx.2.1 (by decide)]; exact hs
  refine lv_aload_n hx hb dX7_handHere_4 rfl (lv_at hl 0 rfl) ?_
  refine lv_aload_n hx hb dX7_handHere_5 rfl (lv_at hl 0 rfl) ?_
  refine g_get fd_RX7_7 C hX hP 0 (by decide) (shM_0 G ad _) (v := .ref (ad 1)) rfl dX7_handHere_6 ?_
  refine lv_iconst (v := 0) hx hb dX7_handHere_9 (by decide) ?_
  refine lv_as (y := nI 0) rfl ?_
  refine g_iald C hX hP 1 (by decide) (shM_1 G ad _) 0 (by omega) (by decide) dX7_handHere_10 ?_
  refine lv_iconst (v := 1) hx hb dX7_handHere_11 (by decide) ?_
  refine lv_isub hx hb dX7_handHere_12 ?_
  refine g_wrI0 hS (g_runV (As := [.int ((σ1 1 0) - 1)]) (rest := []) ky_yX7_numberHere lk_RX7_265 C hX (gS_b0 hI hS) hP 0 (c_yX7_numberHere l G ad hI σ1 ((σ1 1 0) - 1) T hT nx1) (by decide) (shM_0 G ad _) ⟨rfl, rfl, by decide, by decide⟩ rfl hl.1 rfl (Nat.le_of_ble_eq_true rfl) ⟨Nat.zero_le _, Nat.zero_le _⟩ dX7_handHere_13) (fun H locs hP hS => ?_)
  obtain ⟨σ2, eσ2⟩ : ∃ τ_ : gM, τ_ = (m_numberHere σ1 ((σ1 1 0) - 1)).2 := ⟨_, rfl⟩
  rw [← eσ2] at hP
  have nx2 : NX T σ2 := by rw [eσ2]; exact nh_nx hT nx1
  obtain ⟨gv, egv⟩ : ∃ z : Int32, z = (m_numberHere σ1 ((σ1 1 0) - 1)).1 := ⟨_, rfl⟩
  refine lv_as (y := gv) egv.symm ?_
  refine lv_istore_n (lv' := [(1, .int gv), (0, .ref (ad 0))]) hx hb dX7_handHere_16 rfl hl (by decide) rfl (fun ls hl => ?_)
  refine lv_aload_n hx hb dX7_handHere_17 rfl (lv_at hl 1 rfl) ?_
  refine g_get fd_RX7_238 C hX hP 0 (by decide) (shM_0 G ad _) (v := .int (σ2 0 6)) rfl dX7_handHere_18 ?_
  refine lv_if_ge (tgt := 33) hx hb dX7_handHere_21 (by decide) (fun c1 => ?_) (fun c1 => ?_)
  · have f21 := c1
    refine lv_iconst (v := 0) hx hb dX7_handHere_33 (by decide) ?_
    refine lv_istore_n (lv' := [(2, .int 0), (1, .int gv), (0, .ref (ad 0))]) hx hb dX7_handHere_34 rfl hl (by decide) rfl (fun ls hl => ?_)
    refine lv_aload_n hx hb dX7_handHere_35 rfl (lv_at hl 2 rfl) ?_
    refine g_get fd_RX7_238 C hX hP 0 (by decide) (shM_0 G ad _) (v := .int (σ2 0 6)) rfl dX7_handHere_36 ?_
    refine lv_if_ge (tgt := 49) hx hb dX7_handHere_39 (by decide) (fun c2 => ?_) (fun c2 => ?_)
    · exact g_vretM C hr hlk (by rw [m_handHere, ← eσ1, m_handHere_m1, ← eσ2, ← egv, m_handHere_m2, if_pos c1]) hP hS dX7_handHere_49
    · exact absurd f21 c2
  · have hi := nh_ok (M := 8) (most := (σ1 1 0) - 1) nx1 (by rw [hs1, show (1 : Int32) = nI 1 from rfl, pk_sub_toInt (by omega) (by decide)]; omega) (by decide) (show (m_numberHere σ1 ((σ1 1 0) - 1)).2 0 6 < 0 by rw [← eσ2]; exact Int32.not_le.mp c1)
    rw [← egv] at hi
    refine lv_aload_n hx hb dX7_handHere_24 rfl (lv_at hl 1 rfl) ?_
    refine lv_ldc hx hb C.2.2.2.1 (C.2.2.2.2 _ kc_RX7_143) dX7_handHere_25 ?_
    refine g_wrI0 hS (g_runV (As := [.int 65535]) (rest := []) ky_yX7_numberHere lk_RX7_265 C hX (gS_b0 hI hS) hP 0 (c_yX7_numberHere l G ad hI σ2 65535 T hT nx2) (by decide) (shM_0 G ad _) ⟨rfl, rfl, by decide, by decide⟩ rfl hl.1 rfl (Nat.le_of_ble_eq_true rfl) ⟨Nat.zero_le _, Nat.zero_le _⟩ dX7_handHere_27) (fun H locs hP hS => ?_)
    obtain ⟨σ3, eσ3⟩ : ∃ τ_ : gM, τ_ = (m_numberHere σ2 65535).2 := ⟨_, rfl⟩
    rw [← eσ3] at hP
    have nx3 : NX T σ3 := by rw [eσ3]; exact nh_nx hT nx2
    obtain ⟨tv, etv⟩ : ∃ z : Int32, z = (m_numberHere σ2 65535).1 := ⟨_, rfl⟩
    refine lv_as (y := tv) etv.symm ?_
    refine lv_goto (tgt := 34) hx hb dX7_handHere_30 (by decide) ?_
    refine lv_istore_n (lv' := [(2, .int tv), (1, .int gv), (0, .ref (ad 0))]) hx hb dX7_handHere_34 rfl hl (by decide) rfl (fun ls hl => ?_)
    refine lv_aload_n hx hb dX7_handHere_35 rfl (lv_at hl 2 rfl) ?_
    refine g_get fd_RX7_238 C hX hP 0 (by decide) (shM_0 G ad _) (v := .int (σ3 0 6)) rfl dX7_handHere_36 ?_
    refine lv_if_ge (tgt := 49) hx hb dX7_handHere_39 (by decide) (fun c3 => ?_) (fun c3 => ?_)
    · exact g_vretM C hr hlk (by rw [m_handHere, ← eσ1, m_handHere_m1, ← eσ2, ← egv, m_handHere_m2, if_neg c1, ← eσ3, ← etv, m_handHere_m3, if_pos c3]) hP hS dX7_handHere_49
    · refine lv_aload_n hx hb dX7_handHere_42 rfl (lv_at hl 2 rfl) ?_
      refine lv_iload_n hx hb dX7_handHere_43 rfl (lv_at hl 1 rfl) ?_
      refine lv_as (y := (nI (nN gv))) hi.1 ?_
      refine lv_iconst (v := 5) hx hb dX7_handHere_44 (by decide) ?_
      refine lv_iload_n hx hb dX7_handHere_45 rfl (lv_at hl 0 rfl) ?_
      refine g_wrV0 hS (g_runV (As := [.int (nI (nN gv)), .int 5, .int tv]) (rest := []) ky_yX7_sets lk_RX7_90 C hX (gS_b0 hI hS) hP 0 (c_yX7_sets l G ad hI σ3 (nN gv) 5 tv hi.2 (by decide)) (by decide) (shM_0 G ad _) ⟨rfl, rfl, by decide, by decide⟩ rfl hl.1 rfl (Nat.le_of_ble_eq_true rfl) ⟨Nat.zero_le _, Nat.zero_le _⟩ dX7_handHere_46) (fun H locs hP hS => ?_)
      exact g_vretM C hr hlk (by rw [m_handHere, ← eσ1, m_handHere_m1, ← eσ2, ← egv, m_handHere_m2, if_neg c1, ← eσ3, ← etv, m_handHere_m3, if_neg c3]) hP hS dX7_handHere_49

def m_item (σ : gM) : gM := if (m_kindHere σ) < 0 then (if (m_isWord σ 374953) = 0 then (if (m_isWord σ 158575) = 0 then (m_wrongHere σ) else (m_handHere σ)) else (m_saidHere σ)) else (m_gloveHere σ (m_kindHere σ))
def rm_yX7_item : Room := { frames := 5, cells := 0, slots := 0, locals := 111 }
set_option maxHeartbeats 4000000 in
set_option maxRecDepth 100000 in
theorem c_yX7_item (l : Launch) (G : gG) (ad : Nat → Nat) (hI : gI G.2.2.1 11 ad) (σ : gM) (N : Nat) (T : Nat) (hN : N ≤ 8) (hs : σ 1 0 = nI N) (hT : T ≤ 120) (nx : NX T σ) : gMutV l yX7_item cX7_item 2 none rm_yX7_item G [.ref (ad 0)] 11 ad (shM G ad) σ (m_item σ) := by
  refine g_start [.ref (ad 0)] (by decide +kernel) (Nat.le_of_ble_eq_true rfl) ?_
  intro p e s m below meth c ls B Z hl
  obtain ⟨C, hr, hlk⟩ := B
  have hx := C.1
  have hb := C.2.1
  obtain ⟨hX, hP⟩ := Z
  have hS : va_S (gA 11 ad) s.heap s.heap [] := va_S.rf
  revert hP hS
  intro hP hS
  have hl : lv_has ls 2 [(0, .ref (ad 0))] := hl
  refine lv_aload_n hx hb dX7_item_0 rfl (lv_at hl 0 rfl) ?_
  refine g_rd (g_runV (As := []) (rest := []) ky_yX7_kindHere lk_RX7_280 C hX (gS_b0 hI hS) hP 0 (c_yX7_kindHere l G ad hI σ ) (by decide) (shM_0 G ad _) ⟨rfl, rfl, by decide, by decide⟩ rfl hl.1 rfl (Nat.le_of_ble_eq_true rfl) ⟨Nat.zero_le _, Nat.zero_le _⟩ dX7_item_1) ?_
  refine lv_istore_n (lv' := [(1, .int (m_kindHere σ)), (0, .ref (ad 0))]) hx hb dX7_item_4 rfl hl (by decide) rfl (fun ls hl => ?_)
  refine lv_iload_n hx hb dX7_item_5 rfl (lv_at hl 0 rfl) ?_
  refine lv_if_lt (tgt := 17) hx hb dX7_item_6 (by decide) (fun c1 => ?_) (fun c1 => ?_)
  · refine lv_aload_n hx hb dX7_item_17 rfl (lv_at hl 1 rfl) ?_
    refine lv_ldc2 hx hb C.2.2.2.1 (C.2.2.2.2 _ kc_RX7_286) dX7_item_18 ?_
    refine g_rd (g_runV (As := [.long 374953]) (rest := []) ky_yX7_isWord lk_RX7_243 C hX (gS_b0 hI hS) hP 0 (c_yX7_isWord l G ad hI σ 374953) (by decide) (shM_0 G ad _) ⟨rfl, rfl, by decide, by decide⟩ rfl hl.1 rfl (Nat.le_of_ble_eq_true rfl) ⟨Nat.zero_le _, Nat.zero_le _⟩ dX7_item_21) ?_
    refine lv_if_eq (tgt := 34) hx hb dX7_item_24 (by decide) (fun c2 => ?_) (fun c2 => ?_)
    · refine lv_aload_n hx hb dX7_item_34 rfl (lv_at hl 1 rfl) ?_
      refine lv_ldc2 hx hb C.2.2.2.1 (C.2.2.2.2 _ kc_RX7_291) dX7_item_35 ?_
      refine g_rd (g_runV (As := [.long 158575]) (rest := []) ky_yX7_isWord lk_RX7_243 C hX (gS_b0 hI hS) hP 0 (c_yX7_isWord l G ad hI σ 158575) (by decide) (shM_0 G ad _) ⟨rfl, rfl, by decide, by decide⟩ rfl hl.1 rfl (Nat.le_of_ble_eq_true rfl) ⟨Nat.zero_le _, Nat.zero_le _⟩ dX7_item_38) ?_
      refine lv_if_eq (tgt := 51) hx hb dX7_item_41 (by decide) (fun c3 => ?_) (fun c3 => ?_)
      · refine lv_aload_n hx hb dX7_item_51 rfl (lv_at hl 1 rfl) ?_
        refine g_wrV0 hS (g_runV (As := []) (rest := []) ky_yX7_wrongHere lk_RX7_259 C hX (gS_b0 hI hS) hP 0 (c_yX7_wrongHere l G ad hI σ ) (by decide) (shM_0 G ad _) ⟨rfl, rfl, by decide, by decide⟩ rfl hl.1 rfl (Nat.le_of_ble_eq_true rfl) ⟨Nat.zero_le _, Nat.zero_le _⟩ dX7_item_52) (fun H locs hP hS => ?_)
        exact g_vretM C hr hlk (by rw [m_item, if_pos c1, if_pos c2, if_pos c3]) hP hS dX7_item_55
      · refine lv_aload_n hx hb dX7_item_44 rfl (lv_at hl 1 rfl) ?_
        refine g_wrV0 hS (g_runV (As := []) (rest := []) ky_yX7_handHere lk_RX7_293 C hX (gS_b0 hI hS) hP 0 (c_yX7_handHere l G ad hI σ  N T hN hs hT nx) (by decide) (shM_0 G ad _) ⟨rfl, rfl, by decide, by decide⟩ rfl hl.1 rfl (Nat.le_of_ble_eq_true rfl) ⟨Nat.zero_le _, Nat.zero_le _⟩ dX7_item_45) (fun H locs hP hS => ?_)
        refine lv_goto (tgt := 55) hx hb dX7_item_48 (by decide) ?_
        exact g_vretM C hr hlk (by rw [m_item, if_pos c1, if_pos c2, if_neg c3]) hP hS dX7_item_55
    · refine lv_aload_n hx hb dX7_item_27 rfl (lv_at hl 1 rfl) ?_
      refine g_wrV0 hS (g_runV (As := []) (rest := []) ky_yX7_saidHere lk_RX7_288 C hX (gS_b0 hI hS) hP 0 (c_yX7_saidHere l G ad hI σ  N T hN hs hT nx) (by decide) (shM_0 G ad _) ⟨rfl, rfl, by decide, by decide⟩ rfl hl.1 rfl (Nat.le_of_ble_eq_true rfl) ⟨Nat.zero_le _, Nat.zero_le _⟩ dX7_item_28) (fun H locs hP hS => ?_)
      refine lv_goto (tgt := 55) hx hb dX7_item_31 (by decide) ?_
      exact g_vretM C hr hlk (by rw [m_item, if_pos c1, if_neg c2]) hP hS dX7_item_55
  · refine lv_aload_n hx hb dX7_item_9 rfl (lv_at hl 1 rfl) ?_
    refine lv_iload_n hx hb dX7_item_10 rfl (lv_at hl 0 rfl) ?_
    refine g_wrV0 hS (g_runV (As := [.int (m_kindHere σ)]) (rest := []) ky_yX7_gloveHere lk_RX7_283 C hX (gS_b0 hI hS) hP 0 (c_yX7_gloveHere l G ad hI σ (m_kindHere σ) N T hN hs hT nx) (by decide) (shM_0 G ad _) ⟨rfl, rfl, by decide, by decide⟩ rfl hl.1 rfl (Nat.le_of_ble_eq_true rfl) ⟨Nat.zero_le _, Nat.zero_le _⟩ dX7_item_11) (fun H locs hP hS => ?_)
    refine lv_goto (tgt := 55) hx hb dX7_item_14 (by decide) ?_
    exact g_vretM C hr hlk (by rw [m_item, if_neg c1]) hP hS dX7_item_55

theorem px_glove {σ : gM} {T a0 N : Nat} {kind : Int32} (hT : T ≤ 120) (hN : N ≤ 8) (hs : σ 1 0 = nI N) (px : PX T a0 σ) : PX T a0 (m_gloveHere σ kind) := by
  unfold m_gloveHere
  split
  · exact px_wrong px
  · rename_i c
    have hlt : N < 8 := Nat.lt_of_le_of_ne hN (fun e => c (by rw [hs, e]; rfl))
    have p1 := px_next hT px
    have hs1 : (m_next σ) 1 0 = nI N := by rw [next_row hT px.1.1 px.1.2.1 (by decide)]; exact hs
    have p2 := px_comes (kind := kind) (room := 0) p1 hs1 hlt
    unfold m_gloveHere_m1 m_gloveHere_m2 m_gloveHere_m3 m_gloveHere_m4 m_gloveHere_m5
    exact (ph_0 hT (ph_0 hT (ph_0 hT (ph_0 hT p2).1).1).1).1
theorem px_said {σ : gM} {T a0 N : Nat} (hT : T ≤ 120) (hN : N ≤ 8) (hs : σ 1 0 = nI N) (px : PX T a0 σ) : PX T a0 (m_saidHere σ) := by
  have p1 := px_next hT px
  have p2 := px_number (most := 5) hT p1
  have p3 := px_number (most := 5) hT p2
  have p4 := px_number (most := 15) hT p3
  have p5 := px_number (most := 9) hT p4
  unfold m_saidHere m_saidHere_m1 m_saidHere_m2
  split
  · exact p2
  · unfold m_saidHere_m3
    split
    · exact p3
    · unfold m_saidHere_m4
      split
      · exact p4
      · unfold m_saidHere_m5
        split
        · exact p5
        · refine px_of p5 (fun j _ => by rw [mset_ne _ _ _ (by decide)]) ?_
          rw [mset_at]
          unfold upd
          rw [if_neg (by omega)]
          exact p5.2.2
theorem px_hand {σ : gM} {T a0 N : Nat} (hT : T ≤ 120) (hN : N ≤ 8) (hs : σ 1 0 = nI N) (px : PX T a0 σ) : PX T a0 (m_handHere σ) := by
  have p1 := px_next hT px
  have p2 := px_number (most := ((m_next σ) 1 0) - 1) hT p1
  have p3 := px_number (most := 65535) hT p2
  unfold m_handHere m_handHere_m1 m_handHere_m2
  split
  · exact p2
  · unfold m_handHere_m3
    split
    · exact p3
    · exact px_of p3 (fun j _ => by rw [sets_row (by decide)]) (by rw [sets_lo (by decide)]; exact p3.2.2)
theorem px_item {σ : gM} {T a0 : Nat} (hT : T ≤ 120) (px : PX T a0 σ) : PX T a0 (m_item σ) := by
  obtain ⟨N, hN, hs⟩ := px.2.2
  unfold m_item
  split
  · split
    · split
      · exact px_wrong px
      · exact px_hand hT hN hs px
    · exact px_said hT hN hs px
  · exact px_glove hT hN hs px

theorem PX.weak {T a0 a1 : Nat} {σ : gM} (px : PX T a0 σ) (h : a1 ≤ a0) : PX T a1 σ := by
  obtain ⟨a, b, c, d, e⟩ := px.2.1
  exact ⟨px.1, ⟨a, b, by omega, d, fun z => by have := e z; omega⟩, px.2.2⟩

def m_items_L20 (σ : gM) (σ1 : gM) (σ2 : gM) : Nat → Int32 → gM → Int32 × gM
  | 0, cnt, τ => (0, σ)
  | n20 + 1, cnt, τ => if 0 ≤ (τ 0 6) then (if 0 ≤ (τ 0 6) then (cnt, τ) else (if (τ 0 4) = 0 then (cnt, τ) else (cnt, (m_wrongHere τ)))) else (if (τ 0 4) = 3 then (m_items_L20 σ σ1 σ2 n20 (cnt + 1) (m_item (m_next τ))) else (if 0 ≤ (τ 0 6) then (cnt, τ) else (if (τ 0 4) = 0 then (cnt, τ) else (cnt, (m_wrongHere τ)))))
def m_items_m2 (σ : gM) (σ1 : gM) (σ2 : gM) : Int32 × gM := (m_items_L20 σ σ1 σ2 (nN (σ 0 1) + 2) 1 σ2)
def m_items_m1 (σ : gM) (σ1 : gM) : Int32 × gM := (m_items_m2 σ σ1 (m_item σ1))
def m_items (σ : gM) : Int32 × gM := (m_items_m1 σ (m_next (mset (mset σ 0 3 0) 0 6 (-1))))
def rm_yX7_items : Room := { frames := 6, cells := 0, slots := 0, locals := 132 }
set_option maxHeartbeats 4000000 in
set_option maxRecDepth 100000 in
theorem c_yX7_items (l : Launch) (G : gG) (ad : Nat → Nat) (hI : gI G.2.2.1 11 ad) (σ : gM) (N : Nat) (T : Nat) (hN : N ≤ 8) (hs : σ 1 0 = nI N) (hT : T ≤ 120) (ht : σ 0 1 = nI T) : gMutI l yX7_items cX7_items 2 (some .int) rm_yX7_items G [.ref (ad 0)] 11 ad (shM G ad) σ (m_items σ) := by
  refine g_start [.ref (ad 0)] (by decide +kernel) (Nat.le_of_ble_eq_true rfl) ?_
  intro p e s m below meth c ls B Z hl
  obtain ⟨C, hr, hlk⟩ := B
  have hx := C.1
  have hb := C.2.1
  obtain ⟨hX, hP⟩ := Z
  have hS : va_S (gA 11 ad) s.heap s.heap [] := va_S.rf
  revert hP hS
  intro hP hS
  have hl : lv_has ls 2 [(0, .ref (ad 0))] := hl
  refine lv_aload_n hx hb dX7_items_0 rfl (lv_at hl 0 rfl) ?_
  refine lv_iconst (v := 0) hx hb dX7_items_1 (by decide) ?_
  refine g_put fd_RX7_208 C hX hI hP hS 0 (by decide) (shM_0 G ad _) rfl rfl (Nat.le_of_ble_eq_true rfl) (upd (σ 0) 3 0) rfl dX7_items_2 (fun H locs hP hS => ?_)
  have hP : gP G.1 11 ad (gE (shM G ad) (mset σ 0 3 0)) H := hP
  refine lv_aload_n hx hb dX7_items_5 rfl (lv_at hl 0 rfl) ?_
  refine lv_iconst (v := (-1)) hx hb dX7_items_6 (by decide) ?_
  refine g_put fd_RX7_238 C hX hI hP hS 0 (by decide) (shM_0 G ad _) rfl rfl (Nat.le_of_ble_eq_true rfl) (upd ((mset σ 0 3 0) 0) 6 (-1)) rfl dX7_items_7 (fun H locs hP hS => ?_)
  have hP : gP G.1 11 ad (gE (shM G ad) (mset (mset σ 0 3 0) 0 6 (-1))) H := hP
  refine lv_aload_n hx hb dX7_items_10 rfl (lv_at hl 0 rfl) ?_
  refine g_wrV0 hS (g_runV (As := []) (rest := []) ky_yX7_next lk_RX7_262 C hX (gS_b0 hI hS) hP 0 (c_yX7_next l G ad hI (mset (mset σ 0 3 0) 0 6 (-1))  T hT (by exact ht) ⟨0, rfl, Nat.zero_le _⟩) (by decide) (shM_0 G ad _) ⟨rfl, rfl, by decide, by decide⟩ rfl hl.1 rfl (Nat.le_of_ble_eq_true rfl) ⟨Nat.zero_le _, Nat.zero_le _⟩ dX7_items_11) (fun H locs hP hS => ?_)
  obtain ⟨σ1, eσ1⟩ : ∃ τ_ : gM, τ_ = (m_next (mset (mset σ 0 3 0) 0 6 (-1))) := ⟨_, rfl⟩
  rw [← eσ1] at hP
  have px1 : PX T 0 σ1 := by rw [eσ1]; exact next_px hT (by exact ht) (a := 0) rfl (Nat.zero_le _) (Nat.le_refl _) ⟨N, hN, hs⟩
  refine lv_aload_n hx hb dX7_items_14 rfl (lv_at hl 0 rfl) ?_
  obtain ⟨N1, hN1, hs1⟩ := px1.2.2
  refine g_wrV0 hS (g_runV (As := []) (rest := []) ky_yX7_item lk_RX7_296 C hX (gS_b0 hI hS) hP 0 (c_yX7_item l G ad hI σ1  N1 T hN1 hs1 hT px1.1) (by decide) (shM_0 G ad _) ⟨rfl, rfl, by decide, by decide⟩ rfl hl.1 rfl (Nat.le_of_ble_eq_true rfl) ⟨Nat.zero_le _, Nat.zero_le _⟩ dX7_items_15) (fun H locs hP hS => ?_)
  obtain ⟨σ2, eσ2⟩ : ∃ τ_ : gM, τ_ = (m_item σ1) := ⟨_, rfl⟩
  rw [← eσ2] at hP
  have px2 : PX T 0 σ2 := by rw [eσ2]; exact px_item hT px1
  refine lv_iconst (v := 1) hx hb dX7_items_18 (by decide) ?_
  refine lv_istore_n (lv' := [(1, .int 1), (0, .ref (ad 0))]) hx hb dX7_items_19 rfl hl (by decide) rfl (fun ls hl => ?_)
  suffices loop20 : ∀ (n20 : Nat) (cnt : Int32) (τ : gM) (H : Heap) (locs : List Loc) (ls : Array Slot), (∃ a, τ 0 3 = nI a ∧ a ≤ T ∧ (τ 0 4 = 3 → T + 2 ≤ a + n20)) → (PX T 0 τ) → (1 ≤ n20) → m_items σ = (m_items_L20 σ σ1 σ2 n20 cnt τ) → gP G.1 11 ad (gE (shM G ad) τ) H → va_S (gA 11 ad) s.heap H locs → lv_has ls 2 [(1, .int cnt), (0, .ref (ad 0))] → W p l e rm_yX7_items s m ([.ref (ad 0)] : List Value).toArray below meth c H locs 0 0 (MQ below (va_Qi (fun (x : Int32) (τ : gM) => m_items σ = (x, τ)) (fun τ t => gP G.1 11 ad (gE (shM G ad) τ) t.heap) (gA 11 ad)) ([.ref (ad 0)] : List Value).toArray s 0 0 (gA 11 ad)) (F0 m 20 ls []) by
    exact loop20 (T + 2) 1 σ2 _ _ _ (by obtain ⟨a, b, -, d, -⟩ := px2.2.1; exact ⟨a, b, d, fun _ => by omega⟩) px2 (by omega) (by rw [m_items, ← eσ1, m_items_m1, ← eσ2, m_items_m2, ht, nN_nI (by omega)]) hP hS (lv_sub hl [0, 1] rfl)
  intro n20
  induction n20 with
  | zero =>
    intro cnt τ H locs ls hq hpx hn1 hres20 hP hS hl
    exact absurd hn1 (by decide)
  | succ n20 ih20 =>
    intro cnt τ H locs ls hq hpx hn1 hres20 hP hS hl
    refine lv_aload_n hx hb dX7_items_20 rfl (lv_at hl 1 rfl) ?_
    refine g_get fd_RX7_238 C hX hP 0 (by decide) (shM_0 G ad _) (v := .int (τ 0 6)) rfl dX7_items_21 ?_
    refine lv_if_ge (tgt := 49) hx hb dX7_items_24 (by decide) (fun c1 => ?_) (fun c1 => ?_)
    · refine lv_aload_n hx hb dX7_items_49 rfl (lv_at hl 1 rfl) ?_
      refine g_get fd_RX7_238 C hX hP 0 (by decide) (shM_0 G ad _) (v := .int (τ 0 6)) rfl dX7_items_50 ?_
      refine lv_if_ge (tgt := 67) hx hb dX7_items_53 (by decide) (fun c2 => ?_) (fun c2 => ?_)
      · refine lv_iload_n hx hb dX7_items_67 rfl (lv_at hl 0 rfl) ?_
        exact g_iretM C hr hlk rfl (by rw [hres20, m_items_L20, if_pos c1, if_pos c2]) hP hS dX7_items_68
      · refine lv_aload_n hx hb dX7_items_56 rfl (lv_at hl 1 rfl) ?_
        refine g_get fd_RX7_221 C hX hP 0 (by decide) (shM_0 G ad _) (v := .int (τ 0 4)) rfl dX7_items_57 ?_
        refine lv_if_eq (tgt := 67) hx hb dX7_items_60 (by decide) (fun c3 => ?_) (fun c3 => ?_)
        · refine lv_iload_n hx hb dX7_items_67 rfl (lv_at hl 0 rfl) ?_
          exact g_iretM C hr hlk rfl (by rw [hres20, m_items_L20, if_pos c1, if_neg c2, if_pos c3]) hP hS dX7_items_68
        · refine lv_aload_n hx hb dX7_items_63 rfl (lv_at hl 1 rfl) ?_
          refine g_wrV0 hS (g_runV (As := []) (rest := []) ky_yX7_wrongHere lk_RX7_259 C hX (gS_b0 hI hS) hP 0 (c_yX7_wrongHere l G ad hI τ ) (by decide) (shM_0 G ad _) ⟨rfl, rfl, by decide, by decide⟩ rfl hl.1 rfl (Nat.le_of_ble_eq_true rfl) ⟨Nat.zero_le _, Nat.zero_le _⟩ dX7_items_64) (fun H locs hP hS => ?_)
          refine lv_iload_n hx hb dX7_items_67 rfl (lv_at hl 0 rfl) ?_
          exact g_iretM C hr hlk rfl (by rw [hres20, m_items_L20, if_pos c1, if_neg c2, if_neg c3]) hP hS dX7_items_68
    · refine lv_aload_n hx hb dX7_items_27 rfl (lv_at hl 1 rfl) ?_
      refine g_get fd_RX7_221 C hX hP 0 (by decide) (shM_0 G ad _) (v := .int (τ 0 4)) rfl dX7_items_28 ?_
      refine lv_iconst (v := 3) hx hb dX7_items_31 (by decide) ?_
      refine lv_icmp_ne (tgt := 49) hx hb dX7_items_32 (by decide) (fun c4 => ?_) (fun c4 => ?_)
      · refine lv_aload_n hx hb dX7_items_49 rfl (lv_at hl 1 rfl) ?_
        refine g_get fd_RX7_238 C hX hP 0 (by decide) (shM_0 G ad _) (v := .int (τ 0 6)) rfl dX7_items_50 ?_
        refine lv_if_ge (tgt := 67) hx hb dX7_items_53 (by decide) (fun c5 => ?_) (fun c5 => ?_)
        · refine lv_iload_n hx hb dX7_items_67 rfl (lv_at hl 0 rfl) ?_
          exact g_iretM C hr hlk rfl (by rw [hres20, m_items_L20, if_neg c1, if_neg c4, if_pos c5]) hP hS dX7_items_68
        · refine lv_aload_n hx hb dX7_items_56 rfl (lv_at hl 1 rfl) ?_
          refine g_get fd_RX7_221 C hX hP 0 (by decide) (shM_0 G ad _) (v := .int (τ 0 4)) rfl dX7_items_57 ?_
          refine lv_if_eq (tgt := 67) hx hb dX7_items_60 (by decide) (fun c6 => ?_) (fun c6 => ?_)
          · refine lv_iload_n hx hb dX7_items_67 rfl (lv_at hl 0 rfl) ?_
            exact g_iretM C hr hlk rfl (by rw [hres20, m_items_L20, if_neg c1, if_neg c4, if_neg c5, if_pos c6]) hP hS dX7_items_68
          · refine lv_aload_n hx hb dX7_items_63 rfl (lv_at hl 1 rfl) ?_
            refine g_wrV0 hS (g_runV (As := []) (rest := []) ky_yX7_wrongHere lk_RX7_259 C hX (gS_b0 hI hS) hP 0 (c_yX7_wrongHere l G ad hI τ ) (by decide) (shM_0 G ad _) ⟨rfl, rfl, by decide, by decide⟩ rfl hl.1 rfl (Nat.le_of_ble_eq_true rfl) ⟨Nat.zero_le _, Nat.zero_le _⟩ dX7_items_64) (fun H locs hP hS => ?_)
            refine lv_iload_n hx hb dX7_items_67 rfl (lv_at hl 0 rfl) ?_
            exact g_iretM C hr hlk rfl (by rw [hres20, m_items_L20, if_neg c1, if_neg c4, if_neg c5, if_neg c6]) hP hS dX7_items_68
      · obtain ⟨a0, hq1, hq2, hq3⟩ := hq
        have hq4 := hq3 c4
        obtain ⟨N', hN', hs'⟩ := hpx.2.2
        refine lv_aload_n hx hb dX7_items_35 rfl (lv_at hl 1 rfl) ?_
        refine g_wrV0 hS (g_runV (As := []) (rest := []) ky_yX7_next lk_RX7_262 C hX (gS_b0 hI hS) hP 0 (c_yX7_next l G ad hI τ  T hT hpx.1.1 hpx.1.2.1) (by decide) (shM_0 G ad _) ⟨rfl, rfl, by decide, by decide⟩ rfl hl.1 rfl (Nat.le_of_ble_eq_true rfl) ⟨Nat.zero_le _, Nat.zero_le _⟩ dX7_items_36) (fun H locs hP hS => ?_)
        obtain ⟨σ3, eσ3⟩ : ∃ τ_ : gM, τ_ = (m_next τ) := ⟨_, rfl⟩
        rw [← eσ3] at hP
        have px3 : PX T a0 σ3 := by rw [eσ3]; exact next_px hT hpx.1.1 hq1 hq2 (Nat.le_refl _) hpx.2.2
        refine lv_aload_n hx hb dX7_items_39 rfl (lv_at hl 1 rfl) ?_
        obtain ⟨N3, hN3, hs3⟩ := px3.2.2
        refine g_wrV0 hS (g_runV (As := []) (rest := []) ky_yX7_item lk_RX7_296 C hX (gS_b0 hI hS) hP 0 (c_yX7_item l G ad hI σ3  N3 T hN3 hs3 hT px3.1) (by decide) (shM_0 G ad _) ⟨rfl, rfl, by decide, by decide⟩ rfl hl.1 rfl (Nat.le_of_ble_eq_true rfl) ⟨Nat.zero_le _, Nat.zero_le _⟩ dX7_items_40) (fun H locs hP hS => ?_)
        obtain ⟨σ4, eσ4⟩ : ∃ τ_ : gM, τ_ = (m_item σ3) := ⟨_, rfl⟩
        rw [← eσ4] at hP
        have px4 : PX T a0 σ4 := by rw [eσ4]; exact px_item hT px3
        refine lv_iinc (v := (cnt + 1)) (lv' := [(1, .int (cnt + 1)), (0, .ref (ad 0))]) hx hb dX7_items_43 hl (k := 0) rfl rfl (by decide) rfl (fun ls hl => ?_)
        refine lv_goto (tgt := 20) hx hb dX7_items_46 (by decide) ?_
        exact ih20 (cnt + 1) σ4 _ _ _ (by obtain ⟨a, b, c, d, e⟩ := px4.2.1; exact ⟨a, b, d, fun z => by have := e z; omega⟩) (px4.weak (Nat.zero_le _)) (by omega) (by rw [hres20, m_items_L20, if_neg c1, if_pos c4, ← eσ3, ← eσ4]) hP hS (lv_sub hl [0, 1] rfl)

def m_text_m2 (σ : gM) (σ1 : gM) (σ2 : gM) (nv : Int32) : Int32 × gM := if (σ2 0 6) < 0 then (nv, (mset σ2 0 1 0)) else (((-1) - ((m_copies (mset σ2 0 1 0) 2 1) 0 6)), (m_copies (mset σ2 0 1 0) 2 1))
def m_text_m1 (σ : gM) (σ1 : gM) : Int32 × gM := (m_text_m2 σ σ1 (m_items σ1).2 (m_items σ1).1)
def m_text (σ : gM) : Int32 × gM := (m_text_m1 σ (m_copies σ 1 2))
def rm_yX7_text : Room := { frames := 7, cells := 0, slots := 0, locals := 153 }
set_option maxHeartbeats 4000000 in
set_option maxRecDepth 100000 in
theorem c_yX7_text (l : Launch) (G : gG) (ad : Nat → Nat) (hI : gI G.2.2.1 11 ad) (σ : gM) (N : Nat) (T : Nat) (hN : N ≤ 8) (hs : σ 1 0 = nI N) (hT : T ≤ 120) (ht : σ 0 1 = nI T) : gMutI l yX7_text cX7_text 2 (some .int) rm_yX7_text G [.ref (ad 0)] 11 ad (shM G ad) σ (m_text σ) := by
  refine g_start [.ref (ad 0)] (by decide +kernel) (Nat.le_of_ble_eq_true rfl) ?_
  intro p e s m below meth c ls B Z hl
  obtain ⟨C, hr, hlk⟩ := B
  have hx := C.1
  have hb := C.2.1
  obtain ⟨hX, hP⟩ := Z
  have hS : va_S (gA 11 ad) s.heap s.heap [] := va_S.rf
  revert hP hS
  intro hP hS
  have hl : lv_has ls 2 [(0, .ref (ad 0))] := hl
  refine lv_aload_n hx hb dX7_text_0 rfl (lv_at hl 0 rfl) ?_
  refine g_get fd_RX7_7 C hX hP 0 (by decide) (shM_0 G ad _) (v := .ref (ad 1)) rfl dX7_text_1 ?_
  refine lv_aload_n hx hb dX7_text_4 rfl (lv_at hl 0 rfl) ?_
  refine g_get fd_RX7_13 C hX hP 0 (by decide) (shM_0 G ad _) (v := .ref (ad 2)) rfl dX7_text_5 ?_
  refine g_wrV0 hS (g_runSW (As := [.ref (ad 1), .ref (ad 2)]) (rest := []) ky_yX7_copies lk_RX7_167 C hX (gS_b0 hI hS) hP (c_yX7_copies l G ad hI σ 1 2 (by decide) (by decide) (fun _ => rfl) (fun _ => rfl)) ⟨rfl, rfl, by decide, by decide⟩ rfl hl.1 rfl (Nat.le_of_ble_eq_true rfl) ⟨Nat.zero_le _, Nat.zero_le _⟩ dX7_text_8) (fun H locs hP hS => ?_)
  obtain ⟨σ1, eσ1⟩ : ∃ τ_ : gM, τ_ = (m_copies σ 1 2) := ⟨_, rfl⟩
  rw [← eσ1] at hP
  have hs1 : σ1 1 0 = nI N := by rw [eσ1, cp_row (by decide) _ (by decide)]; exact hs
  have ht1 : σ1 0 1 = nI T := by rw [eσ1, cp_row (by decide) _ (by decide)]; exact ht
  refine lv_aload_n hx hb dX7_text_11 rfl (lv_at hl 0 rfl) ?_
  refine g_wrI0 hS (g_runV (As := []) (rest := []) ky_yX7_items lk_RX7_299 C hX (gS_b0 hI hS) hP 0 (c_yX7_items l G ad hI σ1  N T hN hs1 hT ht1) (by decide) (shM_0 G ad _) ⟨rfl, rfl, by decide, by decide⟩ rfl hl.1 rfl (Nat.le_of_ble_eq_true rfl) ⟨Nat.zero_le _, Nat.zero_le _⟩ dX7_text_12) (fun H locs hP hS => ?_)
  obtain ⟨σ2, eσ2⟩ : ∃ τ_ : gM, τ_ = (m_items σ1).2 := ⟨_, rfl⟩
  rw [← eσ2] at hP
  obtain ⟨nv, env⟩ : ∃ z : Int32, z = (m_items σ1).1 := ⟨_, rfl⟩
  refine lv_as (y := nv) env.symm ?_
  refine lv_istore_n (lv' := [(1, .int nv), (0, .ref (ad 0))]) hx hb dX7_text_15 rfl hl (by decide) rfl (fun ls hl => ?_)
  refine lv_aload_n hx hb dX7_text_16 rfl (lv_at hl 1 rfl) ?_
  refine lv_iconst (v := 0) hx hb dX7_text_17 (by decide) ?_
  refine g_put fd_RX7_205 C hX hI hP hS 0 (by decide) (shM_0 G ad _) rfl rfl (Nat.le_of_ble_eq_true rfl) (upd (σ2 0) 1 0) rfl dX7_text_18 (fun H locs hP hS => ?_)
  have hP : gP G.1 11 ad (gE (shM G ad) (mset σ2 0 1 0)) H := hP
  refine lv_aload_n hx hb dX7_text_21 rfl (lv_at hl 1 rfl) ?_
  refine g_get fd_RX7_238 C hX hP 0 (by decide) (shM_0 G ad _) (v := .int (σ2 0 6)) rfl dX7_text_22 ?_
  refine lv_if_lt (tgt := 46) hx hb dX7_text_25 (by decide) (fun c1 => ?_) (fun c1 => ?_)
  · refine lv_iload_n hx hb dX7_text_46 rfl (lv_at hl 0 rfl) ?_
    exact g_iretM C hr hlk rfl (by rw [m_text, ← eσ1, m_text_m1, ← eσ2, ← env, m_text_m2, if_pos c1]) hP hS dX7_text_47
  · refine lv_aload_n hx hb dX7_text_28 rfl (lv_at hl 1 rfl) ?_
    refine g_get fd_RX7_13 C hX hP 0 (by decide) (shM_0 G ad _) (v := .ref (ad 2)) rfl dX7_text_29 ?_
    refine lv_aload_n hx hb dX7_text_32 rfl (lv_at hl 1 rfl) ?_
    refine g_get fd_RX7_7 C hX hP 0 (by decide) (shM_0 G ad _) (v := .ref (ad 1)) rfl dX7_text_33 ?_
    refine g_wrV0 hS (g_runSW (As := [.ref (ad 2), .ref (ad 1)]) (rest := []) ky_yX7_copies lk_RX7_167 C hX (gS_b0 hI hS) hP (c_yX7_copies l G ad hI (mset σ2 0 1 0) 2 1 (by decide) (by decide) (fun _ => rfl) (fun _ => rfl)) ⟨rfl, rfl, by decide, by decide⟩ rfl hl.1 rfl (Nat.le_of_ble_eq_true rfl) ⟨Nat.zero_le _, Nat.zero_le _⟩ dX7_text_36) (fun H locs hP hS => ?_)
    refine lv_iconst (v := (-1)) hx hb dX7_text_39 (by decide) ?_
    refine lv_aload_n hx hb dX7_text_40 rfl (lv_at hl 1 rfl) ?_
    refine g_get fd_RX7_238 C hX hP 0 (by decide) (shM_0 G ad _) (v := .int ((m_copies (mset σ2 0 1 0) 2 1) 0 6)) rfl dX7_text_41 ?_
    refine lv_isub hx hb dX7_text_44 ?_
    exact g_iretM C hr hlk rfl (by rw [m_text, ← eσ1, m_text_m1, ← eσ2, ← env, m_text_m2, if_neg c1]) hP hS dX7_text_45
