theorem glv_of {σ : gM} {N : Nat} {g : Int32} (hN : N ≤ 8) (hs : σ 1 0 = nI N) (h : ¬ m_isGlove σ g = 0) : g = nI (nN g) ∧ nN g < N := by
  unfold m_isGlove at h
  rw [hs] at h
  refine in_nat ?_ (by omega) h
  rw [Int32.toInt_toInt64, show (1 : Int32) = nI 1 from rfl, pk_sub_toInt (by omega) (by decide)]
  omega
theorem in_nat1 {x : Int32} {high : Int64} {M : Nat} (hM : high.toInt < M) (hM2 : M < 2 ^ 31) (h : ¬ m_in x.toInt64 1 high = 0) : x = nI (nN x) ∧ nN x < M := by
  obtain ⟨h1, h2⟩ := (in_int _ _ _).mp h
  exact in_nat hM hM2 ((in_int _ _ _).mpr ⟨by have a : (1 : Int64).toInt = 1 := rfl; have b : (0 : Int64).toInt = 0 := rfl; omega, h2⟩)
theorem ix_at {what glove : Int32} (hw : what = nI (nN what)) (hg : glove = nI (nN glove)) : ((9 : Int32) + (8 * what)) + glove = nI (9 + 8 * nN what + nN glove) := by
  have := ix_its (nN what) (nN glove)
  rw [← hw, ← hg] at this
  exact this
theorem cpL {a b : Nat} (hab : a ≠ b) {σ : gM} (k : Nat) : ∀ (n i : Nat) (τ : gM), i + n = 75 → (m_copies_L2 σ a b n i τ) k = if k = b then (fun j => if i ≤ j ∧ j < 75 then τ a j else τ b j) else τ k := by
  intro n
  induction n with
  | zero =>
    intro i τ hi
    rw [m_copies_L2]
    by_cases h : k = b
    · subst h
      rw [if_pos rfl]
      funext j
      rw [if_neg (by omega)]
    · rw [if_neg h]
  | succ n ih =>
    intro i τ hi
    rw [m_copies_L2, ih (i + 1) _ (by omega)]
    by_cases h : k = b
    · subst h
      rw [if_pos rfl, if_pos rfl]
      funext j
      rw [mset_ne _ _ _ hab, mset_at]
      unfold upd
      by_cases h1 : j = i
      · subst h1
        rw [if_neg (by omega), if_pos rfl, if_pos (by omega)]
      · by_cases h2 : i + 1 ≤ j ∧ j < 75
        · rw [if_pos h2, if_pos (by omega)]
        · rw [if_neg h2, if_neg h1, if_neg (by omega)]
    · rw [if_neg h, if_neg h, mset_ne _ _ _ h]
theorem cp_at {a b : Nat} (hab : a ≠ b) (σ : gM) {j : Nat} (hj : j < 75) : (m_copies σ a b) b j = σ a j := by
  unfold m_copies
  rw [cpL hab b 75 0 σ rfl, if_pos rfl, if_pos ⟨Nat.zero_le _, hj⟩]
theorem cp_row {a b : Nat} (hab : a ≠ b) (σ : gM) {k : Nat} (hk : k ≠ b) : (m_copies σ a b) k = σ k := by
  unfold m_copies
  rw [cpL hab k 75 0 σ rfl, if_neg hk]
theorem dysL {σ : gM} {k : Nat} : ∀ (n i : Nat) (τ : gM), (m_daysGo_L2 σ k n i τ) 1 0 = τ 1 0 ∧ (¬ τ 1 1 < 0 → ¬ (m_daysGo_L2 σ k n i τ) 1 1 < 0) ∧ ∀ r, r ≠ 1 → (m_daysGo_L2 σ k n i τ) r = τ r := by
  intro n
  induction n with
  | zero => intro i τ; rw [m_daysGo_L2]; exact ⟨rfl, fun h => h, fun _ _ => rfl⟩
  | succ n ih =>
    intro i τ
    rw [m_daysGo_L2]
    exact ⟨(ih _ _).1.trans (dg_N _), fun _ => (ih _ _).2.1 (dg_D _), fun r hr => ((ih _ _).2.2 r hr).trans (dg_row _ hr)⟩
theorem dys_N (σ : gM) (k : Nat) : (m_daysGo σ k) 1 0 = σ 1 0 := (dysL _ _ _).1
theorem dys_D {σ : gM} (k : Nat) (h : ¬ σ 1 1 < 0) : ¬ (m_daysGo σ k) 1 1 < 0 := (dysL _ _ _).2.1 h
theorem dys_row (σ : gM) (k : Nat) {r : Nat} (hr : r ≠ 1) : (m_daysGo σ k) r = σ r := (dysL _ _ _).2.2 r hr

def m_say (σ : gM) (pl : Int32) (saying : Int32) : Int32 × gM := if (m_isPlace pl) = 0 then ((m_finds σ 0).1, (m_finds σ 0).2) else (if (m_isSaying saying) = 0 then ((m_finds σ 0).1, (m_finds σ 0).2) else ((m_becomes σ (3 + nN pl) saying).1, (m_becomes σ (3 + nN pl) saying).2))
def rm_yX7_say : Room := { frames := 2, cells := 0, slots := 0, locals := 45 }
set_option maxHeartbeats 4000000 in
set_option maxRecDepth 100000 in
theorem c_yX7_say (l : Launch) (G : gG) (ad : Nat → Nat) (hI : gI G.2.2.1 11 ad) (σ : gM) (pl : Int32) (saying : Int32) : gMutI l yX7_say cX7_say 3 (some .int) rm_yX7_say G [.ref (ad 0), .int pl, .int saying] 11 ad (shM G ad) σ (m_say σ pl saying) := by
  refine g_start [.ref (ad 0), .int pl, .int saying] (by decide +kernel) (Nat.le_of_ble_eq_true rfl) ?_
  intro p e s m below meth c ls B Z hl
  obtain ⟨C, hr, hlk⟩ := B
  have hx := C.1
  have hb := C.2.1
  obtain ⟨hX, hP⟩ := Z
  have hS : va_S (gA 11 ad) s.heap s.heap [] := va_S.rf
  revert hP hS
  intro hP hS
  have hl : lv_has ls 3 [(0, .ref (ad 0)), (1, .int pl), (2, .int saying)] := hl
  refine lv_iload_n hx hb dX7_say_0 rfl (lv_at hl 1 rfl) ?_
  refine g_rd (g_runS (As := [.int pl]) (rest := []) ky_yX7_isPlace lk_RX7_119 C (c_yX7_isPlace l pl) ⟨rfl, rfl, by decide, by decide⟩ rfl hl.1 rfl (Nat.le_of_ble_eq_true rfl) ⟨Nat.zero_le _, Nat.zero_le _⟩ dX7_say_1) ?_
  refine lv_if_eq (tgt := 25) hx hb dX7_say_4 (by decide) (fun c1 => ?_) (fun c1 => ?_)
  · refine lv_aload_n hx hb dX7_say_25 rfl (lv_at hl 0 rfl) ?_
    refine lv_iconst (v := 0) hx hb dX7_say_26 (by decide) ?_
    refine g_wrI0 hS (g_runV (As := [.int 0]) (rest := []) ky_yX7_finds lk_RX7_128 C hX (gS_b0 hI hS) hP 0 (c_yX7_finds l G ad hI σ 0 (by decide)) (by decide) (shM_0 G ad _) ⟨rfl, rfl, by decide, by decide⟩ rfl hl.1 rfl (Nat.le_of_ble_eq_true rfl) ⟨Nat.zero_le _, Nat.zero_le _⟩ dX7_say_27) (fun H locs hP hS => ?_)
    exact g_iretM C hr hlk rfl (by rw [m_say, if_pos c1]) hP hS dX7_say_30
  · obtain ⟨hp1, hp2⟩ := in_nat (M := 6) (by decide) (by decide) c1
    refine lv_iload_n hx hb dX7_say_7 rfl (lv_at hl 2 rfl) ?_
    refine g_rd (g_runS (As := [.int saying]) (rest := []) ky_yX7_isSaying lk_RX7_122 C (c_yX7_isSaying l saying) ⟨rfl, rfl, by decide, by decide⟩ rfl hl.1 rfl (Nat.le_of_ble_eq_true rfl) ⟨Nat.zero_le _, Nat.zero_le _⟩ dX7_say_8) ?_
    refine lv_if_eq (tgt := 25) hx hb dX7_say_11 (by decide) (fun c2 => ?_) (fun c2 => ?_)
    · refine lv_aload_n hx hb dX7_say_25 rfl (lv_at hl 0 rfl) ?_
      refine lv_iconst (v := 0) hx hb dX7_say_26 (by decide) ?_
      refine g_wrI0 hS (g_runV (As := [.int 0]) (rest := []) ky_yX7_finds lk_RX7_128 C hX (gS_b0 hI hS) hP 0 (c_yX7_finds l G ad hI σ 0 (by decide)) (by decide) (shM_0 G ad _) ⟨rfl, rfl, by decide, by decide⟩ rfl hl.1 rfl (Nat.le_of_ble_eq_true rfl) ⟨Nat.zero_le _, Nat.zero_le _⟩ dX7_say_27) (fun H locs hP hS => ?_)
      exact g_iretM C hr hlk rfl (by rw [m_say, if_neg c1, if_pos c2]) hP hS dX7_say_30
    · refine lv_aload_n hx hb dX7_say_14 rfl (lv_at hl 0 rfl) ?_
      refine lv_iconst (v := 3) hx hb dX7_say_15 (by decide) ?_
      refine lv_iload_n hx hb dX7_say_16 rfl (lv_at hl 1 rfl) ?_
      refine lv_iadd hx hb dX7_say_17 ?_
      refine lv_as (y := (nI (3 + nN pl))) ((congrArg (fun z => 3 + z) hp1).trans (ix_3 _)) ?_
      refine lv_iload_n hx hb dX7_say_18 rfl (lv_at hl 2 rfl) ?_
      refine g_wrI0 hS (g_runV (As := [.int (nI (3 + nN pl)), .int saying]) (rest := []) ky_yX7_becomes lk_RX7_125 C hX (gS_b0 hI hS) hP 0 (c_yX7_becomes l G ad hI σ (3 + nN pl) saying (by omega)) (by decide) (shM_0 G ad _) ⟨rfl, rfl, by decide, by decide⟩ rfl hl.1 rfl (Nat.le_of_ble_eq_true rfl) ⟨Nat.zero_le _, Nat.zero_le _⟩ dX7_say_19) (fun H locs hP hS => ?_)
      refine lv_goto (tgt := 30) hx hb dX7_say_22 (by decide) ?_
      exact g_iretM C hr hlk rfl (by rw [m_say, if_neg c1, if_neg c2]) hP hS dX7_say_30

def m_said (σ : gM) (pl : Int32) : Int32 × gM := if (m_isPlace pl) = 0 then ((m_finds σ 0).1, (m_finds σ 0).2) else ((σ 1 (3 + nN pl)), σ)
def rm_yX7_said : Room := { frames := 2, cells := 0, slots := 0, locals := 45 }
set_option maxHeartbeats 4000000 in
set_option maxRecDepth 100000 in
theorem c_yX7_said (l : Launch) (G : gG) (ad : Nat → Nat) (hI : gI G.2.2.1 11 ad) (σ : gM) (pl : Int32) : gMutI l yX7_said cX7_said 2 (some .int) rm_yX7_said G [.ref (ad 0), .int pl] 11 ad (shM G ad) σ (m_said σ pl) := by
  refine g_start [.ref (ad 0), .int pl] (by decide +kernel) (Nat.le_of_ble_eq_true rfl) ?_
  intro p e s m below meth c ls B Z hl
  obtain ⟨C, hr, hlk⟩ := B
  have hx := C.1
  have hb := C.2.1
  obtain ⟨hX, hP⟩ := Z
  have hS : va_S (gA 11 ad) s.heap s.heap [] := va_S.rf
  revert hP hS
  intro hP hS
  have hl : lv_has ls 2 [(0, .ref (ad 0)), (1, .int pl)] := hl
  refine lv_iload_n hx hb dX7_said_0 rfl (lv_at hl 1 rfl) ?_
  refine g_rd (g_runS (As := [.int pl]) (rest := []) ky_yX7_isPlace lk_RX7_119 C (c_yX7_isPlace l pl) ⟨rfl, rfl, by decide, by decide⟩ rfl hl.1 rfl (Nat.le_of_ble_eq_true rfl) ⟨Nat.zero_le _, Nat.zero_le _⟩ dX7_said_1) ?_
  refine lv_if_eq (tgt := 18) hx hb dX7_said_4 (by decide) (fun c1 => ?_) (fun c1 => ?_)
  · refine lv_aload_n hx hb dX7_said_18 rfl (lv_at hl 0 rfl) ?_
    refine lv_iconst (v := 0) hx hb dX7_said_19 (by decide) ?_
    refine g_wrI0 hS (g_runV (As := [.int 0]) (rest := []) ky_yX7_finds lk_RX7_128 C hX (gS_b0 hI hS) hP 0 (c_yX7_finds l G ad hI σ 0 (by decide)) (by decide) (shM_0 G ad _) ⟨rfl, rfl, by decide, by decide⟩ rfl hl.1 rfl (Nat.le_of_ble_eq_true rfl) ⟨Nat.zero_le _, Nat.zero_le _⟩ dX7_said_20) (fun H locs hP hS => ?_)
    exact g_iretM C hr hlk rfl (by rw [m_said, if_pos c1]) hP hS dX7_said_23
  · obtain ⟨hp1, hp2⟩ := in_nat (M := 6) (by decide) (by decide) c1
    refine lv_aload_n hx hb dX7_said_7 rfl (lv_at hl 0 rfl) ?_
    refine g_get fd_RX7_7 C hX hP 0 (by decide) (shM_0 G ad _) (v := .ref (ad 1)) rfl dX7_said_8 ?_
    refine lv_iconst (v := 3) hx hb dX7_said_11 (by decide) ?_
    refine lv_iload_n hx hb dX7_said_12 rfl (lv_at hl 1 rfl) ?_
    refine lv_iadd hx hb dX7_said_13 ?_
    refine lv_as (y := (nI (3 + nN pl))) ((congrArg (fun z => 3 + z) hp1).trans (ix_3 _)) ?_
    refine g_iald C hX hP 1 (by decide) (shM_1 G ad _) (3 + nN pl) (by omega) (by decide) dX7_said_14 ?_
    refine lv_goto (tgt := 23) hx hb dX7_said_15 (by decide) ?_
    exact g_iretM C hr hlk rfl (by rw [m_said, if_neg c1]) hP hS dX7_said_23

def m_room_L107 (σ : gM) (room : Int32) (what : Int32) (i : Nat) (acc : Int32) : Nat → Nat → Int32 → Int32 × gM
  | 0, i2, acc2 => (acc2, σ)
  | n107 + 1, i2, acc2 => if ((σ 1 (3 + i2)) / 1000) = room then (m_room_L107 σ room what i acc n107 (i2 + 1) (acc2 ||| (jshl 1 (jrem ((σ 1 (3 + i2)) / 10) 100)))) else (m_room_L107 σ room what i acc n107 (i2 + 1) (acc2 ||| 0))
def m_room_L30 (σ : gM) (room : Int32) (what : Int32) : Nat → Nat → Int32 → Int32 × gM
  | 0, i, acc => if 3 ≤ what then (m_room_L107 σ room what i acc 6 0 0) else (if what = 0 then (acc, σ) else (if what = 1 then ((m_hushIn σ room), σ) else ((m_known σ acc 3), σ)))
  | n30 + 1, i, acc => if (m_isIn σ i room) = 0 then (m_room_L30 σ room what n30 (i + 1) (acc ||| 0)) else (m_room_L30 σ room what n30 (i + 1) (acc ||| (jshl 1 (nI i))))
def m_room (σ : gM) (room : Int32) (what : Int32) : Int32 × gM := if (m_isPlace room) = 0 then ((m_finds σ 0).1, (m_finds σ 0).2) else (if (m_in ((what).toInt64) 0 3) = 0 then ((m_finds σ 0).1, (m_finds σ 0).2) else (m_room_L30 σ room what (nN (σ 1 0)) 0 0))
def rm_yX7_room : Room := { frames := 3, cells := 0, slots := 0, locals := 67 }
set_option maxHeartbeats 4000000 in
set_option maxRecDepth 100000 in
theorem c_yX7_room (l : Launch) (G : gG) (ad : Nat → Nat) (hI : gI G.2.2.1 11 ad) (σ : gM) (room : Int32) (what : Int32) (N : Nat) (hN : N ≤ 8) (hs : σ 1 0 = nI N) : gMutI l yX7_room cX7_room 6 (some .int) rm_yX7_room G [.ref (ad 0), .int room, .int what] 11 ad (shM G ad) σ (m_room σ room what) := by
  refine g_start [.ref (ad 0), .int room, .int what] (by decide +kernel) (Nat.le_of_ble_eq_true rfl) ?_
  intro p e s m below meth c ls B Z hl
  obtain ⟨C, hr, hlk⟩ := B
  have hx := C.1
  have hb := C.2.1
  obtain ⟨hX, hP⟩ := Z
  have hS : va_S (gA 11 ad) s.heap s.heap [] := va_S.rf
  revert hP hS
  intro hP hS
  have hl : lv_has ls 6 [(0, .ref (ad 0)), (1, .int room), (2, .int what)] := hl
  refine lv_iload_n hx hb dX7_room_0 rfl (lv_at hl 1 rfl) ?_
  refine g_rd (g_runS (As := [.int room]) (rest := []) ky_yX7_isPlace lk_RX7_119 C (c_yX7_isPlace l room) ⟨rfl, rfl, by decide, by decide⟩ rfl hl.1 rfl (Nat.le_of_ble_eq_true rfl) ⟨Nat.zero_le _, Nat.zero_le _⟩ dX7_room_1) ?_
  refine lv_if_eq (tgt := 19) hx hb dX7_room_4 (by decide) (fun c1 => ?_) (fun c1 => ?_)
  · refine lv_aload_n hx hb dX7_room_19 rfl (lv_at hl 0 rfl) ?_
    refine lv_iconst (v := 0) hx hb dX7_room_20 (by decide) ?_
    refine g_wrI0 hS (g_runV (As := [.int 0]) (rest := []) ky_yX7_finds lk_RX7_128 C hX (gS_b0 hI hS) hP 0 (c_yX7_finds l G ad hI σ 0 (by decide)) (by decide) (shM_0 G ad _) ⟨rfl, rfl, by decide, by decide⟩ rfl hl.1 rfl (Nat.le_of_ble_eq_true rfl) ⟨Nat.zero_le _, Nat.zero_le _⟩ dX7_room_21) (fun H locs hP hS => ?_)
    exact g_iretM C hr hlk rfl (by rw [m_room, if_pos c1]) hP hS dX7_room_24
  · refine lv_iload_n hx hb dX7_room_7 rfl (lv_at hl 2 rfl) ?_
    refine lv_i2l (v := (what).toInt64) hx hb dX7_room_8 rfl ?_
    refine lv_lconst (v := 0) hx hb dX7_room_9 (by decide) ?_
    refine lv_ldc2 hx hb C.2.2.2.1 (C.2.2.2.2 _ kc_RX7_131) dX7_room_10 ?_
    refine g_rd (g_runS (As := [.long ((what).toInt64), .long 0, .long 3]) (rest := []) ky_yX7_in lk_RX7_42 C (c_yX7_in l ((what).toInt64) 0 3) ⟨rfl, rfl, by decide, by decide⟩ rfl hl.1 rfl (Nat.le_of_ble_eq_true rfl) ⟨Nat.zero_le _, Nat.zero_le _⟩ dX7_room_13) ?_
    refine lv_if_ne (tgt := 25) hx hb dX7_room_16 (by decide) (fun c2 => ?_) (fun c2 => ?_)
    · refine lv_iconst (v := 0) hx hb dX7_room_25 (by decide) ?_
      refine lv_istore_n (lv' := [(3, .int 0), (0, .ref (ad 0)), (1, .int room), (2, .int what)]) hx hb dX7_room_26 rfl hl (by decide) rfl (fun ls hl => ?_)
      refine lv_iconst (v := 0) hx hb dX7_room_27 (by decide) ?_
      refine lv_istore (lv' := [(4, .int 0), (3, .int 0), (0, .ref (ad 0)), (1, .int room), (2, .int what)]) hx hb dX7_room_28 hl (by decide) rfl (fun ls hl => ?_)
      suffices loop30 : ∀ (n30 : Nat) (i : Nat) (acc : Int32) (H : Heap) (locs : List Loc) (ls : Array Slot), (i + n30 = N) → m_room σ room what = (m_room_L30 σ room what n30 i acc) → gP G.1 11 ad (gE (shM G ad) σ) H → va_S (gA 11 ad) s.heap H locs → lv_has ls 6 [(4, .int (nI i)), (3, .int acc), (0, .ref (ad 0)), (1, .int room), (2, .int what)] → W p l e rm_yX7_room s m ([.ref (ad 0), .int room, .int what] : List Value).toArray below meth c H locs 0 0 (MQ below (va_Qi (fun (x : Int32) (τ : gM) => m_room σ room what = (x, τ)) (fun τ t => gP G.1 11 ad (gE (shM G ad) τ) t.heap) (gA 11 ad)) ([.ref (ad 0), .int room, .int what] : List Value).toArray s 0 0 (gA 11 ad)) (F0 m 30 ls []) by
        exact loop30 N 0 0 _ _ _ (by omega) (by rw [m_room, if_neg c1, if_neg c2, hs, nN_nI (by omega)]) hP hS (lv_sub hl [0, 1, 2, 3, 4] rfl)
      intro n30
      induction n30 with
      | zero =>
        intro i acc H locs ls hi30 hres30 hP hS hl
        refine lv_iload hx hb dX7_room_30 (lv_at hl 0 rfl) ?_
        refine lv_aload_n hx hb dX7_room_32 rfl (lv_at hl 2 rfl) ?_
        refine g_get fd_RX7_7 C hX hP 0 (by decide) (shM_0 G ad _) (v := .ref (ad 1)) rfl dX7_room_33 ?_
        refine lv_iconst (v := 0) hx hb dX7_room_36 (by decide) ?_
        refine lv_as (y := nI 0) rfl ?_
        refine g_iald C hX hP 1 (by decide) (shM_1 G ad _) 0 (by omega) (by decide) dX7_room_37 ?_
        refine lv_as (y := (nI N)) hs ?_
        refine lv_icmp_ge (tgt := 68) hx hb dX7_room_38 (by decide) (fun c3 => ?_) (fun c3 => ?_)
        · refine lv_iload_n hx hb dX7_room_68 rfl (lv_at hl 4 rfl) ?_
          refine lv_iconst (v := 3) hx hb dX7_room_69 (by decide) ?_
          refine lv_icmp_ge (tgt := 101) hx hb dX7_room_70 (by decide) (fun c4 => ?_) (fun c4 => ?_)
          · refine lv_iconst (v := 0) hx hb dX7_room_101 (by decide) ?_
            refine lv_istore (lv' := [(4, .int 0), (3, .int acc), (0, .ref (ad 0)), (1, .int room), (2, .int what)]) hx hb dX7_room_102 hl (by decide) rfl (fun ls hl => ?_)
            refine lv_iconst (v := 0) hx hb dX7_room_104 (by decide) ?_
            refine lv_istore (lv' := [(5, .int 0), (4, .int 0), (3, .int acc), (0, .ref (ad 0)), (1, .int room), (2, .int what)]) hx hb dX7_room_105 hl (by decide) rfl (fun ls hl => ?_)
            suffices loop107 : ∀ (n107 : Nat) (i2 : Nat) (acc2 : Int32) (H : Heap) (locs : List Loc) (ls : Array Slot), (i2 + n107 = 6) → m_room σ room what = (m_room_L107 σ room what i acc n107 i2 acc2) → gP G.1 11 ad (gE (shM G ad) σ) H → va_S (gA 11 ad) s.heap H locs → lv_has ls 6 [(5, .int (nI i2)), (4, .int acc2), (3, .int acc), (0, .ref (ad 0)), (1, .int room), (2, .int what)] → W p l e rm_yX7_room s m ([.ref (ad 0), .int room, .int what] : List Value).toArray below meth c H locs 0 0 (MQ below (va_Qi (fun (x : Int32) (τ : gM) => m_room σ room what = (x, τ)) (fun τ t => gP G.1 11 ad (gE (shM G ad) τ) t.heap) (gA 11 ad)) ([.ref (ad 0), .int room, .int what] : List Value).toArray s 0 0 (gA 11 ad)) (F0 m 107 ls []) by
              exact loop107 6 0 0 _ _ _ (by omega) (by rw [hres30, m_room_L30, if_pos c4]) hP hS (lv_sub hl [0, 1, 2, 3, 4, 5] rfl)
            intro n107
            induction n107 with
            | zero =>
              intro i2 acc2 H locs ls hi107 hres107 hP hS hl
              refine lv_iload hx hb dX7_room_107 (lv_at hl 0 rfl) ?_
              refine lv_bipush (v := 6) hx hb dX7_room_109 (by decide) ?_
              refine lv_icmp_ge (tgt := 163) hx hb dX7_room_111 (by decide) (fun c5 => ?_) (fun c5 => ?_)
              · refine lv_iload hx hb dX7_room_163 (lv_at hl 1 rfl) ?_
                exact g_iretM C hr hlk rfl (by rw [hres107, m_room_L107]) hP hS dX7_room_165
              · exact absurd (show nI (6) ≤ nI i2 from nI_le (by omega) (by omega)) c5
            | succ n107 ih107 =>
              intro i2 acc2 H locs ls hi107 hres107 hP hS hl
              refine lv_iload hx hb dX7_room_107 (lv_at hl 0 rfl) ?_
              refine lv_bipush (v := 6) hx hb dX7_room_109 (by decide) ?_
              refine lv_icmp_ge (tgt := 163) hx hb dX7_room_111 (by decide) (fun c6 => ?_) (fun c6 => ?_)
              · exact absurd (show nI (6) ≤ nI i2 from c6) (nI_ge (by omega) (by omega))
              · refine lv_iload hx hb dX7_room_114 (lv_at hl 1 rfl) ?_
                refine lv_aload_n hx hb dX7_room_116 rfl (lv_at hl 3 rfl) ?_
                refine g_get fd_RX7_7 C hX hP 0 (by decide) (shM_0 G ad _) (v := .ref (ad 1)) rfl dX7_room_117 ?_
                refine lv_iconst (v := 3) hx hb dX7_room_120 (by decide) ?_
                refine lv_iload hx hb dX7_room_121 (lv_at hl 0 rfl) ?_
                refine lv_iadd hx hb dX7_room_123 ?_
                refine lv_as (y := (nI (3 + i2))) (ix_3 _) ?_
                refine g_iald C hX hP 1 (by decide) (shM_1 G ad _) (3 + i2) (by omega) (by decide) dX7_room_124 ?_
                refine lv_sipush (v := 1000) hx hb dX7_room_125 (by decide) ?_
                refine lv_idiv hx hb dX7_room_128 (by decide) ?_
                refine lv_iload_n hx hb dX7_room_129 rfl (lv_at hl 4 rfl) ?_
                refine lv_icmp_ne (tgt := 153) hx hb dX7_room_130 (by decide) (fun c7 => ?_) (fun c7 => ?_)
                · refine lv_iconst (v := 0) hx hb dX7_room_153 (by decide) ?_
                  refine lv_ior hx hb dX7_room_154 ?_
                  refine lv_istore (lv' := [(4, .int (acc2 ||| 0)), (5, .int (nI i2)), (3, .int acc), (0, .ref (ad 0)), (1, .int room), (2, .int what)]) hx hb dX7_room_155 hl (by decide) rfl (fun ls hl => ?_)
                  refine lv_iinc (v := (nI (i2 + 1))) (lv' := [(5, .int (nI (i2 + 1))), (4, .int (acc2 ||| 0)), (3, .int acc), (0, .ref (ad 0)), (1, .int room), (2, .int what)]) hx hb dX7_room_157 hl (k := 1) rfl (by exact nI_1 _) (by decide) rfl (fun ls hl => ?_)
                  refine lv_goto (tgt := 107) hx hb dX7_room_160 (by decide) ?_
                  exact ih107 (i2 + 1) (acc2 ||| 0) _ _ _ (by omega) (by rw [hres107, m_room_L107, if_neg c7]) hP hS (lv_sub hl [0, 1, 2, 3, 4, 5] rfl)
                · refine lv_iconst (v := 1) hx hb dX7_room_133 (by decide) ?_
                  refine lv_aload_n hx hb dX7_room_134 rfl (lv_at hl 3 rfl) ?_
                  refine g_get fd_RX7_7 C hX hP 0 (by decide) (shM_0 G ad _) (v := .ref (ad 1)) rfl dX7_room_135 ?_
                  refine lv_iconst (v := 3) hx hb dX7_room_138 (by decide) ?_
                  refine lv_iload hx hb dX7_room_139 (lv_at hl 0 rfl) ?_
                  refine lv_iadd hx hb dX7_room_141 ?_
                  refine lv_as (y := (nI (3 + i2))) (ix_3 _) ?_
                  refine g_iald C hX hP 1 (by decide) (shM_1 G ad _) (3 + i2) (by omega) (by decide) dX7_room_142 ?_
                  refine lv_bipush (v := 10) hx hb dX7_room_143 (by decide) ?_
                  refine lv_idiv hx hb dX7_room_145 (by decide) ?_
                  refine lv_bipush (v := 100) hx hb dX7_room_146 (by decide) ?_
                  refine g_irem hx hb dX7_room_148 (by decide) ?_
                  refine g_ishl hx hb dX7_room_149 ?_
                  refine lv_goto (tgt := 154) hx hb dX7_room_150 (by decide) ?_
                  refine lv_ior hx hb dX7_room_154 ?_
                  refine lv_istore (lv' := [(4, .int (acc2 ||| (jshl 1 (jrem ((σ 1 (3 + i2)) / 10) 100)))), (5, .int (nI i2)), (3, .int acc), (0, .ref (ad 0)), (1, .int room), (2, .int what)]) hx hb dX7_room_155 hl (by decide) rfl (fun ls hl => ?_)
                  refine lv_iinc (v := (nI (i2 + 1))) (lv' := [(5, .int (nI (i2 + 1))), (4, .int (acc2 ||| (jshl 1 (jrem ((σ 1 (3 + i2)) / 10) 100)))), (3, .int acc), (0, .ref (ad 0)), (1, .int room), (2, .int what)]) hx hb dX7_room_157 hl (k := 1) rfl (by exact nI_1 _) (by decide) rfl (fun ls hl => ?_)
                  refine lv_goto (tgt := 107) hx hb dX7_room_160 (by decide) ?_
                  exact ih107 (i2 + 1) (acc2 ||| (jshl 1 (jrem ((σ 1 (3 + i2)) / 10) 100))) _ _ _ (by omega) (by rw [hres107, m_room_L107, if_pos c7]) hP hS (lv_sub hl [0, 1, 2, 3, 4, 5] rfl)
          · refine lv_iload_n hx hb dX7_room_73 rfl (lv_at hl 4 rfl) ?_
            refine lv_if_ne (tgt := 81) hx hb dX7_room_74 (by decide) (fun c8 => ?_) (fun c8 => ?_)
            · refine lv_iload_n hx hb dX7_room_81 rfl (lv_at hl 4 rfl) ?_
              refine lv_iconst (v := 1) hx hb dX7_room_82 (by decide) ?_
              refine lv_icmp_ne (tgt := 94) hx hb dX7_room_83 (by decide) (fun c9 => ?_) (fun c9 => ?_)
              · refine lv_aload_n hx hb dX7_room_94 rfl (lv_at hl 2 rfl) ?_
                refine lv_iload_n hx hb dX7_room_95 rfl (lv_at hl 1 rfl) ?_
                refine lv_iconst (v := 3) hx hb dX7_room_96 (by decide) ?_
                refine g_rd (g_runV (As := [.int acc, .int 3]) (rest := []) ky_yX7_known lk_RX7_116 C hX (gS_b0 hI hS) hP 0 (c_yX7_known l G ad hI σ acc 3 N hN hs (by decide)) (by decide) (shM_0 G ad _) ⟨rfl, rfl, by decide, by decide⟩ rfl hl.1 rfl (Nat.le_of_ble_eq_true rfl) ⟨Nat.zero_le _, Nat.zero_le _⟩ dX7_room_97) ?_
                exact g_iretM C hr hlk rfl (by rw [hres30, m_room_L30, if_neg c4, if_neg c8, if_neg c9]) hP hS dX7_room_100
              · refine lv_aload_n hx hb dX7_room_86 rfl (lv_at hl 2 rfl) ?_
                refine lv_iload_n hx hb dX7_room_87 rfl (lv_at hl 3 rfl) ?_
                refine g_rd (g_runV (As := [.int room]) (rest := []) ky_yX7_hushIn lk_RX7_78 C hX (gS_b0 hI hS) hP 0 (c_yX7_hushIn l G ad hI σ room N hN hs) (by decide) (shM_0 G ad _) ⟨rfl, rfl, by decide, by decide⟩ rfl hl.1 rfl (Nat.le_of_ble_eq_true rfl) ⟨Nat.zero_le _, Nat.zero_le _⟩ dX7_room_88) ?_
                refine lv_goto (tgt := 100) hx hb dX7_room_91 (by decide) ?_
                exact g_iretM C hr hlk rfl (by rw [hres30, m_room_L30, if_neg c4, if_neg c8, if_pos c9]) hP hS dX7_room_100
            · refine lv_iload_n hx hb dX7_room_77 rfl (lv_at hl 1 rfl) ?_
              refine lv_goto (tgt := 100) hx hb dX7_room_78 (by decide) ?_
              exact g_iretM C hr hlk rfl (by rw [hres30, m_room_L30, if_neg c4, if_pos c8]) hP hS dX7_room_100
        · exact absurd (show nI (N) ≤ nI i from nI_le (by omega) (by omega)) c3
      | succ n30 ih30 =>
        intro i acc H locs ls hi30 hres30 hP hS hl
        refine lv_iload hx hb dX7_room_30 (lv_at hl 0 rfl) ?_
        refine lv_aload_n hx hb dX7_room_32 rfl (lv_at hl 2 rfl) ?_
        refine g_get fd_RX7_7 C hX hP 0 (by decide) (shM_0 G ad _) (v := .ref (ad 1)) rfl dX7_room_33 ?_
        refine lv_iconst (v := 0) hx hb dX7_room_36 (by decide) ?_
        refine lv_as (y := nI 0) rfl ?_
        refine g_iald C hX hP 1 (by decide) (shM_1 G ad _) 0 (by omega) (by decide) dX7_room_37 ?_
        refine lv_as (y := (nI N)) hs ?_
        refine lv_icmp_ge (tgt := 68) hx hb dX7_room_38 (by decide) (fun c10 => ?_) (fun c10 => ?_)
        · exact absurd (show nI (N) ≤ nI i from c10) (nI_ge (by omega) (by omega))
        · refine lv_iload_n hx hb dX7_room_41 rfl (lv_at hl 1 rfl) ?_
          refine lv_aload_n hx hb dX7_room_42 rfl (lv_at hl 2 rfl) ?_
          refine lv_iload hx hb dX7_room_43 (lv_at hl 0 rfl) ?_
          refine lv_iload_n hx hb dX7_room_45 rfl (lv_at hl 3 rfl) ?_
          refine g_rd (g_runV (As := [.int (nI i), .int room]) (rest := [.int acc]) ky_yX7_isIn lk_RX7_62 C hX (gS_b0 hI hS) hP 0 (c_yX7_isIn l G ad hI σ i room (by omega)) (by decide) (shM_0 G ad _) ⟨rfl, rfl, by decide, by decide⟩ rfl hl.1 rfl (Nat.le_of_ble_eq_true rfl) ⟨Nat.zero_le _, Nat.zero_le _⟩ dX7_room_46) ?_
          refine lv_if_eq (tgt := 59) hx hb dX7_room_49 (by decide) (fun c11 => ?_) (fun c11 => ?_)
          · refine lv_iconst (v := 0) hx hb dX7_room_59 (by decide) ?_
            refine lv_ior hx hb dX7_room_60 ?_
            refine lv_istore_n (lv' := [(3, .int (acc ||| 0)), (4, .int (nI i)), (0, .ref (ad 0)), (1, .int room), (2, .int what)]) hx hb dX7_room_61 rfl hl (by decide) rfl (fun ls hl => ?_)
            refine lv_iinc (v := (nI (i + 1))) (lv' := [(4, .int (nI (i + 1))), (3, .int (acc ||| 0)), (0, .ref (ad 0)), (1, .int room), (2, .int what)]) hx hb dX7_room_62 hl (k := 1) rfl (by exact nI_1 _) (by decide) rfl (fun ls hl => ?_)
            refine lv_goto (tgt := 30) hx hb dX7_room_65 (by decide) ?_
            exact ih30 (i + 1) (acc ||| 0) _ _ _ (by omega) (by rw [hres30, m_room_L30, if_pos c11]) hP hS (lv_sub hl [0, 1, 2, 3, 4] rfl)
          · refine lv_iconst (v := 1) hx hb dX7_room_52 (by decide) ?_
            refine lv_iload hx hb dX7_room_53 (lv_at hl 0 rfl) ?_
            refine g_ishl hx hb dX7_room_55 ?_
            refine lv_goto (tgt := 60) hx hb dX7_room_56 (by decide) ?_
            refine lv_ior hx hb dX7_room_60 ?_
            refine lv_istore_n (lv' := [(3, .int (acc ||| (jshl 1 (nI i)))), (4, .int (nI i)), (0, .ref (ad 0)), (1, .int room), (2, .int what)]) hx hb dX7_room_61 rfl hl (by decide) rfl (fun ls hl => ?_)
            refine lv_iinc (v := (nI (i + 1))) (lv' := [(4, .int (nI (i + 1))), (3, .int (acc ||| (jshl 1 (nI i)))), (0, .ref (ad 0)), (1, .int room), (2, .int what)]) hx hb dX7_room_62 hl (k := 1) rfl (by exact nI_1 _) (by decide) rfl (fun ls hl => ?_)
            refine lv_goto (tgt := 30) hx hb dX7_room_65 (by decide) ?_
            exact ih30 (i + 1) (acc ||| (jshl 1 (nI i))) _ _ _ (by omega) (by rw [hres30, m_room_L30, if_neg c11]) hP hS (lv_sub hl [0, 1, 2, 3, 4] rfl)
    · refine lv_aload_n hx hb dX7_room_19 rfl (lv_at hl 0 rfl) ?_
      refine lv_iconst (v := 0) hx hb dX7_room_20 (by decide) ?_
      refine g_wrI0 hS (g_runV (As := [.int 0]) (rest := []) ky_yX7_finds lk_RX7_128 C hX (gS_b0 hI hS) hP 0 (c_yX7_finds l G ad hI σ 0 (by decide)) (by decide) (shM_0 G ad _) ⟨rfl, rfl, by decide, by decide⟩ rfl hl.1 rfl (Nat.le_of_ble_eq_true rfl) ⟨Nat.zero_le _, Nat.zero_le _⟩ dX7_room_21) (fun H locs hP hS => ?_)
      exact g_iretM C hr hlk rfl (by rw [m_room, if_neg c1, if_pos c2]) hP hS dX7_room_24

def m_comes_L10 (σ : gM) (kind : Int32) (room : Int32) : Nat → Nat → gM → Int32 × gM
  | 0, i, τ => ((nI (nN (σ 1 0))), (mset (m_sets (m_sets (m_sets τ (nN (σ 1 0)) 0 kind) (nN (σ 1 0)) 1 room) (nN (σ 1 0)) 2 5) 1 0 (((m_sets (m_sets (m_sets τ (nN (σ 1 0)) 0 kind) (nN (σ 1 0)) 1 room) (nN (σ 1 0)) 2 5) 1 0) + 1)))
  | n10 + 1, i, τ => (m_comes_L10 σ kind room n10 (i + 1) (m_sets τ (nN (σ 1 0)) i 0))
def m_comes (σ : gM) (kind : Int32) (room : Int32) : Int32 × gM := (m_comes_L10 σ kind room (6 + 1) 0 σ)
def rm_yX7_comes : Room := { frames := 1, cells := 0, slots := 0, locals := 23 }
set_option maxHeartbeats 4000000 in
set_option maxRecDepth 100000 in
theorem c_yX7_comes (l : Launch) (G : gG) (ad : Nat → Nat) (hI : gI G.2.2.1 11 ad) (σ : gM) (kind : Int32) (room : Int32) (N : Nat) (hN : N ≤ 8) (hs : σ 1 0 = nI N) (hlt : N < 8) : gMutI l yX7_comes cX7_comes 5 (some .int) rm_yX7_comes G [.ref (ad 0), .int kind, .int room] 11 ad (shM G ad) σ (m_comes σ kind room) := by
  refine g_start [.ref (ad 0), .int kind, .int room] (by decide +kernel) (Nat.le_of_ble_eq_true rfl) ?_
  intro p e s m below meth c ls B Z hl
  obtain ⟨C, hr, hlk⟩ := B
  have hx := C.1
  have hb := C.2.1
  obtain ⟨hX, hP⟩ := Z
  have hS : va_S (gA 11 ad) s.heap s.heap [] := va_S.rf
  revert hP hS
  intro hP hS
  have hl : lv_has ls 5 [(0, .ref (ad 0)), (1, .int kind), (2, .int room)] := hl
  obtain ⟨hz1, hz2⟩ := sz1_of hN hs
  refine lv_aload_n hx hb dX7_comes_0 rfl (lv_at hl 0 rfl) ?_
  refine g_get fd_RX7_7 C hX hP 0 (by decide) (shM_0 G ad _) (v := .ref (ad 1)) rfl dX7_comes_1 ?_
  refine lv_iconst (v := 0) hx hb dX7_comes_4 (by decide) ?_
  refine lv_as (y := nI 0) rfl ?_
  refine g_iald C hX hP 1 (by decide) (shM_1 G ad _) 0 (by omega) (by decide) dX7_comes_5 ?_
  refine lv_as (y := (nI (nN (σ 1 0)))) hz1 ?_
  refine lv_istore_n (lv' := [(3, .int (nI (nN (σ 1 0)))), (0, .ref (ad 0)), (1, .int kind), (2, .int room)]) hx hb dX7_comes_6 rfl hl (by decide) rfl (fun ls hl => ?_)
  refine lv_iconst (v := 0) hx hb dX7_comes_7 (by decide) ?_
  refine lv_istore (lv' := [(4, .int 0), (3, .int (nI (nN (σ 1 0)))), (0, .ref (ad 0)), (1, .int kind), (2, .int room)]) hx hb dX7_comes_8 hl (by decide) rfl (fun ls hl => ?_)
  suffices loop10 : ∀ (n10 : Nat) (i : Nat) (τ : gM) (H : Heap) (locs : List Loc) (ls : Array Slot), (i + n10 = 6 + 1) → m_comes σ kind room = (m_comes_L10 σ kind room n10 i τ) → gP G.1 11 ad (gE (shM G ad) τ) H → va_S (gA 11 ad) s.heap H locs → lv_has ls 5 [(4, .int (nI i)), (3, .int (nI (nN (σ 1 0)))), (0, .ref (ad 0)), (1, .int kind), (2, .int room)] → W p l e rm_yX7_comes s m ([.ref (ad 0), .int kind, .int room] : List Value).toArray below meth c H locs 0 0 (MQ below (va_Qi (fun (x : Int32) (τ : gM) => m_comes σ kind room = (x, τ)) (fun τ t => gP G.1 11 ad (gE (shM G ad) τ) t.heap) (gA 11 ad)) ([.ref (ad 0), .int kind, .int room] : List Value).toArray s 0 0 (gA 11 ad)) (F0 m 10 ls []) by
    exact loop10 (6 + 1) 0 σ _ _ _ (by omega) (by rw [m_comes]) hP hS (lv_sub hl [0, 1, 2, 3, 4] rfl)
  intro n10
  induction n10 with
  | zero =>
    intro i τ H locs ls hi10 hres10 hP hS hl
    refine lv_iload hx hb dX7_comes_10 (lv_at hl 0 rfl) ?_
    refine lv_bipush (v := 6) hx hb dX7_comes_12 (by decide) ?_
    refine lv_icmp_gt (tgt := 31) hx hb dX7_comes_14 (by decide) (fun c1 => ?_) (fun c1 => ?_)
    · refine lv_aload_n hx hb dX7_comes_31 rfl (lv_at hl 2 rfl) ?_
      refine lv_iload_n hx hb dX7_comes_32 rfl (lv_at hl 1 rfl) ?_
      refine lv_iconst (v := 0) hx hb dX7_comes_33 (by decide) ?_
      refine lv_iload_n hx hb dX7_comes_34 rfl (lv_at hl 3 rfl) ?_
      refine g_wrV0 hS (g_runV (As := [.int (nI (nN (σ 1 0))), .int 0, .int kind]) (rest := []) ky_yX7_sets lk_RX7_90 C hX (gS_b0 hI hS) hP 0 (c_yX7_sets l G ad hI τ (nN (σ 1 0)) 0 kind (by omega) (by decide)) (by decide) (shM_0 G ad _) ⟨rfl, rfl, by decide, by decide⟩ rfl hl.1 rfl (Nat.le_of_ble_eq_true rfl) ⟨Nat.zero_le _, Nat.zero_le _⟩ dX7_comes_35) (fun H locs hP hS => ?_)
      refine lv_aload_n hx hb dX7_comes_38 rfl (lv_at hl 2 rfl) ?_
      refine lv_iload_n hx hb dX7_comes_39 rfl (lv_at hl 1 rfl) ?_
      refine lv_iconst (v := 1) hx hb dX7_comes_40 (by decide) ?_
      refine lv_iload_n hx hb dX7_comes_41 rfl (lv_at hl 4 rfl) ?_
      refine g_wrV0 hS (g_runV (As := [.int (nI (nN (σ 1 0))), .int 1, .int room]) (rest := []) ky_yX7_sets lk_RX7_90 C hX (gS_b0 hI hS) hP 0 (c_yX7_sets l G ad hI (m_sets τ (nN (σ 1 0)) 0 kind) (nN (σ 1 0)) 1 room (by omega) (by decide)) (by decide) (shM_0 G ad _) ⟨rfl, rfl, by decide, by decide⟩ rfl hl.1 rfl (Nat.le_of_ble_eq_true rfl) ⟨Nat.zero_le _, Nat.zero_le _⟩ dX7_comes_42) (fun H locs hP hS => ?_)
      refine lv_aload_n hx hb dX7_comes_45 rfl (lv_at hl 2 rfl) ?_
      refine lv_iload_n hx hb dX7_comes_46 rfl (lv_at hl 1 rfl) ?_
      refine lv_iconst (v := 2) hx hb dX7_comes_47 (by decide) ?_
      refine lv_iconst (v := 5) hx hb dX7_comes_48 (by decide) ?_
      refine g_wrV0 hS (g_runV (As := [.int (nI (nN (σ 1 0))), .int 2, .int 5]) (rest := []) ky_yX7_sets lk_RX7_90 C hX (gS_b0 hI hS) hP 0 (c_yX7_sets l G ad hI (m_sets (m_sets τ (nN (σ 1 0)) 0 kind) (nN (σ 1 0)) 1 room) (nN (σ 1 0)) 2 5 (by omega) (by decide)) (by decide) (shM_0 G ad _) ⟨rfl, rfl, by decide, by decide⟩ rfl hl.1 rfl (Nat.le_of_ble_eq_true rfl) ⟨Nat.zero_le _, Nat.zero_le _⟩ dX7_comes_49) (fun H locs hP hS => ?_)
      refine lv_aload_n hx hb dX7_comes_52 rfl (lv_at hl 2 rfl) ?_
      refine g_get fd_RX7_7 C hX hP 0 (by decide) (shM_0 G ad _) (v := .ref (ad 1)) rfl dX7_comes_53 ?_
      refine lv_iconst (v := 0) hx hb dX7_comes_56 (by decide) ?_
      refine lv_dup2_11 hx hb dX7_comes_57 rfl rfl ?_
      refine lv_as (y := nI 0) rfl ?_
      refine g_iald C hX hP 1 (by decide) (shM_1 G ad _) 0 (by omega) (by decide) dX7_comes_58 ?_
      refine lv_iconst (v := 1) hx hb dX7_comes_59 (by decide) ?_
      refine lv_iadd hx hb dX7_comes_60 ?_
      refine lv_as1 (y := nI 0) rfl ?_
      refine g_iast C hX hI hP hS 1 (by decide) (shM_1 G ad _) 0 (by omega) (by decide) (upd ((m_sets (m_sets (m_sets τ (nN (σ 1 0)) 0 kind) (nN (σ 1 0)) 1 room) (nN (σ 1 0)) 2 5) 1) 0 (((m_sets (m_sets (m_sets τ (nN (σ 1 0)) 0 kind) (nN (σ 1 0)) 1 room) (nN (σ 1 0)) 2 5) 1 0) + 1)) rfl dX7_comes_61 (fun H locs hP hS => ?_)
      have hP : gP G.1 11 ad (gE (shM G ad) (mset (m_sets (m_sets (m_sets τ (nN (σ 1 0)) 0 kind) (nN (σ 1 0)) 1 room) (nN (σ 1 0)) 2 5) 1 0 (((m_sets (m_sets (m_sets τ (nN (σ 1 0)) 0 kind) (nN (σ 1 0)) 1 room) (nN (σ 1 0)) 2 5) 1 0) + 1))) H := hP
      refine lv_iload_n hx hb dX7_comes_62 rfl (lv_at hl 1 rfl) ?_
      exact g_iretM C hr hlk rfl (by rw [hres10, m_comes_L10]) hP hS dX7_comes_63
    · exact absurd (show nI 6 < nI i from nI_lt (by omega) (by omega)) c1
  | succ n10 ih10 =>
    intro i τ H locs ls hi10 hres10 hP hS hl
    refine lv_iload hx hb dX7_comes_10 (lv_at hl 0 rfl) ?_
    refine lv_bipush (v := 6) hx hb dX7_comes_12 (by decide) ?_
    refine lv_icmp_gt (tgt := 31) hx hb dX7_comes_14 (by decide) (fun c2 => ?_) (fun c2 => ?_)
    · exact absurd (show nI 6 < nI i from c2) (nI_nlt (by omega) (by omega))
    · refine lv_aload_n hx hb dX7_comes_17 rfl (lv_at hl 2 rfl) ?_
      refine lv_iload_n hx hb dX7_comes_18 rfl (lv_at hl 1 rfl) ?_
      refine lv_iload hx hb dX7_comes_19 (lv_at hl 0 rfl) ?_
      refine lv_iconst (v := 0) hx hb dX7_comes_21 (by decide) ?_
      refine g_wrV0 hS (g_runV (As := [.int (nI (nN (σ 1 0))), .int (nI i), .int 0]) (rest := []) ky_yX7_sets lk_RX7_90 C hX (gS_b0 hI hS) hP 0 (c_yX7_sets l G ad hI τ (nN (σ 1 0)) i 0 (by omega) (by omega)) (by decide) (shM_0 G ad _) ⟨rfl, rfl, by decide, by decide⟩ rfl hl.1 rfl (Nat.le_of_ble_eq_true rfl) ⟨Nat.zero_le _, Nat.zero_le _⟩ dX7_comes_22) (fun H locs hP hS => ?_)
      refine lv_iinc (v := (nI (i + 1))) (lv' := [(4, .int (nI (i + 1))), (3, .int (nI (nN (σ 1 0)))), (0, .ref (ad 0)), (1, .int kind), (2, .int room)]) hx hb dX7_comes_25 hl (k := 0) rfl (by exact nI_1 _) (by decide) rfl (fun ls hl => ?_)
      refine lv_goto (tgt := 10) hx hb dX7_comes_28 (by decide) ?_
      exact ih10 (i + 1) (m_sets τ (nN (σ 1 0)) i 0) _ _ _ (by omega) (by rw [hres10, m_comes_L10]) hP hS (lv_sub hl [0, 1, 2, 3, 4] rfl)

def m_glove (σ : gM) (kind : Int32) (room : Int32) : Int32 × gM := if (m_in ((kind).toInt64) 0 6) = 0 then ((m_finds σ 0).1, (m_finds σ 0).2) else (if (m_isPlace room) = 0 then ((m_finds σ 0).1, (m_finds σ 0).2) else (if (σ 1 0) = 8 then ((m_finds σ 1).1, (m_finds σ 1).2) else ((m_comes σ kind room).1, (m_comes σ kind room).2)))
def rm_yX7_glove : Room := { frames := 2, cells := 0, slots := 0, locals := 47 }
set_option maxHeartbeats 4000000 in
set_option maxRecDepth 100000 in
theorem c_yX7_glove (l : Launch) (G : gG) (ad : Nat → Nat) (hI : gI G.2.2.1 11 ad) (σ : gM) (kind : Int32) (room : Int32) (N : Nat) (hN : N ≤ 8) (hs : σ 1 0 = nI N) : gMutI l yX7_glove cX7_glove 3 (some .int) rm_yX7_glove G [.ref (ad 0), .int kind, .int room] 11 ad (shM G ad) σ (m_glove σ kind room) := by
  refine g_start [.ref (ad 0), .int kind, .int room] (by decide +kernel) (Nat.le_of_ble_eq_true rfl) ?_
  intro p e s m below meth c ls B Z hl
  obtain ⟨C, hr, hlk⟩ := B
  have hx := C.1
  have hb := C.2.1
  obtain ⟨hX, hP⟩ := Z
  have hS : va_S (gA 11 ad) s.heap s.heap [] := va_S.rf
  revert hP hS
  intro hP hS
  have hl : lv_has ls 3 [(0, .ref (ad 0)), (1, .int kind), (2, .int room)] := hl
  refine lv_iload_n hx hb dX7_glove_0 rfl (lv_at hl 1 rfl) ?_
  refine lv_i2l (v := (kind).toInt64) hx hb dX7_glove_1 rfl ?_
  refine lv_lconst (v := 0) hx hb dX7_glove_2 (by decide) ?_
  refine lv_ldc2 hx hb C.2.2.2.1 (C.2.2.2.2 _ kc_RX7_133) dX7_glove_3 ?_
  refine g_rd (g_runS (As := [.long ((kind).toInt64), .long 0, .long 6]) (rest := []) ky_yX7_in lk_RX7_42 C (c_yX7_in l ((kind).toInt64) 0 6) ⟨rfl, rfl, by decide, by decide⟩ rfl hl.1 rfl (Nat.le_of_ble_eq_true rfl) ⟨Nat.zero_le _, Nat.zero_le _⟩ dX7_glove_6) ?_
  refine lv_if_eq (tgt := 19) hx hb dX7_glove_9 (by decide) (fun c1 => ?_) (fun c1 => ?_)
  · refine lv_aload_n hx hb dX7_glove_19 rfl (lv_at hl 0 rfl) ?_
    refine lv_iconst (v := 0) hx hb dX7_glove_20 (by decide) ?_
    refine g_wrI0 hS (g_runV (As := [.int 0]) (rest := []) ky_yX7_finds lk_RX7_128 C hX (gS_b0 hI hS) hP 0 (c_yX7_finds l G ad hI σ 0 (by decide)) (by decide) (shM_0 G ad _) ⟨rfl, rfl, by decide, by decide⟩ rfl hl.1 rfl (Nat.le_of_ble_eq_true rfl) ⟨Nat.zero_le _, Nat.zero_le _⟩ dX7_glove_21) (fun H locs hP hS => ?_)
    exact g_iretM C hr hlk rfl (by rw [m_glove, if_pos c1]) hP hS dX7_glove_24
  · refine lv_iload_n hx hb dX7_glove_12 rfl (lv_at hl 2 rfl) ?_
    refine g_rd (g_runS (As := [.int room]) (rest := []) ky_yX7_isPlace lk_RX7_119 C (c_yX7_isPlace l room) ⟨rfl, rfl, by decide, by decide⟩ rfl hl.1 rfl (Nat.le_of_ble_eq_true rfl) ⟨Nat.zero_le _, Nat.zero_le _⟩ dX7_glove_13) ?_
    refine lv_if_ne (tgt := 25) hx hb dX7_glove_16 (by decide) (fun c2 => ?_) (fun c2 => ?_)
    · refine lv_aload_n hx hb dX7_glove_25 rfl (lv_at hl 0 rfl) ?_
      refine g_get fd_RX7_7 C hX hP 0 (by decide) (shM_0 G ad _) (v := .ref (ad 1)) rfl dX7_glove_26 ?_
      refine lv_iconst (v := 0) hx hb dX7_glove_29 (by decide) ?_
      refine lv_as (y := nI 0) rfl ?_
      refine g_iald C hX hP 1 (by decide) (shM_1 G ad _) 0 (by omega) (by decide) dX7_glove_30 ?_
      refine lv_bipush (v := 8) hx hb dX7_glove_31 (by decide) ?_
      refine lv_icmp_ne (tgt := 44) hx hb dX7_glove_33 (by decide) (fun c3 => ?_) (fun c3 => ?_)
      · have hlt : N < 8 := Nat.lt_of_le_of_ne hN (fun e => c3 (by rw [hs, e]; rfl))
        refine lv_aload_n hx hb dX7_glove_44 rfl (lv_at hl 0 rfl) ?_
        refine lv_iload_n hx hb dX7_glove_45 rfl (lv_at hl 1 rfl) ?_
        refine lv_iload_n hx hb dX7_glove_46 rfl (lv_at hl 2 rfl) ?_
        refine g_wrI0 hS (g_runV (As := [.int kind, .int room]) (rest := []) ky_yX7_comes lk_RX7_135 C hX (gS_b0 hI hS) hP 0 (c_yX7_comes l G ad hI σ kind room N hN hs hlt) (by decide) (shM_0 G ad _) ⟨rfl, rfl, by decide, by decide⟩ rfl hl.1 rfl (Nat.le_of_ble_eq_true rfl) ⟨Nat.zero_le _, Nat.zero_le _⟩ dX7_glove_47) (fun H locs hP hS => ?_)
        exact g_iretM C hr hlk rfl (by rw [m_glove, if_neg c1, if_neg c2, if_neg c3]) hP hS dX7_glove_50
      · refine lv_aload_n hx hb dX7_glove_36 rfl (lv_at hl 0 rfl) ?_
        refine lv_iconst (v := 1) hx hb dX7_glove_37 (by decide) ?_
        refine g_wrI0 hS (g_runV (As := [.int 1]) (rest := []) ky_yX7_finds lk_RX7_128 C hX (gS_b0 hI hS) hP 0 (c_yX7_finds l G ad hI σ 1 (by decide)) (by decide) (shM_0 G ad _) ⟨rfl, rfl, by decide, by decide⟩ rfl hl.1 rfl (Nat.le_of_ble_eq_true rfl) ⟨Nat.zero_le _, Nat.zero_le _⟩ dX7_glove_38) (fun H locs hP hS => ?_)
        refine lv_goto (tgt := 50) hx hb dX7_glove_41 (by decide) ?_
        exact g_iretM C hr hlk rfl (by rw [m_glove, if_neg c1, if_neg c2, if_pos c3]) hP hS dX7_glove_50
    · refine lv_aload_n hx hb dX7_glove_19 rfl (lv_at hl 0 rfl) ?_
      refine lv_iconst (v := 0) hx hb dX7_glove_20 (by decide) ?_
      refine g_wrI0 hS (g_runV (As := [.int 0]) (rest := []) ky_yX7_finds lk_RX7_128 C hX (gS_b0 hI hS) hP 0 (c_yX7_finds l G ad hI σ 0 (by decide)) (by decide) (shM_0 G ad _) ⟨rfl, rfl, by decide, by decide⟩ rfl hl.1 rfl (Nat.le_of_ble_eq_true rfl) ⟨Nat.zero_le _, Nat.zero_le _⟩ dX7_glove_21) (fun H locs hP hS => ?_)
      exact g_iretM C hr hlk rfl (by rw [m_glove, if_neg c1, if_pos c2]) hP hS dX7_glove_24

def m_of (σ : gM) (glove : Int32) (what : Int32) : Int32 × gM := if (m_isGlove σ glove) = 0 then ((m_finds σ 0).1, (m_finds σ 0).2) else (if (m_in ((what).toInt64) 0 10) = 0 then ((m_finds σ 0).1, (m_finds σ 0).2) else (if what = 7 then ((m_needs σ (nN glove)), σ) else (if what = 8 then ((m_hushes σ (nN glove)), σ) else (if what = 9 then ((m_stays σ (nN glove)), σ) else (if what = 10 then ((m_keeps σ (nN glove)), σ) else ((m_its σ (nN glove) (nN what)), σ))))))
def rm_yX7_of : Room := { frames := 4, cells := 0, slots := 0, locals := 89 }
set_option maxHeartbeats 4000000 in
set_option maxRecDepth 100000 in
theorem c_yX7_of (l : Launch) (G : gG) (ad : Nat → Nat) (hI : gI G.2.2.1 11 ad) (σ : gM) (glove : Int32) (what : Int32) (N : Nat) (hN : N ≤ 8) (hs : σ 1 0 = nI N) : gMutI l yX7_of cX7_of 3 (some .int) rm_yX7_of G [.ref (ad 0), .int glove, .int what] 11 ad (shM G ad) σ (m_of σ glove what) := by
  refine g_start [.ref (ad 0), .int glove, .int what] (by decide +kernel) (Nat.le_of_ble_eq_true rfl) ?_
  intro p e s m below meth c ls B Z hl
  obtain ⟨C, hr, hlk⟩ := B
  have hx := C.1
  have hb := C.2.1
  obtain ⟨hX, hP⟩ := Z
  have hS : va_S (gA 11 ad) s.heap s.heap [] := va_S.rf
  revert hP hS
  intro hP hS
  have hl : lv_has ls 3 [(0, .ref (ad 0)), (1, .int glove), (2, .int what)] := hl
  refine lv_aload_n hx hb dX7_of_0 rfl (lv_at hl 0 rfl) ?_
  refine lv_iload_n hx hb dX7_of_1 rfl (lv_at hl 1 rfl) ?_
  refine g_rd (g_runV (As := [.int glove]) (rest := []) ky_yX7_isGlove lk_RX7_138 C hX (gS_b0 hI hS) hP 0 (c_yX7_isGlove l G ad hI σ glove) (by decide) (shM_0 G ad _) ⟨rfl, rfl, by decide, by decide⟩ rfl hl.1 rfl (Nat.le_of_ble_eq_true rfl) ⟨Nat.zero_le _, Nat.zero_le _⟩ dX7_of_2) ?_
  refine lv_if_eq (tgt := 20) hx hb dX7_of_5 (by decide) (fun c1 => ?_) (fun c1 => ?_)
  · refine lv_aload_n hx hb dX7_of_20 rfl (lv_at hl 0 rfl) ?_
    refine lv_iconst (v := 0) hx hb dX7_of_21 (by decide) ?_
    refine g_wrI0 hS (g_runV (As := [.int 0]) (rest := []) ky_yX7_finds lk_RX7_128 C hX (gS_b0 hI hS) hP 0 (c_yX7_finds l G ad hI σ 0 (by decide)) (by decide) (shM_0 G ad _) ⟨rfl, rfl, by decide, by decide⟩ rfl hl.1 rfl (Nat.le_of_ble_eq_true rfl) ⟨Nat.zero_le _, Nat.zero_le _⟩ dX7_of_22) (fun H locs hP hS => ?_)
    exact g_iretM C hr hlk rfl (by rw [m_of, if_pos c1]) hP hS dX7_of_25
  · obtain ⟨hg1, hg2⟩ := glv_of hN hs c1
    refine lv_iload_n hx hb dX7_of_8 rfl (lv_at hl 2 rfl) ?_
    refine lv_i2l (v := (what).toInt64) hx hb dX7_of_9 rfl ?_
    refine lv_lconst (v := 0) hx hb dX7_of_10 (by decide) ?_
    refine lv_ldc2 hx hb C.2.2.2.1 (C.2.2.2.2 _ kc_RX7_141) dX7_of_11 ?_
    refine g_rd (g_runS (As := [.long ((what).toInt64), .long 0, .long 10]) (rest := []) ky_yX7_in lk_RX7_42 C (c_yX7_in l ((what).toInt64) 0 10) ⟨rfl, rfl, by decide, by decide⟩ rfl hl.1 rfl (Nat.le_of_ble_eq_true rfl) ⟨Nat.zero_le _, Nat.zero_le _⟩ dX7_of_14) ?_
    refine lv_if_ne (tgt := 26) hx hb dX7_of_17 (by decide) (fun c2 => ?_) (fun c2 => ?_)
    · obtain ⟨hw1, hw2⟩ := in_nat (M := 11) (by decide) (by decide) c2
      refine lv_iload_n hx hb dX7_of_26 rfl (lv_at hl 2 rfl) ?_
      by_cases c3 : what = 7
      · refine lv_as (y := 7) c3 ?_
        refine lv_tableIn (tgt := 56) (off := 29) hx hb dX7_of_27 (by decide) (by decide) (by decide) (by decide) ?_
        refine lv_aload_n hx hb dX7_of_56 rfl (lv_at hl 0 rfl) ?_
        refine lv_iload_n hx hb dX7_of_57 rfl (lv_at hl 1 rfl) ?_
        refine lv_as (y := (nI (nN glove))) hg1 ?_
        refine g_rd (g_runV (As := [.int (nI (nN glove))]) (rest := []) ky_yX7_needs lk_RX7_81 C hX (gS_b0 hI hS) hP 0 (c_yX7_needs l G ad hI σ (nN glove) N hN hs (by omega)) (by decide) (shM_0 G ad _) ⟨rfl, rfl, by decide, by decide⟩ rfl hl.1 rfl (Nat.le_of_ble_eq_true rfl) ⟨Nat.zero_le _, Nat.zero_le _⟩ dX7_of_58) ?_
        exact g_iretM C hr hlk rfl (by rw [m_of, if_neg c1, if_neg c2, if_pos c3]) hP hS dX7_of_61
      by_cases c4 : what = 8
      · refine lv_as (y := 8) c4 ?_
        refine lv_tableIn (tgt := 62) (off := 35) hx hb dX7_of_27 (by decide) (by decide) (by decide) (by decide) ?_
        refine lv_aload_n hx hb dX7_of_62 rfl (lv_at hl 0 rfl) ?_
        refine lv_iload_n hx hb dX7_of_63 rfl (lv_at hl 1 rfl) ?_
        refine lv_as (y := (nI (nN glove))) hg1 ?_
        refine g_rd (g_runV (As := [.int (nI (nN glove))]) (rest := []) ky_yX7_hushes lk_RX7_74 C hX (gS_b0 hI hS) hP 0 (c_yX7_hushes l G ad hI σ (nN glove) (by omega)) (by decide) (shM_0 G ad _) ⟨rfl, rfl, by decide, by decide⟩ rfl hl.1 rfl (Nat.le_of_ble_eq_true rfl) ⟨Nat.zero_le _, Nat.zero_le _⟩ dX7_of_64) ?_
        exact g_iretM C hr hlk rfl (by rw [m_of, if_neg c1, if_neg c2, if_neg c3, if_pos c4]) hP hS dX7_of_67
      by_cases c5 : what = 9
      · refine lv_as (y := 9) c5 ?_
        refine lv_tableIn (tgt := 68) (off := 41) hx hb dX7_of_27 (by decide) (by decide) (by decide) (by decide) ?_
        refine lv_aload_n hx hb dX7_of_68 rfl (lv_at hl 0 rfl) ?_
        refine lv_iload_n hx hb dX7_of_69 rfl (lv_at hl 1 rfl) ?_
        refine lv_as (y := (nI (nN glove))) hg1 ?_
        refine g_rd (g_runV (As := [.int (nI (nN glove))]) (rest := []) ky_yX7_stays lk_RX7_105 C hX (gS_b0 hI hS) hP 0 (c_yX7_stays l G ad hI σ (nN glove) (by omega)) (by decide) (shM_0 G ad _) ⟨rfl, rfl, by decide, by decide⟩ rfl hl.1 rfl (Nat.le_of_ble_eq_true rfl) ⟨Nat.zero_le _, Nat.zero_le _⟩ dX7_of_70) ?_
        exact g_iretM C hr hlk rfl (by rw [m_of, if_neg c1, if_neg c2, if_neg c3, if_neg c4, if_pos c5]) hP hS dX7_of_73
      by_cases c6 : what = 10
      · refine lv_as (y := 10) c6 ?_
        refine lv_tableIn (tgt := 74) (off := 47) hx hb dX7_of_27 (by decide) (by decide) (by decide) (by decide) ?_
        refine lv_aload_n hx hb dX7_of_74 rfl (lv_at hl 0 rfl) ?_
        refine lv_iload_n hx hb dX7_of_75 rfl (lv_at hl 1 rfl) ?_
        refine lv_as (y := (nI (nN glove))) hg1 ?_
        refine g_rd (g_runV (As := [.int (nI (nN glove))]) (rest := []) ky_yX7_keeps lk_RX7_87 C hX (gS_b0 hI hS) hP 0 (c_yX7_keeps l G ad hI σ (nN glove) (by omega)) (by decide) (shM_0 G ad _) ⟨rfl, rfl, by decide, by decide⟩ rfl hl.1 rfl (Nat.le_of_ble_eq_true rfl) ⟨Nat.zero_le _, Nat.zero_le _⟩ dX7_of_76) ?_
        exact g_iretM C hr hlk rfl (by rw [m_of, if_neg c1, if_neg c2, if_neg c3, if_neg c4, if_neg c5, if_pos c6]) hP hS dX7_of_79
      have h7 := lv_neT (a := 7) c3 (by decide)
      have h8 := lv_neT (a := 8) c4 (by decide)
      have h9 := lv_neT (a := 9) c5 (by decide)
      have h10 := lv_neT (a := 10) c6 (by decide)
      refine lv_tableOut (tgt := 80) hx hb dX7_of_27 (by omega) (by decide) ?_
      refine lv_aload_n hx hb dX7_of_80 rfl (lv_at hl 0 rfl) ?_
      refine lv_iload_n hx hb dX7_of_81 rfl (lv_at hl 1 rfl) ?_
      refine lv_as (y := (nI (nN glove))) hg1 ?_
      refine lv_iload_n hx hb dX7_of_82 rfl (lv_at hl 2 rfl) ?_
      refine lv_as (y := (nI (nN what))) hw1 ?_
      have hw7 : nN what < 7 := by
        rcases Nat.lt_or_ge (nN what) 7 with q | q
        · exact q
        · exfalso
          obtain q | q | q | q : nN what = 7 ∨ nN what = 8 ∨ nN what = 9 ∨ nN what = 10 := by omega
          · rw [q] at hw1; exact (‹¬ what = 7›) hw1
          · rw [q] at hw1; exact (‹¬ what = 8›) hw1
          · rw [q] at hw1; exact (‹¬ what = 9›) hw1
          · rw [q] at hw1; exact (‹¬ what = 10›) hw1
      refine g_rd (g_runV (As := [.int (nI (nN glove)), .int (nI (nN what))]) (rest := []) ky_yX7_its lk_RX7_58 C hX (gS_b0 hI hS) hP 0 (c_yX7_its l G ad hI σ (nN glove) (nN what) (by omega) hw7) (by decide) (shM_0 G ad _) ⟨rfl, rfl, by decide, by decide⟩ rfl hl.1 rfl (Nat.le_of_ble_eq_true rfl) ⟨Nat.zero_le _, Nat.zero_le _⟩ dX7_of_83) ?_
      exact g_iretM C hr hlk rfl (by rw [m_of, if_neg c1, if_neg c2, if_neg c3, if_neg c4, if_neg c5, if_neg c6]) hP hS dX7_of_86
    · refine lv_aload_n hx hb dX7_of_20 rfl (lv_at hl 0 rfl) ?_
      refine lv_iconst (v := 0) hx hb dX7_of_21 (by decide) ?_
      refine g_wrI0 hS (g_runV (As := [.int 0]) (rest := []) ky_yX7_finds lk_RX7_128 C hX (gS_b0 hI hS) hP 0 (c_yX7_finds l G ad hI σ 0 (by decide)) (by decide) (shM_0 G ad _) ⟨rfl, rfl, by decide, by decide⟩ rfl hl.1 rfl (Nat.le_of_ble_eq_true rfl) ⟨Nat.zero_le _, Nat.zero_le _⟩ dX7_of_22) (fun H locs hP hS => ?_)
      exact g_iretM C hr hlk rfl (by rw [m_of, if_neg c1, if_pos c2]) hP hS dX7_of_25

def m_mostOf (what : Int32) : Int32 := if what = 0 then 6 else (if what = 1 then 5 else (if what = 2 then 9 else (if what = 3 then 65535 else (if what = 5 then 65535 else 9999))))
def rm_yX7_mostOf : Room := { frames := 0, cells := 0, slots := 0, locals := 0 }
set_option maxHeartbeats 4000000 in
set_option maxRecDepth 100000 in
theorem c_yX7_mostOf (l : Launch) (what : Int32) : gPure l yX7_mostOf cX7_mostOf 1 (some .int) rm_yX7_mostOf [.int what] (m_mostOf what) := by
  refine g_start [.int what] (by decide +kernel) (Nat.le_of_ble_eq_true rfl) ?_
  intro p e s m below meth c ls B Z hl
  obtain ⟨C, hr, hlk⟩ := B
  have hx := C.1
  have hb := C.2.1
  have hl : lv_has ls 1 [(0, .int what)] := hl
  refine lv_iload_n hx hb dX7_mostOf_0 rfl (lv_at hl 0 rfl) ?_
  refine lv_if_ne (tgt := 9) hx hb dX7_mostOf_1 (by decide) (fun c1 => ?_) (fun c1 => ?_)
  · refine lv_iload_n hx hb dX7_mostOf_9 rfl (lv_at hl 0 rfl) ?_
    refine lv_iconst (v := 1) hx hb dX7_mostOf_10 (by decide) ?_
    refine lv_icmp_ne (tgt := 18) hx hb dX7_mostOf_11 (by decide) (fun c2 => ?_) (fun c2 => ?_)
    · refine lv_iload_n hx hb dX7_mostOf_18 rfl (lv_at hl 0 rfl) ?_
      refine lv_iconst (v := 2) hx hb dX7_mostOf_19 (by decide) ?_
      refine lv_icmp_ne (tgt := 28) hx hb dX7_mostOf_20 (by decide) (fun c3 => ?_) (fun c3 => ?_)
      · refine lv_iload_n hx hb dX7_mostOf_28 rfl (lv_at hl 0 rfl) ?_
        refine lv_iconst (v := 3) hx hb dX7_mostOf_29 (by decide) ?_
        refine lv_icmp_eq (tgt := 38) hx hb dX7_mostOf_30 (by decide) (fun c4 => ?_) (fun c4 => ?_)
        · refine lv_ldc hx hb C.2.2.2.1 (C.2.2.2.2 _ kc_RX7_143) dX7_mostOf_38 ?_
          refine lv_goto (tgt := 46) hx hb dX7_mostOf_40 (by decide) ?_
          exact g_iret C hr hlk rfl (by rw [m_mostOf, if_neg c1, if_neg c2, if_neg c3, if_pos c4]) rfl rfl dX7_mostOf_46
        · refine lv_iload_n hx hb dX7_mostOf_33 rfl (lv_at hl 0 rfl) ?_
          refine lv_iconst (v := 5) hx hb dX7_mostOf_34 (by decide) ?_
          refine lv_icmp_ne (tgt := 43) hx hb dX7_mostOf_35 (by decide) (fun c5 => ?_) (fun c5 => ?_)
          · refine lv_sipush (v := 9999) hx hb dX7_mostOf_43 (by decide) ?_
            exact g_iret C hr hlk rfl (by rw [m_mostOf, if_neg c1, if_neg c2, if_neg c3, if_neg c4, if_neg c5]) rfl rfl dX7_mostOf_46
          · refine lv_ldc hx hb C.2.2.2.1 (C.2.2.2.2 _ kc_RX7_143) dX7_mostOf_38 ?_
            refine lv_goto (tgt := 46) hx hb dX7_mostOf_40 (by decide) ?_
            exact g_iret C hr hlk rfl (by rw [m_mostOf, if_neg c1, if_neg c2, if_neg c3, if_neg c4, if_pos c5]) rfl rfl dX7_mostOf_46
      · refine lv_bipush (v := 9) hx hb dX7_mostOf_23 (by decide) ?_
        refine lv_goto (tgt := 46) hx hb dX7_mostOf_25 (by decide) ?_
        exact g_iret C hr hlk rfl (by rw [m_mostOf, if_neg c1, if_neg c2, if_pos c3]) rfl rfl dX7_mostOf_46
    · refine lv_iconst (v := 5) hx hb dX7_mostOf_14 (by decide) ?_
      refine lv_goto (tgt := 46) hx hb dX7_mostOf_15 (by decide) ?_
      exact g_iret C hr hlk rfl (by rw [m_mostOf, if_neg c1, if_pos c2]) rfl rfl dX7_mostOf_46
  · refine lv_bipush (v := 6) hx hb dX7_mostOf_4 (by decide) ?_
    refine lv_goto (tgt := 46) hx hb dX7_mostOf_6 (by decide) ?_
    exact g_iret C hr hlk rfl (by rw [m_mostOf, if_pos c1]) rfl rfl dX7_mostOf_46

def m_change (σ : gM) (glove : Int32) (what : Int32) (v : Int32) : Int32 × gM := if (m_isGlove σ glove) = 0 then ((m_finds σ 0).1, (m_finds σ 0).2) else (if (m_in ((what).toInt64) 0 6) = 0 then ((m_finds σ 0).1, (m_finds σ 0).2) else (if (m_in ((v).toInt64) 0 (((m_mostOf what)).toInt64)) = 0 then ((m_finds σ 0).1, (m_finds σ 0).2) else ((m_becomes σ (9 + 8 * nN what + nN glove) v).1, (m_becomes σ (9 + 8 * nN what + nN glove) v).2)))
def rm_yX7_change : Room := { frames := 2, cells := 0, slots := 0, locals := 46 }
set_option maxHeartbeats 4000000 in
set_option maxRecDepth 100000 in
theorem c_yX7_change (l : Launch) (G : gG) (ad : Nat → Nat) (hI : gI G.2.2.1 11 ad) (σ : gM) (glove : Int32) (what : Int32) (v : Int32) (N : Nat) (hN : N ≤ 8) (hs : σ 1 0 = nI N) : gMutI l yX7_change cX7_change 4 (some .int) rm_yX7_change G [.ref (ad 0), .int glove, .int what, .int v] 11 ad (shM G ad) σ (m_change σ glove what v) := by
  refine g_start [.ref (ad 0), .int glove, .int what, .int v] (by decide +kernel) (Nat.le_of_ble_eq_true rfl) ?_
  intro p e s m below meth c ls B Z hl
  obtain ⟨C, hr, hlk⟩ := B
  have hx := C.1
  have hb := C.2.1
  obtain ⟨hX, hP⟩ := Z
  have hS : va_S (gA 11 ad) s.heap s.heap [] := va_S.rf
  revert hP hS
  intro hP hS
  have hl : lv_has ls 4 [(0, .ref (ad 0)), (1, .int glove), (2, .int what), (3, .int v)] := hl
  refine lv_aload_n hx hb dX7_change_0 rfl (lv_at hl 0 rfl) ?_
  refine lv_iload_n hx hb dX7_change_1 rfl (lv_at hl 1 rfl) ?_
  refine g_rd (g_runV (As := [.int glove]) (rest := []) ky_yX7_isGlove lk_RX7_138 C hX (gS_b0 hI hS) hP 0 (c_yX7_isGlove l G ad hI σ glove) (by decide) (shM_0 G ad _) ⟨rfl, rfl, by decide, by decide⟩ rfl hl.1 rfl (Nat.le_of_ble_eq_true rfl) ⟨Nat.zero_le _, Nat.zero_le _⟩ dX7_change_2) ?_
  refine lv_if_eq (tgt := 51) hx hb dX7_change_5 (by decide) (fun c1 => ?_) (fun c1 => ?_)
  · refine lv_aload_n hx hb dX7_change_51 rfl (lv_at hl 0 rfl) ?_
    refine lv_iconst (v := 0) hx hb dX7_change_52 (by decide) ?_
    refine g_wrI0 hS (g_runV (As := [.int 0]) (rest := []) ky_yX7_finds lk_RX7_128 C hX (gS_b0 hI hS) hP 0 (c_yX7_finds l G ad hI σ 0 (by decide)) (by decide) (shM_0 G ad _) ⟨rfl, rfl, by decide, by decide⟩ rfl hl.1 rfl (Nat.le_of_ble_eq_true rfl) ⟨Nat.zero_le _, Nat.zero_le _⟩ dX7_change_53) (fun H locs hP hS => ?_)
    exact g_iretM C hr hlk rfl (by rw [m_change, if_pos c1]) hP hS dX7_change_56
  · obtain ⟨hg1, hg2⟩ := glv_of hN hs c1
    refine lv_iload_n hx hb dX7_change_8 rfl (lv_at hl 2 rfl) ?_
    refine lv_i2l (v := (what).toInt64) hx hb dX7_change_9 rfl ?_
    refine lv_lconst (v := 0) hx hb dX7_change_10 (by decide) ?_
    refine lv_ldc2 hx hb C.2.2.2.1 (C.2.2.2.2 _ kc_RX7_133) dX7_change_11 ?_
    refine g_rd (g_runS (As := [.long ((what).toInt64), .long 0, .long 6]) (rest := []) ky_yX7_in lk_RX7_42 C (c_yX7_in l ((what).toInt64) 0 6) ⟨rfl, rfl, by decide, by decide⟩ rfl hl.1 rfl (Nat.le_of_ble_eq_true rfl) ⟨Nat.zero_le _, Nat.zero_le _⟩ dX7_change_14) ?_
    refine lv_if_eq (tgt := 51) hx hb dX7_change_17 (by decide) (fun c2 => ?_) (fun c2 => ?_)
    · refine lv_aload_n hx hb dX7_change_51 rfl (lv_at hl 0 rfl) ?_
      refine lv_iconst (v := 0) hx hb dX7_change_52 (by decide) ?_
      refine g_wrI0 hS (g_runV (As := [.int 0]) (rest := []) ky_yX7_finds lk_RX7_128 C hX (gS_b0 hI hS) hP 0 (c_yX7_finds l G ad hI σ 0 (by decide)) (by decide) (shM_0 G ad _) ⟨rfl, rfl, by decide, by decide⟩ rfl hl.1 rfl (Nat.le_of_ble_eq_true rfl) ⟨Nat.zero_le _, Nat.zero_le _⟩ dX7_change_53) (fun H locs hP hS => ?_)
      exact g_iretM C hr hlk rfl (by rw [m_change, if_neg c1, if_pos c2]) hP hS dX7_change_56
    · obtain ⟨hw1, hw2⟩ := in_nat (M := 7) (by decide) (by decide) c2
      refine lv_iload_n hx hb dX7_change_20 rfl (lv_at hl 3 rfl) ?_
      refine lv_i2l (v := (v).toInt64) hx hb dX7_change_21 rfl ?_
      refine lv_lconst (v := 0) hx hb dX7_change_22 (by decide) ?_
      refine lv_iload_n hx hb dX7_change_23 rfl (lv_at hl 2 rfl) ?_
      refine g_rd (g_runS (As := [.int what]) (rest := [.long 0, .long ((v).toInt64)]) ky_yX7_mostOf lk_RX7_144 C (c_yX7_mostOf l what) ⟨rfl, rfl, by decide, by decide⟩ rfl hl.1 rfl (Nat.le_of_ble_eq_true rfl) ⟨Nat.zero_le _, Nat.zero_le _⟩ dX7_change_24) ?_
      refine lv_i2l (v := ((m_mostOf what)).toInt64) hx hb dX7_change_27 rfl ?_
      refine g_rd (g_runS (As := [.long ((v).toInt64), .long 0, .long (((m_mostOf what)).toInt64)]) (rest := []) ky_yX7_in lk_RX7_42 C (c_yX7_in l ((v).toInt64) 0 (((m_mostOf what)).toInt64)) ⟨rfl, rfl, by decide, by decide⟩ rfl hl.1 rfl (Nat.le_of_ble_eq_true rfl) ⟨Nat.zero_le _, Nat.zero_le _⟩ dX7_change_28) ?_
      refine lv_if_eq (tgt := 51) hx hb dX7_change_31 (by decide) (fun c3 => ?_) (fun c3 => ?_)
      · refine lv_aload_n hx hb dX7_change_51 rfl (lv_at hl 0 rfl) ?_
        refine lv_iconst (v := 0) hx hb dX7_change_52 (by decide) ?_
        refine g_wrI0 hS (g_runV (As := [.int 0]) (rest := []) ky_yX7_finds lk_RX7_128 C hX (gS_b0 hI hS) hP 0 (c_yX7_finds l G ad hI σ 0 (by decide)) (by decide) (shM_0 G ad _) ⟨rfl, rfl, by decide, by decide⟩ rfl hl.1 rfl (Nat.le_of_ble_eq_true rfl) ⟨Nat.zero_le _, Nat.zero_le _⟩ dX7_change_53) (fun H locs hP hS => ?_)
        exact g_iretM C hr hlk rfl (by rw [m_change, if_neg c1, if_neg c2, if_pos c3]) hP hS dX7_change_56
      · refine lv_aload_n hx hb dX7_change_34 rfl (lv_at hl 0 rfl) ?_
        refine lv_bipush (v := 9) hx hb dX7_change_35 (by decide) ?_
        refine lv_bipush (v := 8) hx hb dX7_change_37 (by decide) ?_
        refine lv_iload_n hx hb dX7_change_39 rfl (lv_at hl 2 rfl) ?_
        refine lv_imul hx hb dX7_change_40 ?_
        refine lv_iadd hx hb dX7_change_41 ?_
        refine lv_iload_n hx hb dX7_change_42 rfl (lv_at hl 1 rfl) ?_
        refine lv_iadd hx hb dX7_change_43 ?_
        refine lv_as (y := (nI (9 + 8 * nN what + nN glove))) (ix_at hw1 hg1) ?_
        refine lv_iload_n hx hb dX7_change_44 rfl (lv_at hl 3 rfl) ?_
        refine g_wrI0 hS (g_runV (As := [.int (nI (9 + 8 * nN what + nN glove)), .int v]) (rest := []) ky_yX7_becomes lk_RX7_125 C hX (gS_b0 hI hS) hP 0 (c_yX7_becomes l G ad hI σ (9 + 8 * nN what + nN glove) v (by omega)) (by decide) (shM_0 G ad _) ⟨rfl, rfl, by decide, by decide⟩ rfl hl.1 rfl (Nat.le_of_ble_eq_true rfl) ⟨Nat.zero_le _, Nat.zero_le _⟩ dX7_change_45) (fun H locs hP hS => ?_)
        refine lv_goto (tgt := 56) hx hb dX7_change_48 (by decide) ?_
        exact g_iretM C hr hlk rfl (by rw [m_change, if_neg c1, if_neg c2, if_neg c3]) hP hS dX7_change_56

def m_draw (σ : gM) (glove : Int32) : Int32 × gM := if (m_isGlove σ glove) = 0 then ((m_finds σ 0).1, (m_finds σ 0).2) else (if (m_stays σ (nN glove)) = 0 then ((m_finds σ 4).1, (m_finds σ 4).2) else ((m_its (m_drawnOn σ (nN glove)) (nN glove) 5), (m_drawnOn σ (nN glove))))
def rm_yX7_draw : Room := { frames := 2, cells := 0, slots := 0, locals := 46 }
set_option maxHeartbeats 4000000 in
set_option maxRecDepth 100000 in
theorem c_yX7_draw (l : Launch) (G : gG) (ad : Nat → Nat) (hI : gI G.2.2.1 11 ad) (σ : gM) (glove : Int32) (N : Nat) (hN : N ≤ 8) (hs : σ 1 0 = nI N) : gMutI l yX7_draw cX7_draw 2 (some .int) rm_yX7_draw G [.ref (ad 0), .int glove] 11 ad (shM G ad) σ (m_draw σ glove) := by
  refine g_start [.ref (ad 0), .int glove] (by decide +kernel) (Nat.le_of_ble_eq_true rfl) ?_
  intro p e s m below meth c ls B Z hl
  obtain ⟨C, hr, hlk⟩ := B
  have hx := C.1
  have hb := C.2.1
  obtain ⟨hX, hP⟩ := Z
  have hS : va_S (gA 11 ad) s.heap s.heap [] := va_S.rf
  revert hP hS
  intro hP hS
  have hl : lv_has ls 2 [(0, .ref (ad 0)), (1, .int glove)] := hl
  refine lv_aload_n hx hb dX7_draw_0 rfl (lv_at hl 0 rfl) ?_
  refine lv_iload_n hx hb dX7_draw_1 rfl (lv_at hl 1 rfl) ?_
  refine g_rd (g_runV (As := [.int glove]) (rest := []) ky_yX7_isGlove lk_RX7_138 C hX (gS_b0 hI hS) hP 0 (c_yX7_isGlove l G ad hI σ glove) (by decide) (shM_0 G ad _) ⟨rfl, rfl, by decide, by decide⟩ rfl hl.1 rfl (Nat.le_of_ble_eq_true rfl) ⟨Nat.zero_le _, Nat.zero_le _⟩ dX7_draw_2) ?_
  refine lv_if_ne (tgt := 14) hx hb dX7_draw_5 (by decide) (fun c1 => ?_) (fun c1 => ?_)
  · obtain ⟨hg1, hg2⟩ := glv_of hN hs c1
    refine lv_aload_n hx hb dX7_draw_14 rfl (lv_at hl 0 rfl) ?_
    refine lv_iload_n hx hb dX7_draw_15 rfl (lv_at hl 1 rfl) ?_
    refine lv_as (y := (nI (nN glove))) hg1 ?_
    refine g_rd (g_runV (As := [.int (nI (nN glove))]) (rest := []) ky_yX7_stays lk_RX7_105 C hX (gS_b0 hI hS) hP 0 (c_yX7_stays l G ad hI σ (nN glove) (by omega)) (by decide) (shM_0 G ad _) ⟨rfl, rfl, by decide, by decide⟩ rfl hl.1 rfl (Nat.le_of_ble_eq_true rfl) ⟨Nat.zero_le _, Nat.zero_le _⟩ dX7_draw_16) ?_
    refine lv_if_ne (tgt := 28) hx hb dX7_draw_19 (by decide) (fun c2 => ?_) (fun c2 => ?_)
    · refine lv_aload_n hx hb dX7_draw_28 rfl (lv_at hl 0 rfl) ?_
      refine lv_iload_n hx hb dX7_draw_29 rfl (lv_at hl 1 rfl) ?_
      refine lv_as (y := (nI (nN glove))) hg1 ?_
      refine g_wrV0 hS (g_runV (As := [.int (nI (nN glove))]) (rest := []) ky_yX7_drawnOn lk_RX7_108 C hX (gS_b0 hI hS) hP 0 (c_yX7_drawnOn l G ad hI σ (nN glove) (by omega)) (by decide) (shM_0 G ad _) ⟨rfl, rfl, by decide, by decide⟩ rfl hl.1 rfl (Nat.le_of_ble_eq_true rfl) ⟨Nat.zero_le _, Nat.zero_le _⟩ dX7_draw_30) (fun H locs hP hS => ?_)
      refine lv_aload_n hx hb dX7_draw_33 rfl (lv_at hl 0 rfl) ?_
      refine lv_iload_n hx hb dX7_draw_34 rfl (lv_at hl 1 rfl) ?_
      refine lv_as (y := (nI (nN glove))) hg1 ?_
      refine lv_iconst (v := 5) hx hb dX7_draw_35 (by decide) ?_
      refine g_rd (g_runV (As := [.int (nI (nN glove)), .int 5]) (rest := []) ky_yX7_its lk_RX7_58 C hX (gS_b0 hI hS) hP 0 (c_yX7_its l G ad hI (m_drawnOn σ (nN glove)) (nN glove) 5 (by omega) (by decide)) (by decide) (shM_0 G ad _) ⟨rfl, rfl, by decide, by decide⟩ rfl hl.1 rfl (Nat.le_of_ble_eq_true rfl) ⟨Nat.zero_le _, Nat.zero_le _⟩ dX7_draw_36) ?_
      exact g_iretM C hr hlk rfl (by rw [m_draw, if_neg c1, if_neg c2]) hP hS dX7_draw_39
    · refine lv_aload_n hx hb dX7_draw_22 rfl (lv_at hl 0 rfl) ?_
      refine lv_iconst (v := 4) hx hb dX7_draw_23 (by decide) ?_
      refine g_wrI0 hS (g_runV (As := [.int 4]) (rest := []) ky_yX7_finds lk_RX7_128 C hX (gS_b0 hI hS) hP 0 (c_yX7_finds l G ad hI σ 4 (by decide)) (by decide) (shM_0 G ad _) ⟨rfl, rfl, by decide, by decide⟩ rfl hl.1 rfl (Nat.le_of_ble_eq_true rfl) ⟨Nat.zero_le _, Nat.zero_le _⟩ dX7_draw_24) (fun H locs hP hS => ?_)
      exact g_iretM C hr hlk rfl (by rw [m_draw, if_neg c1, if_pos c2]) hP hS dX7_draw_27
  · refine lv_aload_n hx hb dX7_draw_8 rfl (lv_at hl 0 rfl) ?_
    refine lv_iconst (v := 0) hx hb dX7_draw_9 (by decide) ?_
    refine g_wrI0 hS (g_runV (As := [.int 0]) (rest := []) ky_yX7_finds lk_RX7_128 C hX (gS_b0 hI hS) hP 0 (c_yX7_finds l G ad hI σ 0 (by decide)) (by decide) (shM_0 G ad _) ⟨rfl, rfl, by decide, by decide⟩ rfl hl.1 rfl (Nat.le_of_ble_eq_true rfl) ⟨Nat.zero_le _, Nat.zero_le _⟩ dX7_draw_10) (fun H locs hP hS => ?_)
    exact g_iretM C hr hlk rfl (by rw [m_draw, if_pos c1]) hP hS dX7_draw_13

def m_who_L28 (σ : gM) (topic : Int32) (hand : Int32) : Nat → Nat → Int32 → Int32 × gM
  | 0, i, acc => (acc, σ)
  | n28 + 1, i, acc => if hand = 0 then (m_who_L28 σ topic hand n28 (i + 1) ((acc ||| (jshl ((jshr (m_its σ i 3) topic) &&& 1) (nI i))))) else (m_who_L28 σ topic hand n28 (i + 1) ((acc ||| (jshl ((jshr (m_its σ i 5) topic) &&& 1) (nI i)))))
def m_who (σ : gM) (topic : Int32) (hand : Int32) : Int32 × gM := if (m_isTopic topic) = 0 then ((m_finds σ 0).1, (m_finds σ 0).2) else (if (m_in ((hand).toInt64) 0 1) = 0 then ((m_finds σ 0).1, (m_finds σ 0).2) else (m_who_L28 σ topic hand (nN (σ 1 0)) 0 0))
def rm_yX7_who : Room := { frames := 2, cells := 0, slots := 0, locals := 45 }
set_option maxHeartbeats 4000000 in
set_option maxRecDepth 100000 in
theorem c_yX7_who (l : Launch) (G : gG) (ad : Nat → Nat) (hI : gI G.2.2.1 11 ad) (σ : gM) (topic : Int32) (hand : Int32) (N : Nat) (hN : N ≤ 8) (hs : σ 1 0 = nI N) : gMutI l yX7_who cX7_who 5 (some .int) rm_yX7_who G [.ref (ad 0), .int topic, .int hand] 11 ad (shM G ad) σ (m_who σ topic hand) := by
  refine g_start [.ref (ad 0), .int topic, .int hand] (by decide +kernel) (Nat.le_of_ble_eq_true rfl) ?_
  intro p e s m below meth c ls B Z hl
  obtain ⟨C, hr, hlk⟩ := B
  have hx := C.1
  have hb := C.2.1
  obtain ⟨hX, hP⟩ := Z
  have hS : va_S (gA 11 ad) s.heap s.heap [] := va_S.rf
  revert hP hS
  intro hP hS
  have hl : lv_has ls 5 [(0, .ref (ad 0)), (1, .int topic), (2, .int hand)] := hl
  refine lv_iload_n hx hb dX7_who_0 rfl (lv_at hl 1 rfl) ?_
  refine g_rd (g_runS (As := [.int topic]) (rest := []) ky_yX7_isTopic lk_RX7_147 C (c_yX7_isTopic l topic) ⟨rfl, rfl, by decide, by decide⟩ rfl hl.1 rfl (Nat.le_of_ble_eq_true rfl) ⟨Nat.zero_le _, Nat.zero_le _⟩ dX7_who_1) ?_
  refine lv_if_eq (tgt := 17) hx hb dX7_who_4 (by decide) (fun c1 => ?_) (fun c1 => ?_)
  · refine lv_aload_n hx hb dX7_who_17 rfl (lv_at hl 0 rfl) ?_
    refine lv_iconst (v := 0) hx hb dX7_who_18 (by decide) ?_
    refine g_wrI0 hS (g_runV (As := [.int 0]) (rest := []) ky_yX7_finds lk_RX7_128 C hX (gS_b0 hI hS) hP 0 (c_yX7_finds l G ad hI σ 0 (by decide)) (by decide) (shM_0 G ad _) ⟨rfl, rfl, by decide, by decide⟩ rfl hl.1 rfl (Nat.le_of_ble_eq_true rfl) ⟨Nat.zero_le _, Nat.zero_le _⟩ dX7_who_19) (fun H locs hP hS => ?_)
    exact g_iretM C hr hlk rfl (by rw [m_who, if_pos c1]) hP hS dX7_who_22
  · refine lv_iload_n hx hb dX7_who_7 rfl (lv_at hl 2 rfl) ?_
    refine lv_i2l (v := (hand).toInt64) hx hb dX7_who_8 rfl ?_
    refine lv_lconst (v := 0) hx hb dX7_who_9 (by decide) ?_
    refine lv_lconst (v := 1) hx hb dX7_who_10 (by decide) ?_
    refine g_rd (g_runS (As := [.long ((hand).toInt64), .long 0, .long 1]) (rest := []) ky_yX7_in lk_RX7_42 C (c_yX7_in l ((hand).toInt64) 0 1) ⟨rfl, rfl, by decide, by decide⟩ rfl hl.1 rfl (Nat.le_of_ble_eq_true rfl) ⟨Nat.zero_le _, Nat.zero_le _⟩ dX7_who_11) ?_
    refine lv_if_ne (tgt := 23) hx hb dX7_who_14 (by decide) (fun c2 => ?_) (fun c2 => ?_)
    · refine lv_iconst (v := 0) hx hb dX7_who_23 (by decide) ?_
      refine lv_istore_n (lv' := [(3, .int 0), (0, .ref (ad 0)), (1, .int topic), (2, .int hand)]) hx hb dX7_who_24 rfl hl (by decide) rfl (fun ls hl => ?_)
      refine lv_iconst (v := 0) hx hb dX7_who_25 (by decide) ?_
      refine lv_istore (lv' := [(4, .int 0), (3, .int 0), (0, .ref (ad 0)), (1, .int topic), (2, .int hand)]) hx hb dX7_who_26 hl (by decide) rfl (fun ls hl => ?_)
      suffices loop28 : ∀ (n28 : Nat) (i : Nat) (acc : Int32) (H : Heap) (locs : List Loc) (ls : Array Slot), (i + n28 = N) → m_who σ topic hand = (m_who_L28 σ topic hand n28 i acc) → gP G.1 11 ad (gE (shM G ad) σ) H → va_S (gA 11 ad) s.heap H locs → lv_has ls 5 [(4, .int (nI i)), (3, .int acc), (0, .ref (ad 0)), (1, .int topic), (2, .int hand)] → W p l e rm_yX7_who s m ([.ref (ad 0), .int topic, .int hand] : List Value).toArray below meth c H locs 0 0 (MQ below (va_Qi (fun (x : Int32) (τ : gM) => m_who σ topic hand = (x, τ)) (fun τ t => gP G.1 11 ad (gE (shM G ad) τ) t.heap) (gA 11 ad)) ([.ref (ad 0), .int topic, .int hand] : List Value).toArray s 0 0 (gA 11 ad)) (F0 m 28 ls []) by
        exact loop28 N 0 0 _ _ _ (by omega) (by rw [m_who, if_neg c1, if_neg c2, hs, nN_nI (by omega)]) hP hS (lv_sub hl [0, 1, 2, 3, 4] rfl)
      intro n28
      induction n28 with
      | zero =>
        intro i acc H locs ls hi28 hres28 hP hS hl
        refine lv_iload hx hb dX7_who_28 (lv_at hl 0 rfl) ?_
        refine lv_aload_n hx hb dX7_who_30 rfl (lv_at hl 2 rfl) ?_
        refine g_get fd_RX7_7 C hX hP 0 (by decide) (shM_0 G ad _) (v := .ref (ad 1)) rfl dX7_who_31 ?_
        refine lv_iconst (v := 0) hx hb dX7_who_34 (by decide) ?_
        refine lv_as (y := nI 0) rfl ?_
        refine g_iald C hX hP 1 (by decide) (shM_1 G ad _) 0 (by omega) (by decide) dX7_who_35 ?_
        refine lv_as (y := (nI N)) hs ?_
        refine lv_icmp_ge (tgt := 70) hx hb dX7_who_36 (by decide) (fun c3 => ?_) (fun c3 => ?_)
        · refine lv_iload_n hx hb dX7_who_70 rfl (lv_at hl 1 rfl) ?_
          exact g_iretM C hr hlk rfl (by rw [hres28, m_who_L28]) hP hS dX7_who_71
        · exact absurd (show nI (N) ≤ nI i from nI_le (by omega) (by omega)) c3
      | succ n28 ih28 =>
        intro i acc H locs ls hi28 hres28 hP hS hl
        refine lv_iload hx hb dX7_who_28 (lv_at hl 0 rfl) ?_
        refine lv_aload_n hx hb dX7_who_30 rfl (lv_at hl 2 rfl) ?_
        refine g_get fd_RX7_7 C hX hP 0 (by decide) (shM_0 G ad _) (v := .ref (ad 1)) rfl dX7_who_31 ?_
        refine lv_iconst (v := 0) hx hb dX7_who_34 (by decide) ?_
        refine lv_as (y := nI 0) rfl ?_
        refine g_iald C hX hP 1 (by decide) (shM_1 G ad _) 0 (by omega) (by decide) dX7_who_35 ?_
        refine lv_as (y := (nI N)) hs ?_
        refine lv_icmp_ge (tgt := 70) hx hb dX7_who_36 (by decide) (fun c4 => ?_) (fun c4 => ?_)
        · exact absurd (show nI (N) ≤ nI i from c4) (nI_ge (by omega) (by omega))
        · refine lv_iload_n hx hb dX7_who_39 rfl (lv_at hl 1 rfl) ?_
          refine lv_aload_n hx hb dX7_who_40 rfl (lv_at hl 2 rfl) ?_
          refine lv_iload hx hb dX7_who_41 (lv_at hl 0 rfl) ?_
          refine lv_iload_n hx hb dX7_who_43 rfl (lv_at hl 4 rfl) ?_
          refine lv_if_ne (tgt := 51) hx hb dX7_who_44 (by decide) (fun c5 => ?_) (fun c5 => ?_)
          · refine lv_iconst (v := 5) hx hb dX7_who_51 (by decide) ?_
            refine g_rd (g_runV (As := [.int (nI i), .int 5]) (rest := [.int acc]) ky_yX7_its lk_RX7_58 C hX (gS_b0 hI hS) hP 0 (c_yX7_its l G ad hI σ i 5 (by omega) (by decide)) (by decide) (shM_0 G ad _) ⟨rfl, rfl, by decide, by decide⟩ rfl hl.1 rfl (Nat.le_of_ble_eq_true rfl) ⟨Nat.zero_le _, Nat.zero_le _⟩ dX7_who_52) ?_
            refine lv_iload_n hx hb dX7_who_55 rfl (lv_at hl 3 rfl) ?_
            refine g_ishr hx hb dX7_who_56 ?_
            refine lv_iconst (v := 1) hx hb dX7_who_57 (by decide) ?_
            refine lv_iand hx hb dX7_who_58 ?_
            refine lv_iload hx hb dX7_who_59 (lv_at hl 0 rfl) ?_
            refine g_ishl hx hb dX7_who_61 ?_
            refine lv_ior hx hb dX7_who_62 ?_
            refine lv_istore_n (lv' := [(3, .int (acc ||| (jshl ((jshr (m_its σ i 5) topic) &&& 1) (nI i)))), (4, .int (nI i)), (0, .ref (ad 0)), (1, .int topic), (2, .int hand)]) hx hb dX7_who_63 rfl hl (by decide) rfl (fun ls hl => ?_)
            refine lv_iinc (v := (nI (i + 1))) (lv' := [(4, .int (nI (i + 1))), (3, .int (acc ||| (jshl ((jshr (m_its σ i 5) topic) &&& 1) (nI i)))), (0, .ref (ad 0)), (1, .int topic), (2, .int hand)]) hx hb dX7_who_64 hl (k := 1) rfl (by exact nI_1 _) (by decide) rfl (fun ls hl => ?_)
            refine lv_goto (tgt := 28) hx hb dX7_who_67 (by decide) ?_
            exact ih28 (i + 1) ((acc ||| (jshl ((jshr (m_its σ i 5) topic) &&& 1) (nI i)))) _ _ _ (by omega) (by rw [hres28, m_who_L28, if_neg c5]) hP hS (lv_sub hl [0, 1, 2, 3, 4] rfl)
          · refine lv_iconst (v := 3) hx hb dX7_who_47 (by decide) ?_
            refine lv_goto (tgt := 52) hx hb dX7_who_48 (by decide) ?_
            refine g_rd (g_runV (As := [.int (nI i), .int 3]) (rest := [.int acc]) ky_yX7_its lk_RX7_58 C hX (gS_b0 hI hS) hP 0 (c_yX7_its l G ad hI σ i 3 (by omega) (by decide)) (by decide) (shM_0 G ad _) ⟨rfl, rfl, by decide, by decide⟩ rfl hl.1 rfl (Nat.le_of_ble_eq_true rfl) ⟨Nat.zero_le _, Nat.zero_le _⟩ dX7_who_52) ?_
            refine lv_iload_n hx hb dX7_who_55 rfl (lv_at hl 3 rfl) ?_
            refine g_ishr hx hb dX7_who_56 ?_
            refine lv_iconst (v := 1) hx hb dX7_who_57 (by decide) ?_
            refine lv_iand hx hb dX7_who_58 ?_
            refine lv_iload hx hb dX7_who_59 (lv_at hl 0 rfl) ?_
            refine g_ishl hx hb dX7_who_61 ?_
            refine lv_ior hx hb dX7_who_62 ?_
            refine lv_istore_n (lv' := [(3, .int (acc ||| (jshl ((jshr (m_its σ i 3) topic) &&& 1) (nI i)))), (4, .int (nI i)), (0, .ref (ad 0)), (1, .int topic), (2, .int hand)]) hx hb dX7_who_63 rfl hl (by decide) rfl (fun ls hl => ?_)
            refine lv_iinc (v := (nI (i + 1))) (lv' := [(4, .int (nI (i + 1))), (3, .int (acc ||| (jshl ((jshr (m_its σ i 3) topic) &&& 1) (nI i)))), (0, .ref (ad 0)), (1, .int topic), (2, .int hand)]) hx hb dX7_who_64 hl (k := 1) rfl (by exact nI_1 _) (by decide) rfl (fun ls hl => ?_)
            refine lv_goto (tgt := 28) hx hb dX7_who_67 (by decide) ?_
            exact ih28 (i + 1) ((acc ||| (jshl ((jshr (m_its σ i 3) topic) &&& 1) (nI i)))) _ _ _ (by omega) (by rw [hres28, m_who_L28, if_pos c5]) hP hS (lv_sub hl [0, 1, 2, 3, 4] rfl)
    · refine lv_aload_n hx hb dX7_who_17 rfl (lv_at hl 0 rfl) ?_
      refine lv_iconst (v := 0) hx hb dX7_who_18 (by decide) ?_
      refine g_wrI0 hS (g_runV (As := [.int 0]) (rest := []) ky_yX7_finds lk_RX7_128 C hX (gS_b0 hI hS) hP 0 (c_yX7_finds l G ad hI σ 0 (by decide)) (by decide) (shM_0 G ad _) ⟨rfl, rfl, by decide, by decide⟩ rfl hl.1 rfl (Nat.le_of_ble_eq_true rfl) ⟨Nat.zero_le _, Nat.zero_le _⟩ dX7_who_19) (fun H locs hP hS => ?_)
      exact g_iretM C hr hlk rfl (by rw [m_who, if_neg c1, if_pos c2]) hP hS dX7_who_22

def m_go (σ : gM) (k : Int32) : Int32 × gM := if (m_in ((k).toInt64) 1 60) = 0 then ((m_finds σ 0).1, (m_finds σ 0).2) else (if ((σ 1 1) + k) ≤ 99999 then ((m_allKnow (m_daysGo σ (nN k))), (m_daysGo σ (nN k))) else ((m_finds σ 4).1, (m_finds σ 4).2))
def rm_yX7_go : Room := { frames := 7, cells := 0, slots := 0, locals := 158 }
set_option maxHeartbeats 4000000 in
set_option maxRecDepth 100000 in
theorem c_yX7_go (l : Launch) (G : gG) (ad : Nat → Nat) (hI : gI G.2.2.1 11 ad) (σ : gM) (k : Int32) (N : Nat) (hN : N ≤ 8) (hs : σ 1 0 = nI N) (hd : ¬ σ 1 1 < 0) : gMutI l yX7_go cX7_go 2 (some .int) rm_yX7_go G [.ref (ad 0), .int k] 11 ad (shM G ad) σ (m_go σ k) := by
  refine g_start [.ref (ad 0), .int k] (by decide +kernel) (Nat.le_of_ble_eq_true rfl) ?_
  intro p e s m below meth c ls B Z hl
  obtain ⟨C, hr, hlk⟩ := B
  have hx := C.1
  have hb := C.2.1
  obtain ⟨hX, hP⟩ := Z
  have hS : va_S (gA 11 ad) s.heap s.heap [] := va_S.rf
  revert hP hS
  intro hP hS
  have hl : lv_has ls 2 [(0, .ref (ad 0)), (1, .int k)] := hl
  refine lv_iload_n hx hb dX7_go_0 rfl (lv_at hl 1 rfl) ?_
  refine lv_i2l (v := (k).toInt64) hx hb dX7_go_1 rfl ?_
  refine lv_lconst (v := 1) hx hb dX7_go_2 (by decide) ?_
  refine lv_ldc2 hx hb C.2.2.2.1 (C.2.2.2.2 _ kc_RX7_150) dX7_go_3 ?_
  refine g_rd (g_runS (As := [.long ((k).toInt64), .long 1, .long 60]) (rest := []) ky_yX7_in lk_RX7_42 C (c_yX7_in l ((k).toInt64) 1 60) ⟨rfl, rfl, by decide, by decide⟩ rfl hl.1 rfl (Nat.le_of_ble_eq_true rfl) ⟨Nat.zero_le _, Nat.zero_le _⟩ dX7_go_6) ?_
  refine lv_if_ne (tgt := 18) hx hb dX7_go_9 (by decide) (fun c1 => ?_) (fun c1 => ?_)
  · obtain ⟨hk1, hk2⟩ := in_nat1 (M := 61) (by decide) (by decide) c1
    refine lv_aload_n hx hb dX7_go_18 rfl (lv_at hl 0 rfl) ?_
    refine g_get fd_RX7_7 C hX hP 0 (by decide) (shM_0 G ad _) (v := .ref (ad 1)) rfl dX7_go_19 ?_
    refine lv_iconst (v := 1) hx hb dX7_go_22 (by decide) ?_
    refine lv_as (y := nI 1) rfl ?_
    refine g_iald C hX hP 1 (by decide) (shM_1 G ad _) 1 (by omega) (by decide) dX7_go_23 ?_
    refine lv_iload_n hx hb dX7_go_24 rfl (lv_at hl 1 rfl) ?_
    refine lv_iadd hx hb dX7_go_25 ?_
    refine lv_ldc hx hb C.2.2.2.1 (C.2.2.2.2 _ kc_RX7_112) dX7_go_26 ?_
    refine lv_icmp_le (tgt := 37) hx hb dX7_go_28 (by decide) (fun c2 => ?_) (fun c2 => ?_)
    · refine lv_aload_n hx hb dX7_go_37 rfl (lv_at hl 0 rfl) ?_
      refine lv_iload_n hx hb dX7_go_38 rfl (lv_at hl 1 rfl) ?_
      refine lv_as (y := (nI (nN k))) hk1 ?_
      refine g_wrV0 hS (g_runV (As := [.int (nI (nN k))]) (rest := []) ky_yX7_daysGo lk_RX7_152 C hX (gS_b0 hI hS) hP 0 (c_yX7_daysGo l G ad hI σ (nN k) N hN hs hd (by omega)) (by decide) (shM_0 G ad _) ⟨rfl, rfl, by decide, by decide⟩ rfl hl.1 rfl (Nat.le_of_ble_eq_true rfl) ⟨Nat.zero_le _, Nat.zero_le _⟩ dX7_go_39) (fun H locs hP hS => ?_)
      refine lv_aload_n hx hb dX7_go_42 rfl (lv_at hl 0 rfl) ?_
      refine g_rd (g_runV (As := []) (rest := []) ky_yX7_allKnow lk_RX7_155 C hX (gS_b0 hI hS) hP 0 (c_yX7_allKnow l G ad hI (m_daysGo σ (nN k))  N hN ((dys_N _ _).trans hs)) (by decide) (shM_0 G ad _) ⟨rfl, rfl, by decide, by decide⟩ rfl hl.1 rfl (Nat.le_of_ble_eq_true rfl) ⟨Nat.zero_le _, Nat.zero_le _⟩ dX7_go_43) ?_
      exact g_iretM C hr hlk rfl (by rw [m_go, if_neg c1, if_pos c2]) hP hS dX7_go_46
    · refine lv_aload_n hx hb dX7_go_31 rfl (lv_at hl 0 rfl) ?_
      refine lv_iconst (v := 4) hx hb dX7_go_32 (by decide) ?_
      refine g_wrI0 hS (g_runV (As := [.int 4]) (rest := []) ky_yX7_finds lk_RX7_128 C hX (gS_b0 hI hS) hP 0 (c_yX7_finds l G ad hI σ 4 (by decide)) (by decide) (shM_0 G ad _) ⟨rfl, rfl, by decide, by decide⟩ rfl hl.1 rfl (Nat.le_of_ble_eq_true rfl) ⟨Nat.zero_le _, Nat.zero_le _⟩ dX7_go_33) (fun H locs hP hS => ?_)
      exact g_iretM C hr hlk rfl (by rw [m_go, if_neg c1, if_neg c2]) hP hS dX7_go_36
  · refine lv_aload_n hx hb dX7_go_12 rfl (lv_at hl 0 rfl) ?_
    refine lv_iconst (v := 0) hx hb dX7_go_13 (by decide) ?_
    refine g_wrI0 hS (g_runV (As := [.int 0]) (rest := []) ky_yX7_finds lk_RX7_128 C hX (gS_b0 hI hS) hP 0 (c_yX7_finds l G ad hI σ 0 (by decide)) (by decide) (shM_0 G ad _) ⟨rfl, rfl, by decide, by decide⟩ rfl hl.1 rfl (Nat.le_of_ble_eq_true rfl) ⟨Nat.zero_le _, Nat.zero_le _⟩ dX7_go_14) (fun H locs hP hS => ?_)
    exact g_iretM C hr hlk rfl (by rw [m_go, if_pos c1]) hP hS dX7_go_17

def m_wisest_L4 (σ : gM) : Nat → Nat → Int32 → Int32
  | 0, i, best => best
  | n4 + 1, i, best => if best < 0 then (m_wisest_L4 σ n4 (i + 1) (nI i)) else (if (m_ones (m_its σ i 5)) ≤ (m_ones (m_its σ (nN best) 5)) then (m_wisest_L4 σ n4 (i + 1) best) else (m_wisest_L4 σ n4 (i + 1) (nI i)))
def m_wisest (σ : gM) : Int32 := (m_wisest_L4 σ (nN (σ 1 0)) 0 (-1))
def rm_yX7_wisest : Room := { frames := 1, cells := 0, slots := 0, locals := 22 }
set_option maxHeartbeats 4000000 in
set_option maxRecDepth 100000 in
theorem c_yX7_wisest (l : Launch) (G : gG) (ad : Nat → Nat) (hI : gI G.2.2.1 11 ad) (σ : gM) (N : Nat) (hN : N ≤ 8) (hs : σ 1 0 = nI N) : gRead l yX7_wisest cX7_wisest 3 (some .int) rm_yX7_wisest G [.ref (ad 0)] 11 ad (gE (shM G ad) σ) (m_wisest σ) := by
  refine g_start [.ref (ad 0)] (by decide +kernel) (Nat.le_of_ble_eq_true rfl) ?_
  intro p e s m below meth c ls B Z hl
  obtain ⟨C, hr, hlk⟩ := B
  have hx := C.1
  have hb := C.2.1
  obtain ⟨hX, hP⟩ := Z
  have hS : va_S (gA 11 ad) s.heap s.heap [] := va_S.rf
  have hl : lv_has ls 3 [(0, .ref (ad 0))] := hl
  refine lv_iconst (v := (-1)) hx hb dX7_wisest_0 (by decide) ?_
  refine lv_istore_n (lv' := [(1, .int (-1)), (0, .ref (ad 0))]) hx hb dX7_wisest_1 rfl hl (by decide) rfl (fun ls hl => ?_)
  refine lv_iconst (v := 0) hx hb dX7_wisest_2 (by decide) ?_
  refine lv_istore_n (lv' := [(2, .int 0), (1, .int (-1)), (0, .ref (ad 0))]) hx hb dX7_wisest_3 rfl hl (by decide) rfl (fun ls hl => ?_)
  suffices loop4 : ∀ (n4 : Nat) (i : Nat) (best : Int32) (ls : Array Slot), (i + n4 = N) → (best < 0 ∨ (best = nI (nN best) ∧ nN best < 8)) → m_wisest σ = (m_wisest_L4 σ n4 i best) → lv_has ls 3 [(2, .int (nI i)), (1, .int best), (0, .ref (ad 0))] → W p l e rm_yX7_wisest s m ([.ref (ad 0)] : List Value).toArray below meth c s.heap [] 0 0 (MQ below (vp_Si (fun x => x = m_wisest σ)) ([.ref (ad 0)] : List Value).toArray s 0 0 (fun _ => False)) (F0 m 4 ls []) by
    exact loop4 N 0 (-1) _ (by omega) (Or.inl (by decide)) (by rw [m_wisest, hs, nN_nI (by omega)]) (lv_sub hl [0, 1, 2] rfl)
  intro n4
  induction n4 with
  | zero =>
    intro i best ls hi4 hbe hres4 hl
    refine lv_iload_n hx hb dX7_wisest_4 rfl (lv_at hl 0 rfl) ?_
    refine lv_aload_n hx hb dX7_wisest_5 rfl (lv_at hl 2 rfl) ?_
    refine g_get fd_RX7_7 C hX hP 0 (by decide) (shM_0 G ad _) (v := .ref (ad 1)) rfl dX7_wisest_6 ?_
    refine lv_iconst (v := 0) hx hb dX7_wisest_9 (by decide) ?_
    refine lv_as (y := nI 0) rfl ?_
    refine g_iald C hX hP 1 (by decide) (shM_1 G ad _) 0 (by omega) (by decide) dX7_wisest_10 ?_
    refine lv_as (y := (nI N)) hs ?_
    refine lv_icmp_ge (tgt := 51) hx hb dX7_wisest_11 (by decide) (fun c1 => ?_) (fun c1 => ?_)
    · refine lv_iload_n hx hb dX7_wisest_51 rfl (lv_at hl 1 rfl) ?_
      exact g_iret C hr hlk rfl (by rw [hres4, m_wisest_L4]) rfl rfl dX7_wisest_52
    · exact absurd (show nI (N) ≤ nI i from nI_le (by omega) (by omega)) c1
  | succ n4 ih4 =>
    intro i best ls hi4 hbe hres4 hl
    refine lv_iload_n hx hb dX7_wisest_4 rfl (lv_at hl 0 rfl) ?_
    refine lv_aload_n hx hb dX7_wisest_5 rfl (lv_at hl 2 rfl) ?_
    refine g_get fd_RX7_7 C hX hP 0 (by decide) (shM_0 G ad _) (v := .ref (ad 1)) rfl dX7_wisest_6 ?_
    refine lv_iconst (v := 0) hx hb dX7_wisest_9 (by decide) ?_
    refine lv_as (y := nI 0) rfl ?_
    refine g_iald C hX hP 1 (by decide) (shM_1 G ad _) 0 (by omega) (by decide) dX7_wisest_10 ?_
    refine lv_as (y := (nI N)) hs ?_
    refine lv_icmp_ge (tgt := 51) hx hb dX7_wisest_11 (by decide) (fun c2 => ?_) (fun c2 => ?_)
    · exact absurd (show nI (N) ≤ nI i from c2) (nI_ge (by omega) (by omega))
    · refine lv_iload_n hx hb dX7_wisest_14 rfl (lv_at hl 1 rfl) ?_
      refine lv_if_lt (tgt := 39) hx hb dX7_wisest_15 (by decide) (fun c3 => ?_) (fun c3 => ?_)
      · refine lv_iload_n hx hb dX7_wisest_39 rfl (lv_at hl 0 rfl) ?_
        refine lv_goto (tgt := 44) hx hb dX7_wisest_40 (by decide) ?_
        refine lv_istore_n (lv' := [(1, .int (nI i)), (2, .int (nI i)), (0, .ref (ad 0))]) hx hb dX7_wisest_44 rfl hl (by decide) rfl (fun ls hl => ?_)
        refine lv_iinc (v := (nI (i + 1))) (lv' := [(2, .int (nI (i + 1))), (1, .int (nI i)), (0, .ref (ad 0))]) hx hb dX7_wisest_45 hl (k := 1) rfl (by exact nI_1 _) (by decide) rfl (fun ls hl => ?_)
        refine lv_goto (tgt := 4) hx hb dX7_wisest_48 (by decide) ?_
        exact ih4 (i + 1) (nI i) _ (by omega) (by first | exact hbe | exact Or.inr ⟨by rw [nN_nI (by omega)], by rw [nN_nI (by omega)]; omega⟩) (by rw [hres4, m_wisest_L4, if_pos c3]) (lv_sub hl [0, 1, 2] rfl)
      · obtain ⟨hb1, hb2⟩ := hbe.resolve_left c3
        refine lv_aload_n hx hb dX7_wisest_18 rfl (lv_at hl 2 rfl) ?_
        refine lv_iload_n hx hb dX7_wisest_19 rfl (lv_at hl 0 rfl) ?_
        refine lv_iconst (v := 5) hx hb dX7_wisest_20 (by decide) ?_
        refine g_rd (g_runV (As := [.int (nI i), .int 5]) (rest := []) ky_yX7_its lk_RX7_58 C hX (gS_b0 hI hS) hP 0 (c_yX7_its l G ad hI σ i 5 (by omega) (by decide)) (by decide) (shM_0 G ad _) ⟨rfl, rfl, by decide, by decide⟩ rfl hl.1 rfl (Nat.le_of_ble_eq_true rfl) ⟨Nat.zero_le _, Nat.zero_le _⟩ dX7_wisest_21) ?_
        refine g_rd (g_runS (As := [.int (m_its σ i 5)]) (rest := []) ky_yX7_ones lk_RX7_84 C (c_yX7_ones l (m_its σ i 5)) ⟨rfl, rfl, by decide, by decide⟩ rfl hl.1 rfl (Nat.le_of_ble_eq_true rfl) ⟨Nat.zero_le _, Nat.zero_le _⟩ dX7_wisest_24) ?_
        refine lv_aload_n hx hb dX7_wisest_27 rfl (lv_at hl 2 rfl) ?_
        refine lv_iload_n hx hb dX7_wisest_28 rfl (lv_at hl 1 rfl) ?_
        refine lv_as (y := (nI (nN best))) hb1 ?_
        refine lv_iconst (v := 5) hx hb dX7_wisest_29 (by decide) ?_
        refine g_rd (g_runV (As := [.int (nI (nN best)), .int 5]) (rest := [.int (m_ones (m_its σ i 5))]) ky_yX7_its lk_RX7_58 C hX (gS_b0 hI hS) hP 0 (c_yX7_its l G ad hI σ (nN best) 5 (by omega) (by decide)) (by decide) (shM_0 G ad _) ⟨rfl, rfl, by decide, by decide⟩ rfl hl.1 rfl (Nat.le_of_ble_eq_true rfl) ⟨Nat.zero_le _, Nat.zero_le _⟩ dX7_wisest_30) ?_
        refine g_rd (g_runS (As := [.int (m_its σ (nN best) 5)]) (rest := [.int (m_ones (m_its σ i 5))]) ky_yX7_ones lk_RX7_84 C (c_yX7_ones l (m_its σ (nN best) 5)) ⟨rfl, rfl, by decide, by decide⟩ rfl hl.1 rfl (Nat.le_of_ble_eq_true rfl) ⟨Nat.zero_le _, Nat.zero_le _⟩ dX7_wisest_33) ?_
        refine lv_icmp_le (tgt := 43) hx hb dX7_wisest_36 (by decide) (fun c4 => ?_) (fun c4 => ?_)
        · refine lv_iload_n hx hb dX7_wisest_43 rfl (lv_at hl 1 rfl) ?_
          refine lv_istore_n (lv' := [(1, .int best), (2, .int (nI i)), (0, .ref (ad 0))]) hx hb dX7_wisest_44 rfl hl (by decide) rfl (fun ls hl => ?_)
          refine lv_iinc (v := (nI (i + 1))) (lv' := [(2, .int (nI (i + 1))), (1, .int best), (0, .ref (ad 0))]) hx hb dX7_wisest_45 hl (k := 1) rfl (by exact nI_1 _) (by decide) rfl (fun ls hl => ?_)
          refine lv_goto (tgt := 4) hx hb dX7_wisest_48 (by decide) ?_
          exact ih4 (i + 1) best _ (by omega) (by first | exact hbe | exact Or.inr ⟨by rw [nN_nI (by omega)], by rw [nN_nI (by omega)]; omega⟩) (by rw [hres4, m_wisest_L4, if_neg c3, if_pos c4]) (lv_sub hl [0, 1, 2] rfl)
        · refine lv_iload_n hx hb dX7_wisest_39 rfl (lv_at hl 0 rfl) ?_
          refine lv_goto (tgt := 44) hx hb dX7_wisest_40 (by decide) ?_
          refine lv_istore_n (lv' := [(1, .int (nI i)), (2, .int (nI i)), (0, .ref (ad 0))]) hx hb dX7_wisest_44 rfl hl (by decide) rfl (fun ls hl => ?_)
          refine lv_iinc (v := (nI (i + 1))) (lv' := [(2, .int (nI (i + 1))), (1, .int (nI i)), (0, .ref (ad 0))]) hx hb dX7_wisest_45 hl (k := 1) rfl (by exact nI_1 _) (by decide) rfl (fun ls hl => ?_)
          refine lv_goto (tgt := 4) hx hb dX7_wisest_48 (by decide) ?_
          exact ih4 (i + 1) (nI i) _ (by omega) (by first | exact hbe | exact Or.inr ⟨by rw [nN_nI (by omega)], by rw [nN_nI (by omega)]; omega⟩) (by rw [hres4, m_wisest_L4, if_neg c3, if_neg c4]) (lv_sub hl [0, 1, 2] rfl)

def m_now (σ : gM) (what : Int32) : Int32 × gM := if what = 0 then ((σ 1 1), σ) else (if what = 1 then ((m_allKnow σ), σ) else (if what = 2 then ((m_allHands σ), σ) else (if what = 3 then ((65535 &&& (((m_allKnow σ) ||| (m_allHands σ)) ^^^ (-1))), σ) else (if what = 4 then ((m_allDrawn σ), σ) else (if what = 5 then ((m_wisest σ), σ) else (if what = 6 then ((m_hearers σ (m_todays σ)), σ) else ((m_finds σ 0).1, (m_finds σ 0).2)))))))
def rm_yX7_now : Room := { frames := 5, cells := 0, slots := 0, locals := 114 }
set_option maxHeartbeats 4000000 in
set_option maxRecDepth 100000 in
theorem c_yX7_now (l : Launch) (G : gG) (ad : Nat → Nat) (hI : gI G.2.2.1 11 ad) (σ : gM) (what : Int32) (N : Nat) (hN : N ≤ 8) (hs : σ 1 0 = nI N) (hd : ¬ σ 1 1 < 0) : gMutI l yX7_now cX7_now 2 (some .int) rm_yX7_now G [.ref (ad 0), .int what] 11 ad (shM G ad) σ (m_now σ what) := by
  refine g_start [.ref (ad 0), .int what] (by decide +kernel) (Nat.le_of_ble_eq_true rfl) ?_
  intro p e s m below meth c ls B Z hl
  obtain ⟨C, hr, hlk⟩ := B
  have hx := C.1
  have hb := C.2.1
  obtain ⟨hX, hP⟩ := Z
  have hS : va_S (gA 11 ad) s.heap s.heap [] := va_S.rf
  revert hP hS
  intro hP hS
  have hl : lv_has ls 2 [(0, .ref (ad 0)), (1, .int what)] := hl
  refine lv_iload_n hx hb dX7_now_0 rfl (lv_at hl 1 rfl) ?_
  by_cases c1 : what = 0
  · refine lv_as (y := 0) c1 ?_
    refine lv_tableIn (tgt := 44) (off := 43) hx hb dX7_now_1 (by decide) (by decide) (by decide) (by decide) ?_
    refine lv_aload_n hx hb dX7_now_44 rfl (lv_at hl 0 rfl) ?_
    refine g_get fd_RX7_7 C hX hP 0 (by decide) (shM_0 G ad _) (v := .ref (ad 1)) rfl dX7_now_45 ?_
    refine lv_iconst (v := 1) hx hb dX7_now_48 (by decide) ?_
    refine lv_as (y := nI 1) rfl ?_
    refine g_iald C hX hP 1 (by decide) (shM_1 G ad _) 1 (by omega) (by decide) dX7_now_49 ?_
    exact g_iretM C hr hlk rfl (by rw [m_now, if_pos c1]) hP hS dX7_now_50
  by_cases c2 : what = 1
  · refine lv_as (y := 1) c2 ?_
    refine lv_tableIn (tgt := 51) (off := 50) hx hb dX7_now_1 (by decide) (by decide) (by decide) (by decide) ?_
    refine lv_aload_n hx hb dX7_now_51 rfl (lv_at hl 0 rfl) ?_
    refine g_rd (g_runV (As := []) (rest := []) ky_yX7_allKnow lk_RX7_155 C hX (gS_b0 hI hS) hP 0 (c_yX7_allKnow l G ad hI σ  N hN hs) (by decide) (shM_0 G ad _) ⟨rfl, rfl, by decide, by decide⟩ rfl hl.1 rfl (Nat.le_of_ble_eq_true rfl) ⟨Nat.zero_le _, Nat.zero_le _⟩ dX7_now_52) ?_
    exact g_iretM C hr hlk rfl (by rw [m_now, if_neg c1, if_pos c2]) hP hS dX7_now_55
  by_cases c3 : what = 2
  · refine lv_as (y := 2) c3 ?_
    refine lv_tableIn (tgt := 56) (off := 55) hx hb dX7_now_1 (by decide) (by decide) (by decide) (by decide) ?_
    refine lv_aload_n hx hb dX7_now_56 rfl (lv_at hl 0 rfl) ?_
    refine g_rd (g_runV (As := []) (rest := []) ky_yX7_allHands lk_RX7_158 C hX (gS_b0 hI hS) hP 0 (c_yX7_allHands l G ad hI σ  N hN hs) (by decide) (shM_0 G ad _) ⟨rfl, rfl, by decide, by decide⟩ rfl hl.1 rfl (Nat.le_of_ble_eq_true rfl) ⟨Nat.zero_le _, Nat.zero_le _⟩ dX7_now_57) ?_
    exact g_iretM C hr hlk rfl (by rw [m_now, if_neg c1, if_neg c2, if_pos c3]) hP hS dX7_now_60
  by_cases c4 : what = 3
  · refine lv_as (y := 3) c4 ?_
    refine lv_tableIn (tgt := 61) (off := 60) hx hb dX7_now_1 (by decide) (by decide) (by decide) (by decide) ?_
    refine lv_ldc hx hb C.2.2.2.1 (C.2.2.2.2 _ kc_RX7_143) dX7_now_61 ?_
    refine lv_aload_n hx hb dX7_now_63 rfl (lv_at hl 0 rfl) ?_
    refine g_rd (g_runV (As := []) (rest := [.int 65535]) ky_yX7_allKnow lk_RX7_155 C hX (gS_b0 hI hS) hP 0 (c_yX7_allKnow l G ad hI σ  N hN hs) (by decide) (shM_0 G ad _) ⟨rfl, rfl, by decide, by decide⟩ rfl hl.1 rfl (Nat.le_of_ble_eq_true rfl) ⟨Nat.zero_le _, Nat.zero_le _⟩ dX7_now_64) ?_
    refine lv_aload_n hx hb dX7_now_67 rfl (lv_at hl 0 rfl) ?_
    refine g_rd (g_runV (As := []) (rest := [.int (m_allKnow σ), .int 65535]) ky_yX7_allHands lk_RX7_158 C hX (gS_b0 hI hS) hP 0 (c_yX7_allHands l G ad hI σ  N hN hs) (by decide) (shM_0 G ad _) ⟨rfl, rfl, by decide, by decide⟩ rfl hl.1 rfl (Nat.le_of_ble_eq_true rfl) ⟨Nat.zero_le _, Nat.zero_le _⟩ dX7_now_68) ?_
    refine lv_ior hx hb dX7_now_71 ?_
    refine lv_iconst (v := (-1)) hx hb dX7_now_72 (by decide) ?_
    refine lv_ixor hx hb dX7_now_73 ?_
    refine lv_iand hx hb dX7_now_74 ?_
    exact g_iretM C hr hlk rfl (by rw [m_now, if_neg c1, if_neg c2, if_neg c3, if_pos c4]) hP hS dX7_now_75
  by_cases c5 : what = 4
  · refine lv_as (y := 4) c5 ?_
    refine lv_tableIn (tgt := 76) (off := 75) hx hb dX7_now_1 (by decide) (by decide) (by decide) (by decide) ?_
    refine lv_aload_n hx hb dX7_now_76 rfl (lv_at hl 0 rfl) ?_
    refine g_rd (g_runV (As := []) (rest := []) ky_yX7_allDrawn lk_RX7_161 C hX (gS_b0 hI hS) hP 0 (c_yX7_allDrawn l G ad hI σ  N hN hs) (by decide) (shM_0 G ad _) ⟨rfl, rfl, by decide, by decide⟩ rfl hl.1 rfl (Nat.le_of_ble_eq_true rfl) ⟨Nat.zero_le _, Nat.zero_le _⟩ dX7_now_77) ?_
    exact g_iretM C hr hlk rfl (by rw [m_now, if_neg c1, if_neg c2, if_neg c3, if_neg c4, if_pos c5]) hP hS dX7_now_80
  by_cases c6 : what = 5
  · refine lv_as (y := 5) c6 ?_
    refine lv_tableIn (tgt := 81) (off := 80) hx hb dX7_now_1 (by decide) (by decide) (by decide) (by decide) ?_
    refine lv_aload_n hx hb dX7_now_81 rfl (lv_at hl 0 rfl) ?_
    refine g_rd (g_runV (As := []) (rest := []) ky_yX7_wisest lk_RX7_164 C hX (gS_b0 hI hS) hP 0 (c_yX7_wisest l G ad hI σ  N hN hs) (by decide) (shM_0 G ad _) ⟨rfl, rfl, by decide, by decide⟩ rfl hl.1 rfl (Nat.le_of_ble_eq_true rfl) ⟨Nat.zero_le _, Nat.zero_le _⟩ dX7_now_82) ?_
    exact g_iretM C hr hlk rfl (by rw [m_now, if_neg c1, if_neg c2, if_neg c3, if_neg c4, if_neg c5, if_pos c6]) hP hS dX7_now_85
  by_cases c7 : what = 6
  · refine lv_as (y := 6) c7 ?_
    refine lv_tableIn (tgt := 86) (off := 85) hx hb dX7_now_1 (by decide) (by decide) (by decide) (by decide) ?_
    refine lv_aload_n hx hb dX7_now_86 rfl (lv_at hl 0 rfl) ?_
    refine lv_aload_n hx hb dX7_now_87 rfl (lv_at hl 0 rfl) ?_
    refine g_rd (g_runV (As := []) (rest := [.ref (ad 0)]) ky_yX7_todays lk_RX7_94 C hX (gS_b0 hI hS) hP 0 (c_yX7_todays l G ad hI σ  hd) (by decide) (shM_0 G ad _) ⟨rfl, rfl, by decide, by decide⟩ rfl hl.1 rfl (Nat.le_of_ble_eq_true rfl) ⟨Nat.zero_le _, Nat.zero_le _⟩ dX7_now_88) ?_
    refine g_rd (g_runV (As := [.int (m_todays σ)]) (rest := []) ky_yX7_hearers lk_RX7_98 C hX (gS_b0 hI hS) hP 0 (c_yX7_hearers l G ad hI σ (m_todays σ) N hN hs) (by decide) (shM_0 G ad _) ⟨rfl, rfl, by decide, by decide⟩ rfl hl.1 rfl (Nat.le_of_ble_eq_true rfl) ⟨Nat.zero_le _, Nat.zero_le _⟩ dX7_now_91) ?_
    exact g_iretM C hr hlk rfl (by rw [m_now, if_neg c1, if_neg c2, if_neg c3, if_neg c4, if_neg c5, if_neg c6, if_pos c7]) hP hS dX7_now_94
  have h8 := lv_neT (a := 0) c1 (by decide)
  have h9 := lv_neT (a := 1) c2 (by decide)
  have h10 := lv_neT (a := 2) c3 (by decide)
  have h11 := lv_neT (a := 3) c4 (by decide)
  have h12 := lv_neT (a := 4) c5 (by decide)
  have h13 := lv_neT (a := 5) c6 (by decide)
  have h14 := lv_neT (a := 6) c7 (by decide)
  refine lv_tableOut (tgt := 95) hx hb dX7_now_1 (by omega) (by decide) ?_
  refine lv_aload_n hx hb dX7_now_95 rfl (lv_at hl 0 rfl) ?_
  refine lv_iconst (v := 0) hx hb dX7_now_96 (by decide) ?_
  refine g_wrI0 hS (g_runV (As := [.int 0]) (rest := []) ky_yX7_finds lk_RX7_128 C hX (gS_b0 hI hS) hP 0 (c_yX7_finds l G ad hI σ 0 (by decide)) (by decide) (shM_0 G ad _) ⟨rfl, rfl, by decide, by decide⟩ rfl hl.1 rfl (Nat.le_of_ble_eq_true rfl) ⟨Nat.zero_le _, Nat.zero_le _⟩ dX7_now_97) (fun H locs hP hS => ?_)
  exact g_iretM C hr hlk rfl (by rw [m_now, if_neg c1, if_neg c2, if_neg c3, if_neg c4, if_neg c5, if_neg c6, if_neg c7]) hP hS dX7_now_100

def m_behind (σ : gM) (k : Nat) (w : Nat) : Int32 × gM := (((m_daysGo σ k) 1 w), (m_copies (m_daysGo σ k) 3 1))
def rm_yX7_behind : Room := { frames := 7, cells := 0, slots := 0, locals := 158 }
set_option maxHeartbeats 4000000 in
set_option maxRecDepth 100000 in
theorem c_yX7_behind (l : Launch) (G : gG) (ad : Nat → Nat) (hI : gI G.2.2.1 11 ad) (σ : gM) (k : Nat) (w : Nat) (N : Nat) (hN : N ≤ 8) (hs : σ 1 0 = nI N) (hd : ¬ σ 1 1 < 0) (hk : k < 1000) (hw : w < 75) : gMutI l yX7_behind cX7_behind 4 (some .int) rm_yX7_behind G [.ref (ad 0), .int (nI k), .int (nI w)] 11 ad (shM G ad) σ (m_behind σ k w) := by
  refine g_start [.ref (ad 0), .int (nI k), .int (nI w)] (by decide +kernel) (Nat.le_of_ble_eq_true rfl) ?_
  intro p e s m below meth c ls B Z hl
  obtain ⟨C, hr, hlk⟩ := B
  have hx := C.1
  have hb := C.2.1
  obtain ⟨hX, hP⟩ := Z
  have hS : va_S (gA 11 ad) s.heap s.heap [] := va_S.rf
  revert hP hS
  intro hP hS
  have hl : lv_has ls 4 [(0, .ref (ad 0)), (1, .int (nI k)), (2, .int (nI w))] := hl
  refine lv_aload_n hx hb dX7_behind_0 rfl (lv_at hl 0 rfl) ?_
  refine lv_iload_n hx hb dX7_behind_1 rfl (lv_at hl 1 rfl) ?_
  refine g_wrV0 hS (g_runV (As := [.int (nI k)]) (rest := []) ky_yX7_daysGo lk_RX7_152 C hX (gS_b0 hI hS) hP 0 (c_yX7_daysGo l G ad hI σ k N hN hs hd hk) (by decide) (shM_0 G ad _) ⟨rfl, rfl, by decide, by decide⟩ rfl hl.1 rfl (Nat.le_of_ble_eq_true rfl) ⟨Nat.zero_le _, Nat.zero_le _⟩ dX7_behind_2) (fun H locs hP hS => ?_)
  refine lv_aload_n hx hb dX7_behind_5 rfl (lv_at hl 0 rfl) ?_
  refine g_get fd_RX7_7 C hX hP 0 (by decide) (shM_0 G ad _) (v := .ref (ad 1)) rfl dX7_behind_6 ?_
  refine lv_iload_n hx hb dX7_behind_9 rfl (lv_at hl 2 rfl) ?_
  refine g_iald C hX hP 1 (by decide) (shM_1 G ad _) w (by omega) (by decide) dX7_behind_10 ?_
  refine lv_istore_n (lv' := [(3, .int ((m_daysGo σ k) 1 w)), (0, .ref (ad 0)), (1, .int (nI k)), (2, .int (nI w))]) hx hb dX7_behind_11 rfl hl (by decide) rfl (fun ls hl => ?_)
  refine lv_aload_n hx hb dX7_behind_12 rfl (lv_at hl 1 rfl) ?_
  refine g_get fd_RX7_16 C hX hP 0 (by decide) (shM_0 G ad _) (v := .ref (ad 3)) rfl dX7_behind_13 ?_
  refine lv_aload_n hx hb dX7_behind_16 rfl (lv_at hl 1 rfl) ?_
  refine g_get fd_RX7_7 C hX hP 0 (by decide) (shM_0 G ad _) (v := .ref (ad 1)) rfl dX7_behind_17 ?_
  refine g_wrV0 hS (g_runSW (As := [.ref (ad 3), .ref (ad 1)]) (rest := []) ky_yX7_copies lk_RX7_167 C hX (gS_b0 hI hS) hP (c_yX7_copies l G ad hI (m_daysGo σ k) 3 1 (by decide) (by decide) (fun _ => rfl) (fun _ => rfl)) ⟨rfl, rfl, by decide, by decide⟩ rfl hl.1 rfl (Nat.le_of_ble_eq_true rfl) ⟨Nat.zero_le _, Nat.zero_le _⟩ dX7_behind_20) (fun H locs hP hS => ?_)
  refine lv_iload_n hx hb dX7_behind_23 rfl (lv_at hl 0 rfl) ?_
  exact g_iretM C hr hlk rfl (by rw [m_behind]) hP hS dX7_behind_24

def m_ahead_m1 (σ : gM) (glove : Int32) (what : Int32) (k : Int32) (σ1 : gM) : Int32 × gM := ((m_behind σ1 (nN k) (9 + 8 * nN what + nN glove)).1, (m_behind σ1 (nN k) (9 + 8 * nN what + nN glove)).2)
def m_ahead (σ : gM) (glove : Int32) (what : Int32) (k : Int32) : Int32 × gM := if (m_isGlove σ glove) = 0 then ((m_finds σ 0).1, (m_finds σ 0).2) else (if (m_in ((what).toInt64) 1 6) = 0 then ((m_finds σ 0).1, (m_finds σ 0).2) else (if what = 2 then ((m_finds σ 0).1, (m_finds σ 0).2) else (if (m_in ((k).toInt64) 0 100) = 0 then ((m_finds σ 0).1, (m_finds σ 0).2) else (m_ahead_m1 σ glove what k (m_copies σ 1 3)))))
def rm_yX7_ahead : Room := { frames := 8, cells := 0, slots := 0, locals := 181 }
set_option maxHeartbeats 4000000 in
set_option maxRecDepth 100000 in
theorem c_yX7_ahead (l : Launch) (G : gG) (ad : Nat → Nat) (hI : gI G.2.2.1 11 ad) (σ : gM) (glove : Int32) (what : Int32) (k : Int32) (N : Nat) (hN : N ≤ 8) (hs : σ 1 0 = nI N) (hd : ¬ σ 1 1 < 0) : gMutI l yX7_ahead cX7_ahead 4 (some .int) rm_yX7_ahead G [.ref (ad 0), .int glove, .int what, .int k] 11 ad (shM G ad) σ (m_ahead σ glove what k) := by
  refine g_start [.ref (ad 0), .int glove, .int what, .int k] (by decide +kernel) (Nat.le_of_ble_eq_true rfl) ?_
  intro p e s m below meth c ls B Z hl
  obtain ⟨C, hr, hlk⟩ := B
  have hx := C.1
  have hb := C.2.1
  obtain ⟨hX, hP⟩ := Z
  have hS : va_S (gA 11 ad) s.heap s.heap [] := va_S.rf
  revert hP hS
  intro hP hS
  have hl : lv_has ls 4 [(0, .ref (ad 0)), (1, .int glove), (2, .int what), (3, .int k)] := hl
  refine lv_aload_n hx hb dX7_ahead_0 rfl (lv_at hl 0 rfl) ?_
  refine lv_iload_n hx hb dX7_ahead_1 rfl (lv_at hl 1 rfl) ?_
  refine g_rd (g_runV (As := [.int glove]) (rest := []) ky_yX7_isGlove lk_RX7_138 C hX (gS_b0 hI hS) hP 0 (c_yX7_isGlove l G ad hI σ glove) (by decide) (shM_0 G ad _) ⟨rfl, rfl, by decide, by decide⟩ rfl hl.1 rfl (Nat.le_of_ble_eq_true rfl) ⟨Nat.zero_le _, Nat.zero_le _⟩ dX7_ahead_2) ?_
  refine lv_if_eq (tgt := 37) hx hb dX7_ahead_5 (by decide) (fun c1 => ?_) (fun c1 => ?_)
  · refine lv_aload_n hx hb dX7_ahead_37 rfl (lv_at hl 0 rfl) ?_
    refine lv_iconst (v := 0) hx hb dX7_ahead_38 (by decide) ?_
    refine g_wrI0 hS (g_runV (As := [.int 0]) (rest := []) ky_yX7_finds lk_RX7_128 C hX (gS_b0 hI hS) hP 0 (c_yX7_finds l G ad hI σ 0 (by decide)) (by decide) (shM_0 G ad _) ⟨rfl, rfl, by decide, by decide⟩ rfl hl.1 rfl (Nat.le_of_ble_eq_true rfl) ⟨Nat.zero_le _, Nat.zero_le _⟩ dX7_ahead_39) (fun H locs hP hS => ?_)
    exact g_iretM C hr hlk rfl (by rw [m_ahead, if_pos c1]) hP hS dX7_ahead_42
  · obtain ⟨hg1, hg2⟩ := glv_of hN hs c1
    refine lv_iload_n hx hb dX7_ahead_8 rfl (lv_at hl 2 rfl) ?_
    refine lv_i2l (v := (what).toInt64) hx hb dX7_ahead_9 rfl ?_
    refine lv_lconst (v := 1) hx hb dX7_ahead_10 (by decide) ?_
    refine lv_ldc2 hx hb C.2.2.2.1 (C.2.2.2.2 _ kc_RX7_133) dX7_ahead_11 ?_
    refine g_rd (g_runS (As := [.long ((what).toInt64), .long 1, .long 6]) (rest := []) ky_yX7_in lk_RX7_42 C (c_yX7_in l ((what).toInt64) 1 6) ⟨rfl, rfl, by decide, by decide⟩ rfl hl.1 rfl (Nat.le_of_ble_eq_true rfl) ⟨Nat.zero_le _, Nat.zero_le _⟩ dX7_ahead_14) ?_
    refine lv_if_eq (tgt := 37) hx hb dX7_ahead_17 (by decide) (fun c2 => ?_) (fun c2 => ?_)
    · refine lv_aload_n hx hb dX7_ahead_37 rfl (lv_at hl 0 rfl) ?_
      refine lv_iconst (v := 0) hx hb dX7_ahead_38 (by decide) ?_
      refine g_wrI0 hS (g_runV (As := [.int 0]) (rest := []) ky_yX7_finds lk_RX7_128 C hX (gS_b0 hI hS) hP 0 (c_yX7_finds l G ad hI σ 0 (by decide)) (by decide) (shM_0 G ad _) ⟨rfl, rfl, by decide, by decide⟩ rfl hl.1 rfl (Nat.le_of_ble_eq_true rfl) ⟨Nat.zero_le _, Nat.zero_le _⟩ dX7_ahead_39) (fun H locs hP hS => ?_)
      exact g_iretM C hr hlk rfl (by rw [m_ahead, if_neg c1, if_pos c2]) hP hS dX7_ahead_42
    · obtain ⟨hw1, hw2⟩ := in_nat1 (M := 7) (by decide) (by decide) c2
      refine lv_iload_n hx hb dX7_ahead_20 rfl (lv_at hl 2 rfl) ?_
      refine lv_iconst (v := 2) hx hb dX7_ahead_21 (by decide) ?_
      refine lv_icmp_eq (tgt := 37) hx hb dX7_ahead_22 (by decide) (fun c3 => ?_) (fun c3 => ?_)
      · refine lv_aload_n hx hb dX7_ahead_37 rfl (lv_at hl 0 rfl) ?_
        refine lv_iconst (v := 0) hx hb dX7_ahead_38 (by decide) ?_
        refine g_wrI0 hS (g_runV (As := [.int 0]) (rest := []) ky_yX7_finds lk_RX7_128 C hX (gS_b0 hI hS) hP 0 (c_yX7_finds l G ad hI σ 0 (by decide)) (by decide) (shM_0 G ad _) ⟨rfl, rfl, by decide, by decide⟩ rfl hl.1 rfl (Nat.le_of_ble_eq_true rfl) ⟨Nat.zero_le _, Nat.zero_le _⟩ dX7_ahead_39) (fun H locs hP hS => ?_)
        exact g_iretM C hr hlk rfl (by rw [m_ahead, if_neg c1, if_neg c2, if_pos c3]) hP hS dX7_ahead_42
      · refine lv_iload_n hx hb dX7_ahead_25 rfl (lv_at hl 3 rfl) ?_
        refine lv_i2l (v := (k).toInt64) hx hb dX7_ahead_26 rfl ?_
        refine lv_lconst (v := 0) hx hb dX7_ahead_27 (by decide) ?_
        refine lv_ldc2 hx hb C.2.2.2.1 (C.2.2.2.2 _ kc_RX7_171) dX7_ahead_28 ?_
        refine g_rd (g_runS (As := [.long ((k).toInt64), .long 0, .long 100]) (rest := []) ky_yX7_in lk_RX7_42 C (c_yX7_in l ((k).toInt64) 0 100) ⟨rfl, rfl, by decide, by decide⟩ rfl hl.1 rfl (Nat.le_of_ble_eq_true rfl) ⟨Nat.zero_le _, Nat.zero_le _⟩ dX7_ahead_31) ?_
        refine lv_if_ne (tgt := 43) hx hb dX7_ahead_34 (by decide) (fun c4 => ?_) (fun c4 => ?_)
        · obtain ⟨hk1, hk2⟩ := in_nat (M := 101) (by decide) (by decide) c4
          refine lv_aload_n hx hb dX7_ahead_43 rfl (lv_at hl 0 rfl) ?_
          refine g_get fd_RX7_7 C hX hP 0 (by decide) (shM_0 G ad _) (v := .ref (ad 1)) rfl dX7_ahead_44 ?_
          refine lv_aload_n hx hb dX7_ahead_47 rfl (lv_at hl 0 rfl) ?_
          refine g_get fd_RX7_16 C hX hP 0 (by decide) (shM_0 G ad _) (v := .ref (ad 3)) rfl dX7_ahead_48 ?_
          refine g_wrV0 hS (g_runSW (As := [.ref (ad 1), .ref (ad 3)]) (rest := []) ky_yX7_copies lk_RX7_167 C hX (gS_b0 hI hS) hP (c_yX7_copies l G ad hI σ 1 3 (by decide) (by decide) (fun _ => rfl) (fun _ => rfl)) ⟨rfl, rfl, by decide, by decide⟩ rfl hl.1 rfl (Nat.le_of_ble_eq_true rfl) ⟨Nat.zero_le _, Nat.zero_le _⟩ dX7_ahead_51) (fun H locs hP hS => ?_)
          obtain ⟨σ1, eσ1⟩ : ∃ τ_ : gM, τ_ = (m_copies σ 1 3) := ⟨_, rfl⟩
          rw [← eσ1] at hP
          have hs1 : σ1 1 0 = nI N := by rw [eσ1, cp_row (by decide) _ (by decide)]; exact hs
          have hd1 : ¬ σ1 1 1 < 0 := by rw [eσ1, cp_row (by decide) _ (by decide)]; exact hd
          refine lv_aload_n hx hb dX7_ahead_54 rfl (lv_at hl 0 rfl) ?_
          refine lv_iload_n hx hb dX7_ahead_55 rfl (lv_at hl 3 rfl) ?_
          refine lv_as (y := (nI (nN k))) hk1 ?_
          refine lv_bipush (v := 9) hx hb dX7_ahead_56 (by decide) ?_
          refine lv_bipush (v := 8) hx hb dX7_ahead_58 (by decide) ?_
          refine lv_iload_n hx hb dX7_ahead_60 rfl (lv_at hl 2 rfl) ?_
          refine lv_imul hx hb dX7_ahead_61 ?_
          refine lv_iadd hx hb dX7_ahead_62 ?_
          refine lv_iload_n hx hb dX7_ahead_63 rfl (lv_at hl 1 rfl) ?_
          refine lv_iadd hx hb dX7_ahead_64 ?_
          refine lv_as (y := (nI (9 + 8 * nN what + nN glove))) (ix_at hw1 hg1) ?_
          refine g_wrI0 hS (g_runV (As := [.int (nI (nN k)), .int (nI (9 + 8 * nN what + nN glove))]) (rest := []) ky_yX7_behind lk_RX7_173 C hX (gS_b0 hI hS) hP 0 (c_yX7_behind l G ad hI σ1 (nN k) (9 + 8 * nN what + nN glove) N hN hs1 hd1 (by omega) (by omega)) (by decide) (shM_0 G ad _) ⟨rfl, rfl, by decide, by decide⟩ rfl hl.1 rfl (Nat.le_of_ble_eq_true rfl) ⟨Nat.zero_le _, Nat.zero_le _⟩ dX7_ahead_65) (fun H locs hP hS => ?_)
          exact g_iretM C hr hlk rfl (by rw [m_ahead, if_neg c1, if_neg c2, if_neg c3, if_neg c4, ← eσ1, m_ahead_m1]) hP hS dX7_ahead_68
        · refine lv_aload_n hx hb dX7_ahead_37 rfl (lv_at hl 0 rfl) ?_
          refine lv_iconst (v := 0) hx hb dX7_ahead_38 (by decide) ?_
          refine g_wrI0 hS (g_runV (As := [.int 0]) (rest := []) ky_yX7_finds lk_RX7_128 C hX (gS_b0 hI hS) hP 0 (c_yX7_finds l G ad hI σ 0 (by decide)) (by decide) (shM_0 G ad _) ⟨rfl, rfl, by decide, by decide⟩ rfl hl.1 rfl (Nat.le_of_ble_eq_true rfl) ⟨Nat.zero_le _, Nat.zero_le _⟩ dX7_ahead_39) (fun H locs hP hS => ?_)
          exact g_iretM C hr hlk rfl (by rw [m_ahead, if_neg c1, if_neg c2, if_neg c3, if_pos c4]) hP hS dX7_ahead_42
