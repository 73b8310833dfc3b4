theorem isW_of1 {v y : Int32} {L : Nat} (hy : y = nI L) (hL : L < 2 ^ 30) (h : ¬ x_isWithin v (y - 1) = 0) : v = nI (nN v) ∧ nN v < L := by
  unfold x_isWithin at h
  by_cases h1 : v < 0
  · rw [if_pos h1] at h; exact absurd rfl h
  · rw [if_neg h1] at h
    by_cases h2 : y - 1 < v
    · rw [if_pos h2] at h; exact absurd rfl h
    · obtain ⟨j, hj, rfl⟩ := nI_of h1
      rw [nN_nI hj]
      have a := Int32.le_iff_toInt_le.mp (Int32.not_lt.mp h2)
      rw [hy, show (1 : Int32) = nI 1 from rfl, pk_sub_toInt hL (by decide), nI_toInt hj] at a
      exact ⟨rfl, by omega⟩
theorem nat_of {x : Int32} {L : Nat} (h : x = nI L) (hL : L < 2 ^ 31) : x = nI (nN x) ∧ nN x = L := by
  subst h
  rw [nN_nI hL]
  exact ⟨rfl, rfl⟩

def x_layOut2_L12 (σ : gM) (newBits : Int32) (k : Nat) : Nat → Nat → gM → gM
  | 0, i, τ => τ
  | n12 + 1, i, τ => (x_layOut2_L12 σ newBits k n12 (i + 1) (mset τ 1 i 0))
def x_layOut2 (σ : gM) (newBits : Int32) (k : Nat) : gM := (x_layOut2_L12 σ newBits k k 0 ((mset (mset σ 0 0 newBits) 0 1 (nI k))))
def rm_yX2_layOut : Room := { frames := 0, cells := 0, slots := 0, locals := 0 }
set_option maxHeartbeats 4000000 in
set_option maxRecDepth 100000 in
theorem c_yX2_layOut (l : Launch) (G : gG) (ad : Nat → Nat) (hI : gI G.2.2.1 2 ad) (σ : gM) (newBits : Int32) (k : Nat) (hk : k ≤ 40) : gMutV l yX2_layOut cX2_layOut 4 none rm_yX2_layOut G [.ref (ad 0), .int newBits, .int (nI k)] 2 ad (shS G ad) σ (x_layOut2 σ newBits k) := by
  refine g_start [.ref (ad 0), .int newBits, .int (nI k)] (by decide +kernel) (Nat.le_of_ble_eq_true rfl) ?_
  intro p e s m below meth c ls B Z hl
  obtain ⟨C, hr, hlk⟩ := B
  have hx := C.1
  have hb := C.2.1
  obtain ⟨hX, hP⟩ := Z
  have hS : va_S (gA 2 ad) s.heap s.heap [] := va_S.rf
  revert hP hS
  intro hP hS
  have hl : lv_has ls 4 [(0, .ref (ad 0)), (1, .int newBits), (2, .int (nI k))] := hl
  refine lv_aload_n hx hb dX2_layOut_0 rfl (lv_at hl 0 rfl) ?_
  refine lv_iload_n hx hb dX2_layOut_1 rfl (lv_at hl 1 rfl) ?_
  refine g_put fd_RX2_15 C hX hI hP hS 0 (by decide) (shS_0 G ad _) rfl rfl (Nat.le_of_ble_eq_true rfl) (upd (σ 0) 0 newBits) rfl dX2_layOut_2 (fun H locs hP hS => ?_)
  have hP : gP G.1 2 ad (gE (shS G ad) (mset σ 0 0 newBits)) H := hP
  refine lv_aload_n hx hb dX2_layOut_5 rfl (lv_at hl 0 rfl) ?_
  refine lv_iload_n hx hb dX2_layOut_6 rfl (lv_at hl 2 rfl) ?_
  refine g_put fd_RX2_19 C hX hI hP hS 0 (by decide) (shS_0 G ad _) rfl rfl (Nat.le_of_ble_eq_true rfl) (upd ((mset σ 0 0 newBits) 0) 1 (nI k)) rfl dX2_layOut_7 (fun H locs hP hS => ?_)
  have hP : gP G.1 2 ad (gE (shS G ad) (mset (mset σ 0 0 newBits) 0 1 (nI k))) H := hP
  refine lv_iconst (v := 0) hx hb dX2_layOut_10 (by decide) ?_
  refine lv_istore_n (lv' := [(3, .int 0), (0, .ref (ad 0)), (1, .int newBits), (2, .int (nI k))]) hx hb dX2_layOut_11 rfl hl (by decide) rfl (fun ls hl => ?_)
  suffices loop12 : ∀ (n12 : Nat) (i : Nat) (τ : gM) (H : Heap) (locs : List Loc) (ls : Array Slot), (i + n12 = k) → (τ 0 1 = nI k) → x_layOut2 σ newBits k = (x_layOut2_L12 σ newBits k n12 i τ) → gP G.1 2 ad (gE (shS G ad) τ) H → va_S (gA 2 ad) s.heap H locs → lv_has ls 4 [(3, .int (nI i)), (0, .ref (ad 0)), (1, .int newBits), (2, .int (nI k))] → W p l e rm_yX2_layOut s m ([.ref (ad 0), .int newBits, .int (nI k)] : List Value).toArray below meth c H locs 0 0 (MQ below (va_Qv (fun τ : gM => τ = x_layOut2 σ newBits k) (fun τ t => gP G.1 2 ad (gE (shS G ad) τ) t.heap) (gA 2 ad)) ([.ref (ad 0), .int newBits, .int (nI k)] : List Value).toArray s 0 0 (gA 2 ad)) (F0 m 12 ls []) by
    exact loop12 k 0 ((mset (mset σ 0 0 newBits) 0 1 (nI k))) _ _ _ (by omega) rfl (by rw [x_layOut2]) hP hS (lv_sub hl [0, 1, 2, 3] rfl)
  intro n12
  induction n12 with
  | zero =>
    intro i τ H locs ls hi12 hz hres12 hP hS hl
    refine lv_iload_n hx hb dX2_layOut_12 rfl (lv_at hl 0 rfl) ?_
    refine lv_aload_n hx hb dX2_layOut_13 rfl (lv_at hl 1 rfl) ?_
    refine g_get fd_RX2_19 C hX hP 0 (by decide) (shS_0 G ad _) (v := .int (τ 0 1)) rfl dX2_layOut_14 ?_
    refine lv_as (y := (nI k)) hz ?_
    refine lv_icmp_ge (tgt := 33) hx hb dX2_layOut_17 (by decide) (fun c1 => ?_) (fun c1 => ?_)
    · exact g_vretM C hr hlk (by rw [hres12, x_layOut2_L12]) hP hS dX2_layOut_33
    · exact absurd (show nI (k) ≤ nI i from nI_le (by omega) (by omega)) c1
  | succ n12 ih12 =>
    intro i τ H locs ls hi12 hz hres12 hP hS hl
    refine lv_iload_n hx hb dX2_layOut_12 rfl (lv_at hl 0 rfl) ?_
    refine lv_aload_n hx hb dX2_layOut_13 rfl (lv_at hl 1 rfl) ?_
    refine g_get fd_RX2_19 C hX hP 0 (by decide) (shS_0 G ad _) (v := .int (τ 0 1)) rfl dX2_layOut_14 ?_
    refine lv_as (y := (nI k)) hz ?_
    refine lv_icmp_ge (tgt := 33) hx hb dX2_layOut_17 (by decide) (fun c2 => ?_) (fun c2 => ?_)
    · exact absurd (show nI (k) ≤ nI i from c2) (nI_ge (by omega) (by omega))
    · refine lv_aload_n hx hb dX2_layOut_20 rfl (lv_at hl 1 rfl) ?_
      refine g_get fd_RX2_9 C hX hP 0 (by decide) (shS_0 G ad _) (v := .ref (ad 1)) rfl dX2_layOut_21 ?_
      refine lv_iload_n hx hb dX2_layOut_24 rfl (lv_at hl 0 rfl) ?_
      refine lv_iconst (v := 0) hx hb dX2_layOut_25 (by decide) ?_
      refine g_iast C hX hI hP hS 1 (by decide) (shS_1 G ad _) i (by omega) (by decide) (upd (τ 1) i 0) rfl dX2_layOut_26 (fun H locs hP hS => ?_)
      have hP : gP G.1 2 ad (gE (shS G ad) (mset τ 1 i 0)) H := hP
      refine lv_iinc (v := (nI (i + 1))) (lv' := [(3, .int (nI (i + 1))), (0, .ref (ad 0)), (1, .int newBits), (2, .int (nI k))]) hx hb dX2_layOut_27 hl (k := 0) rfl (by exact nI_1 _) (by decide) rfl (fun ls hl => ?_)
      refine lv_goto (tgt := 12) hx hb dX2_layOut_30 (by decide) ?_
      exact ih12 (i + 1) (mset τ 1 i 0) _ _ _ (by omega) (by exact hz) (by rw [hres12, x_layOut2_L12]) hP hS (lv_sub hl [0, 1, 2, 3] rfl)

def x_setNumber2 (σ : gM) (k : Nat) (v : Int32) : gM := if (σ 0 0) = 8 then (mset σ 1 k ((v).toInt8.toInt32)) else (if (σ 0 0) = 16 then (mset σ 1 k ((v).toInt16.toInt32)) else (mset σ 1 k v))
def rm_yX2_setNumber : Room := { frames := 0, cells := 0, slots := 0, locals := 0 }
set_option maxHeartbeats 4000000 in
set_option maxRecDepth 100000 in
theorem c_yX2_setNumber (l : Launch) (G : gG) (ad : Nat → Nat) (hI : gI G.2.2.1 2 ad) (σ : gM) (k : Nat) (v : Int32) (hk : k < 40) : gMutV l yX2_setNumber cX2_setNumber 3 none rm_yX2_setNumber G [.ref (ad 0), .int (nI k), .int v] 2 ad (shS G ad) σ (x_setNumber2 σ k v) := by
  refine g_start [.ref (ad 0), .int (nI k), .int v] (by decide +kernel) (Nat.le_of_ble_eq_true rfl) ?_
  intro p e s m below meth c ls B Z hl
  obtain ⟨C, hr, hlk⟩ := B
  have hx := C.1
  have hb := C.2.1
  obtain ⟨hX, hP⟩ := Z
  have hS : va_S (gA 2 ad) s.heap s.heap [] := va_S.rf
  revert hP hS
  intro hP hS
  have hl : lv_has ls 3 [(0, .ref (ad 0)), (1, .int (nI k)), (2, .int v)] := hl
  refine lv_aload_n hx hb dX2_setNumber_0 rfl (lv_at hl 0 rfl) ?_
  refine g_get fd_RX2_15 C hX hP 0 (by decide) (shS_0 G ad _) (v := .int (σ 0 0)) rfl dX2_setNumber_1 ?_
  by_cases c1 : (σ 0 0) = 8
  · refine lv_as (y := 8) c1 ?_
    refine lv_lookup (tgt := 32) (off := 28) hx hb dX2_setNumber_4 (by decide) (by decide +kernel) (by decide) ?_
    refine lv_aload_n hx hb dX2_setNumber_32 rfl (lv_at hl 0 rfl) ?_
    refine g_get fd_RX2_9 C hX hP 0 (by decide) (shS_0 G ad _) (v := .ref (ad 1)) rfl dX2_setNumber_33 ?_
    refine lv_iload_n hx hb dX2_setNumber_36 rfl (lv_at hl 1 rfl) ?_
    refine lv_iload_n hx hb dX2_setNumber_37 rfl (lv_at hl 2 rfl) ?_
    refine lv_i2b (v := (v).toInt8.toInt32) hx hb dX2_setNumber_38 rfl ?_
    refine g_iast C hX hI hP hS 1 (by decide) (shS_1 G ad _) k (by omega) (by decide) (upd (σ 1) k ((v).toInt8.toInt32)) rfl dX2_setNumber_39 (fun H locs hP hS => ?_)
    have hP : gP G.1 2 ad (gE (shS G ad) (mset σ 1 k ((v).toInt8.toInt32))) H := hP
    refine lv_goto (tgt := 61) hx hb dX2_setNumber_40 (by decide) ?_
    exact g_vretM C hr hlk (by rw [x_setNumber2, if_pos c1]) hP hS dX2_setNumber_61
  by_cases c2 : (σ 0 0) = 16
  · refine lv_as (y := 16) c2 ?_
    refine lv_lookup (tgt := 43) (off := 39) hx hb dX2_setNumber_4 (by decide) (by decide +kernel) (by decide) ?_
    refine lv_aload_n hx hb dX2_setNumber_43 rfl (lv_at hl 0 rfl) ?_
    refine g_get fd_RX2_9 C hX hP 0 (by decide) (shS_0 G ad _) (v := .ref (ad 1)) rfl dX2_setNumber_44 ?_
    refine lv_iload_n hx hb dX2_setNumber_47 rfl (lv_at hl 1 rfl) ?_
    refine lv_iload_n hx hb dX2_setNumber_48 rfl (lv_at hl 2 rfl) ?_
    refine lv_i2s (v := (v).toInt16.toInt32) hx hb dX2_setNumber_49 rfl ?_
    refine g_iast C hX hI hP hS 1 (by decide) (shS_1 G ad _) k (by omega) (by decide) (upd (σ 1) k ((v).toInt16.toInt32)) rfl dX2_setNumber_50 (fun H locs hP hS => ?_)
    have hP : gP G.1 2 ad (gE (shS G ad) (mset σ 1 k ((v).toInt16.toInt32))) H := hP
    refine lv_goto (tgt := 61) hx hb dX2_setNumber_51 (by decide) ?_
    exact g_vretM C hr hlk (by rw [x_setNumber2, if_neg c1, if_pos c2]) hP hS dX2_setNumber_61
  refine lv_lookup (tgt := 54) (off := 50) hx hb dX2_setNumber_4 (by decide) (by rw [show (_ : List (Int × Int)) = [(8, 28), (16, 39)] from rfl, lv_osw c1 (by decide), lv_osw c2 (by decide)]; rfl) (by decide) ?_
  refine lv_aload_n hx hb dX2_setNumber_54 rfl (lv_at hl 0 rfl) ?_
  refine g_get fd_RX2_9 C hX hP 0 (by decide) (shS_0 G ad _) (v := .ref (ad 1)) rfl dX2_setNumber_55 ?_
  refine lv_iload_n hx hb dX2_setNumber_58 rfl (lv_at hl 1 rfl) ?_
  refine lv_iload_n hx hb dX2_setNumber_59 rfl (lv_at hl 2 rfl) ?_
  refine g_iast C hX hI hP hS 1 (by decide) (shS_1 G ad _) k (by omega) (by decide) (upd (σ 1) k v) rfl dX2_setNumber_60 (fun H locs hP hS => ?_)
  have hP : gP G.1 2 ad (gE (shS G ad) (mset σ 1 k v)) H := hP
  exact g_vretM C hr hlk (by rw [x_setNumber2, if_neg c1, if_neg c2]) hP hS dX2_setNumber_61

def x_isMissing2 (σ : gM) : Int32 := if (σ 0 0) = 0 then 1 else 0
def rm_yX2_isMissing : Room := { frames := 0, cells := 0, slots := 0, locals := 0 }
set_option maxHeartbeats 4000000 in
set_option maxRecDepth 100000 in
theorem c_yX2_isMissing (l : Launch) (G : gG) (ad : Nat → Nat) (hI : gI G.2.2.1 2 ad) (σ : gM) : gRead l yX2_isMissing cX2_isMissing 1 (some .boolean) rm_yX2_isMissing G [.ref (ad 0)] 2 ad (gE (shS G ad) σ) (x_isMissing2 σ) := by
  refine g_start [.ref (ad 0)] (by decide +kernel) (Nat.le_of_ble_eq_true rfl) ?_
  intro p e s m below meth c ls B Z hl
  obtain ⟨C, hr, hlk⟩ := B
  have hx := C.1
  have hb := C.2.1
  obtain ⟨hX, hP⟩ := Z
  have hS : va_S (gA 2 ad) s.heap s.heap [] := va_S.rf
  have hl : lv_has ls 1 [(0, .ref (ad 0))] := hl
  refine lv_aload_n hx hb dX2_isMissing_0 rfl (lv_at hl 0 rfl) ?_
  refine g_get fd_RX2_15 C hX hP 0 (by decide) (shS_0 G ad _) (v := .int (σ 0 0)) rfl dX2_isMissing_1 ?_
  refine lv_if_ne (tgt := 11) hx hb dX2_isMissing_4 (by decide) (fun c1 => ?_) (fun c1 => ?_)
  · refine lv_iconst (v := 0) hx hb dX2_isMissing_11 (by decide) ?_
    exact g_iret C hr hlk rfl (by rw [x_isMissing2, if_neg c1]) rfl rfl dX2_isMissing_12
  · refine lv_iconst (v := 1) hx hb dX2_isMissing_7 (by decide) ?_
    refine lv_goto (tgt := 12) hx hb dX2_isMissing_8 (by decide) ?_
    exact g_iret C hr hlk rfl (by rw [x_isMissing2, if_pos c1]) rfl rfl dX2_isMissing_12

def x_hasRow2 (σ : gM) (frm : Int32) (cnt : Int32) : Int32 := if (x_isWithin frm (σ 0 1)) = 0 then 0 else (if (x_isWithin cnt ((σ 0 1) - frm)) = 0 then 0 else 1)
def rm_yX2_hasRow : Room := { frames := 1, cells := 0, slots := 0, locals := 21 }
set_option maxHeartbeats 4000000 in
set_option maxRecDepth 100000 in
theorem c_yX2_hasRow (l : Launch) (G : gG) (ad : Nat → Nat) (hI : gI G.2.2.1 2 ad) (σ : gM) (frm : Int32) (cnt : Int32) : gRead l yX2_hasRow cX2_hasRow 3 (some .boolean) rm_yX2_hasRow G [.ref (ad 0), .int frm, .int cnt] 2 ad (gE (shS G ad) σ) (x_hasRow2 σ frm cnt) := by
  refine g_start [.ref (ad 0), .int frm, .int cnt] (by decide +kernel) (Nat.le_of_ble_eq_true rfl) ?_
  intro p e s m below meth c ls B Z hl
  obtain ⟨C, hr, hlk⟩ := B
  have hx := C.1
  have hb := C.2.1
  obtain ⟨hX, hP⟩ := Z
  have hS : va_S (gA 2 ad) s.heap s.heap [] := va_S.rf
  have hl : lv_has ls 3 [(0, .ref (ad 0)), (1, .int frm), (2, .int cnt)] := hl
  refine lv_iload_n hx hb dX2_hasRow_0 rfl (lv_at hl 1 rfl) ?_
  refine lv_aload_n hx hb dX2_hasRow_1 rfl (lv_at hl 0 rfl) ?_
  refine g_get fd_RX2_19 C hX hP 0 (by decide) (shS_0 G ad _) (v := .int (σ 0 1)) rfl dX2_hasRow_2 ?_
  refine g_rd (g_runSN (As := [.int frm, .int (σ 0 1)]) (rest := []) ky_yX6_isWithin ln_RX2_22 hX C (c_yX6_isWithin l frm (σ 0 1)) ⟨rfl, rfl, by decide, by decide⟩ rfl hl.1 rfl (Nat.le_of_ble_eq_true rfl) ⟨Nat.zero_le _, Nat.zero_le _⟩ dX2_hasRow_5) ?_
  refine lv_if_eq (tgt := 28) hx hb dX2_hasRow_8 (by decide) (fun c1 => ?_) (fun c1 => ?_)
  · refine lv_iconst (v := 0) hx hb dX2_hasRow_28 (by decide) ?_
    exact g_iret C hr hlk rfl (by rw [x_hasRow2, if_pos c1]) rfl rfl dX2_hasRow_29
  · refine lv_iload_n hx hb dX2_hasRow_11 rfl (lv_at hl 2 rfl) ?_
    refine lv_aload_n hx hb dX2_hasRow_12 rfl (lv_at hl 0 rfl) ?_
    refine g_get fd_RX2_19 C hX hP 0 (by decide) (shS_0 G ad _) (v := .int (σ 0 1)) rfl dX2_hasRow_13 ?_
    refine lv_iload_n hx hb dX2_hasRow_16 rfl (lv_at hl 1 rfl) ?_
    refine lv_isub hx hb dX2_hasRow_17 ?_
    refine g_rd (g_runSN (As := [.int cnt, .int ((σ 0 1) - frm)]) (rest := []) ky_yX6_isWithin ln_RX2_22 hX C (c_yX6_isWithin l cnt ((σ 0 1) - frm)) ⟨rfl, rfl, by decide, by decide⟩ rfl hl.1 rfl (Nat.le_of_ble_eq_true rfl) ⟨Nat.zero_le _, Nat.zero_le _⟩ dX2_hasRow_18) ?_
    refine lv_if_eq (tgt := 28) hx hb dX2_hasRow_21 (by decide) (fun c2 => ?_) (fun c2 => ?_)
    · refine lv_iconst (v := 0) hx hb dX2_hasRow_28 (by decide) ?_
      exact g_iret C hr hlk rfl (by rw [x_hasRow2, if_neg c1, if_pos c2]) rfl rfl dX2_hasRow_29
    · refine lv_iconst (v := 1) hx hb dX2_hasRow_24 (by decide) ?_
      refine lv_goto (tgt := 29) hx hb dX2_hasRow_25 (by decide) ?_
      exact g_iret C hr hlk rfl (by rw [x_hasRow2, if_neg c1, if_neg c2]) rfl rfl dX2_hasRow_29

def x_byteAt3 (σ : gM) (place : Int32) : Int32 := if (x_isWithin place ((σ 0 0) - 1)) = 0 then 0 else (σ 1 (nN place))
def rm_yX3_byteAt : Room := { frames := 1, cells := 0, slots := 0, locals := 21 }
set_option maxHeartbeats 4000000 in
set_option maxRecDepth 100000 in
theorem c_yX3_byteAt (l : Launch) (G : gG) (ad : Nat → Nat) (hI : gI G.2.2.1 2 ad) (σ : gM) (place : Int32) (L : Nat) (hL : L ≤ 120) (hlen : σ 0 0 = nI L) : gRead l yX3_byteAt cX3_byteAt 2 (some .int) rm_yX3_byteAt G [.ref (ad 0), .int place] 2 ad (gE (shP G ad) σ) (x_byteAt3 σ place) := by
  refine g_start [.ref (ad 0), .int place] (by decide +kernel) (Nat.le_of_ble_eq_true rfl) ?_
  intro p e s m below meth c ls B Z hl
  obtain ⟨C, hr, hlk⟩ := B
  have hx := C.1
  have hb := C.2.1
  obtain ⟨hX, hP⟩ := Z
  have hS : va_S (gA 2 ad) s.heap s.heap [] := va_S.rf
  have hl : lv_has ls 2 [(0, .ref (ad 0)), (1, .int place)] := hl
  refine lv_iload_n hx hb dX3_byteAt_0 rfl (lv_at hl 1 rfl) ?_
  refine lv_aload_n hx hb dX3_byteAt_1 rfl (lv_at hl 0 rfl) ?_
  refine g_get fd_RX3_15 C hX hP 0 (by decide) (shP_0 G ad _) (v := .int (σ 0 0)) rfl dX3_byteAt_2 ?_
  refine lv_iconst (v := 1) hx hb dX3_byteAt_5 (by decide) ?_
  refine lv_isub hx hb dX3_byteAt_6 ?_
  refine g_rd (g_runSN (As := [.int place, .int ((σ 0 0) - 1)]) (rest := []) ky_yX6_isWithin ln_RX3_19 hX C (c_yX6_isWithin l place ((σ 0 0) - 1)) ⟨rfl, rfl, by decide, by decide⟩ rfl hl.1 rfl (Nat.le_of_ble_eq_true rfl) ⟨Nat.zero_le _, Nat.zero_le _⟩ dX3_byteAt_7) ?_
  refine lv_if_eq (tgt := 22) hx hb dX3_byteAt_10 (by decide) (fun c1 => ?_) (fun c1 => ?_)
  · refine lv_iconst (v := 0) hx hb dX3_byteAt_22 (by decide) ?_
    exact g_iret C hr hlk rfl (by rw [x_byteAt3, if_pos c1]) rfl rfl dX3_byteAt_23
  · obtain ⟨hw1, hw2⟩ := isW_of1 hlen (by omega) c1
    refine lv_aload_n hx hb dX3_byteAt_13 rfl (lv_at hl 0 rfl) ?_
    refine g_get fd_RX3_9 C hX hP 0 (by decide) (shP_0 G ad _) (v := .ref (ad 1)) rfl dX3_byteAt_14 ?_
    refine lv_iload_n hx hb dX3_byteAt_17 rfl (lv_at hl 1 rfl) ?_
    refine lv_as (y := (nI (nN place))) hw1 ?_
    refine g_bald C hX hP 1 (by decide) (shP_1 G ad _) (nN place) (by omega) (by decide) dX3_byteAt_18 ?_
    refine lv_goto (tgt := 23) hx hb dX3_byteAt_19 (by decide) ?_
    exact g_iret C hr hlk rfl (by rw [x_byteAt3, if_neg c1]) rfl rfl dX3_byteAt_23

def x_append3 (σ : gM) (b : Int32) : gM := if 120 ≤ (σ 0 0) then σ else (mset (mset σ 1 (nN (σ 0 0)) ((b).toInt8.toInt32)) 0 0 ((σ 0 0) + 1))
def rm_yX3_append : Room := { frames := 0, cells := 0, slots := 0, locals := 0 }
set_option maxHeartbeats 4000000 in
set_option maxRecDepth 100000 in
theorem c_yX3_append (l : Launch) (G : gG) (ad : Nat → Nat) (hI : gI G.2.2.1 2 ad) (σ : gM) (b : Int32) (L : Nat) (hL : L ≤ 120) (hlen : σ 0 0 = nI L) : gMutV l yX3_append cX3_append 2 none rm_yX3_append G [.ref (ad 0), .int b] 2 ad (shP G ad) σ (x_append3 σ b) := by
  refine g_start [.ref (ad 0), .int b] (by decide +kernel) (Nat.le_of_ble_eq_true rfl) ?_
  intro p e s m below meth c ls B Z hl
  obtain ⟨C, hr, hlk⟩ := B
  have hx := C.1
  have hb := C.2.1
  obtain ⟨hX, hP⟩ := Z
  have hS : va_S (gA 2 ad) s.heap s.heap [] := va_S.rf
  revert hP hS
  intro hP hS
  have hl : lv_has ls 2 [(0, .ref (ad 0)), (1, .int b)] := hl
  obtain ⟨hz1, hz2⟩ := nat_of hlen (by omega)
  refine lv_aload_n hx hb dX3_append_0 rfl (lv_at hl 0 rfl) ?_
  refine g_get fd_RX3_15 C hX hP 0 (by decide) (shP_0 G ad _) (v := .int (σ 0 0)) rfl dX3_append_1 ?_
  refine lv_bipush (v := 120) hx hb dX3_append_4 (by decide) ?_
  refine lv_icmp_ge (tgt := 29) hx hb dX3_append_6 (by decide) (fun c1 => ?_) (fun c1 => ?_)
  · exact g_vretM C hr hlk (by rw [x_append3, if_pos c1]) hP hS dX3_append_29
  · have hlt : L < 120 := Nat.not_le.mp (fun q => c1 (by rw [hlen]; exact nI_le q (by omega)))
    refine lv_aload_n hx hb dX3_append_9 rfl (lv_at hl 0 rfl) ?_
    refine g_get fd_RX3_9 C hX hP 0 (by decide) (shP_0 G ad _) (v := .ref (ad 1)) rfl dX3_append_10 ?_
    refine lv_aload_n hx hb dX3_append_13 rfl (lv_at hl 0 rfl) ?_
    refine g_get fd_RX3_15 C hX hP 0 (by decide) (shP_0 G ad _) (v := .int (σ 0 0)) rfl dX3_append_14 ?_
    refine lv_iload_n hx hb dX3_append_17 rfl (lv_at hl 1 rfl) ?_
    refine lv_as1 (y := (nI (nN (σ 0 0)))) hz1 ?_
    refine g_bast C hX hI hP hS 1 (by decide) (shP_1 G ad _) (nN (σ 0 0)) (by omega) (by decide) (upd (σ 1) (nN (σ 0 0)) ((b).toInt8.toInt32)) rfl dX3_append_18 (fun H locs hP hS => ?_)
    have hP : gP G.1 2 ad (gE (shP G ad) (mset σ 1 (nN (σ 0 0)) ((b).toInt8.toInt32))) H := hP
    refine lv_aload_n hx hb dX3_append_19 rfl (lv_at hl 0 rfl) ?_
    refine lv_dup hx hb dX3_append_20 rfl ?_
    refine g_get fd_RX3_15 C hX hP 0 (by decide) (shP_0 G ad _) (v := .int (σ 0 0)) rfl dX3_append_21 ?_
    refine lv_iconst (v := 1) hx hb dX3_append_24 (by decide) ?_
    refine lv_iadd hx hb dX3_append_25 ?_
    refine g_put fd_RX3_15 C hX hI hP hS 0 (by decide) (shP_0 G ad _) rfl rfl (Nat.le_of_ble_eq_true rfl) (upd ((mset σ 1 (nN (σ 0 0)) ((b).toInt8.toInt32)) 0) 0 ((σ 0 0) + 1)) rfl dX3_append_26 (fun H locs hP hS => ?_)
    have hP : gP G.1 2 ad (gE (shP G ad) (mset (mset σ 1 (nN (σ 0 0)) ((b).toInt8.toInt32)) 0 0 ((σ 0 0) + 1))) H := hP
    exact g_vretM C hr hlk (by rw [x_append3, if_neg c1]) hP hS dX3_append_29
