def m_letter (b : Int32) : Int32 := if b < 97 then 0 else (if 122 < b then 0 else ((b - 97) + 1))
def rm_yX7_letter : Room := { frames := 0, cells := 0, slots := 0, locals := 0 }
set_option maxHeartbeats 4000000 in
set_option maxRecDepth 100000 in
theorem c_yX7_letter (l : Launch) (b : Int32) : gPure l yX7_letter cX7_letter 1 (some .int) rm_yX7_letter [.int b] (m_letter b) := by
  refine g_start [.int b] (by decide +kernel) (Nat.le_of_ble_eq_true rfl) ?_
  intro p e s m below meth c ls B Z hl
  obtain ⟨C, hr, hlk⟩ := B
  have hx := C.1
  have hb := C.2.1
  have hl : lv_has ls 1 [(0, .int b)] := hl
  refine lv_iload_n hx hb dX7_letter_0 rfl (lv_at hl 0 rfl) ?_
  refine lv_bipush (v := 97) hx hb dX7_letter_1 (by decide) ?_
  refine lv_icmp_lt (tgt := 21) hx hb dX7_letter_3 (by decide) (fun c1 => ?_) (fun c1 => ?_)
  · refine lv_iconst (v := 0) hx hb dX7_letter_21 (by decide) ?_
    exact g_iret C hr hlk rfl (by rw [m_letter, if_pos c1]) rfl rfl dX7_letter_22
  · refine lv_iload_n hx hb dX7_letter_6 rfl (lv_at hl 0 rfl) ?_
    refine lv_bipush (v := 122) hx hb dX7_letter_7 (by decide) ?_
    refine lv_icmp_gt (tgt := 21) hx hb dX7_letter_9 (by decide) (fun c2 => ?_) (fun c2 => ?_)
    · refine lv_iconst (v := 0) hx hb dX7_letter_21 (by decide) ?_
      exact g_iret C hr hlk rfl (by rw [m_letter, if_neg c1, if_pos c2]) rfl rfl dX7_letter_22
    · refine lv_iload_n hx hb dX7_letter_12 rfl (lv_at hl 0 rfl) ?_
      refine lv_bipush (v := 97) hx hb dX7_letter_13 (by decide) ?_
      refine lv_isub hx hb dX7_letter_15 ?_
      refine lv_iconst (v := 1) hx hb dX7_letter_16 (by decide) ?_
      refine lv_iadd hx hb dX7_letter_17 ?_
      refine lv_goto (tgt := 22) hx hb dX7_letter_18 (by decide) ?_
      exact g_iret C hr hlk rfl (by rw [m_letter, if_neg c1, if_neg c2]) rfl rfl dX7_letter_22

def m_isDigit (b : Int32) : Int32 := if b < 48 then 0 else (if 57 < b then 0 else 1)
def rm_yX7_isDigit : Room := { frames := 0, cells := 0, slots := 0, locals := 0 }
set_option maxHeartbeats 4000000 in
set_option maxRecDepth 100000 in
theorem c_yX7_isDigit (l : Launch) (b : Int32) : gPure l yX7_isDigit cX7_isDigit 1 (some .boolean) rm_yX7_isDigit [.int b] (m_isDigit b) := by
  refine g_start [.int b] (by decide +kernel) (Nat.le_of_ble_eq_true rfl) ?_
  intro p e s m below meth c ls B Z hl
  obtain ⟨C, hr, hlk⟩ := B
  have hx := C.1
  have hb := C.2.1
  have hl : lv_has ls 1 [(0, .int b)] := hl
  refine lv_iload_n hx hb dX7_isDigit_0 rfl (lv_at hl 0 rfl) ?_
  refine lv_bipush (v := 48) hx hb dX7_isDigit_1 (by decide) ?_
  refine lv_icmp_lt (tgt := 16) hx hb dX7_isDigit_3 (by decide) (fun c1 => ?_) (fun c1 => ?_)
  · refine lv_iconst (v := 0) hx hb dX7_isDigit_16 (by decide) ?_
    exact g_iret C hr hlk rfl (by rw [m_isDigit, if_pos c1]) rfl rfl dX7_isDigit_17
  · refine lv_iload_n hx hb dX7_isDigit_6 rfl (lv_at hl 0 rfl) ?_
    refine lv_bipush (v := 57) hx hb dX7_isDigit_7 (by decide) ?_
    refine lv_icmp_gt (tgt := 16) hx hb dX7_isDigit_9 (by decide) (fun c2 => ?_) (fun c2 => ?_)
    · refine lv_iconst (v := 0) hx hb dX7_isDigit_16 (by decide) ?_
      exact g_iret C hr hlk rfl (by rw [m_isDigit, if_neg c1, if_pos c2]) rfl rfl dX7_isDigit_17
    · refine lv_iconst (v := 1) hx hb dX7_isDigit_12 (by decide) ?_
      refine lv_goto (tgt := 17) hx hb dX7_isDigit_13 (by decide) ?_
      exact g_iret C hr hlk rfl (by rw [m_isDigit, if_neg c1, if_neg c2]) rfl rfl dX7_isDigit_17

def m_byteAt (σ : gM) (q : Nat) : Int32 := if (σ 0 1) ≤ (nI q) then (-1) else (σ 6 q)
def rm_yX7_byteAt : Room := { frames := 0, cells := 0, slots := 0, locals := 0 }
set_option maxHeartbeats 4000000 in
set_option maxRecDepth 100000 in
theorem c_yX7_byteAt (l : Launch) (G : gG) (ad : Nat → Nat) (hI : gI G.2.2.1 11 ad) (σ : gM) (q : Nat) (T : Nat) (hT : T ≤ 120) (ht : σ 0 1 = nI T) (hq : q ≤ 1000) : gRead l yX7_byteAt cX7_byteAt 2 (some .int) rm_yX7_byteAt G [.ref (ad 0), .int (nI q)] 11 ad (gE (shM G ad) σ) (m_byteAt σ q) := by
  refine g_start [.ref (ad 0), .int (nI q)] (by decide +kernel) (Nat.le_of_ble_eq_true rfl) ?_
  intro p e s m below meth c ls B Z hl
  obtain ⟨C, hr, hlk⟩ := B
  have hx := C.1
  have hb := C.2.1
  obtain ⟨hX, hP⟩ := Z
  have hS : va_S (gA 11 ad) s.heap s.heap [] := va_S.rf
  have hl : lv_has ls 2 [(0, .ref (ad 0)), (1, .int (nI q))] := hl
  refine lv_iload_n hx hb dX7_byteAt_0 rfl (lv_at hl 1 rfl) ?_
  refine lv_aload_n hx hb dX7_byteAt_1 rfl (lv_at hl 0 rfl) ?_
  refine g_get fd_RX7_205 C hX hP 0 (by decide) (shM_0 G ad _) (v := .int (σ 0 1)) rfl dX7_byteAt_2 ?_
  refine lv_icmp_ge (tgt := 17) hx hb dX7_byteAt_5 (by decide) (fun c1 => ?_) (fun c1 => ?_)
  · refine lv_iconst (v := (-1)) hx hb dX7_byteAt_17 (by decide) ?_
    exact g_iret C hr hlk rfl (by rw [m_byteAt, if_pos c1]) rfl rfl dX7_byteAt_18
  · have hlt : q < T := Nat.not_le.mp (fun z => c1 (by rw [ht]; exact nI_le z (by omega)))
    refine lv_aload_n hx hb dX7_byteAt_8 rfl (lv_at hl 0 rfl) ?_
    refine g_get fd_RX7_25 C hX hP 0 (by decide) (shM_0 G ad _) (v := .ref (ad 6)) rfl dX7_byteAt_9 ?_
    refine lv_iload_n hx hb dX7_byteAt_12 rfl (lv_at hl 1 rfl) ?_
    refine g_bald C hX hP 6 (by decide) (shM_6 G ad _) q (by omega) (by decide) dX7_byteAt_13 ?_
    refine lv_goto (tgt := 18) hx hb dX7_byteAt_14 (by decide) ?_
    exact g_iret C hr hlk rfl (by rw [m_byteAt, if_neg c1]) rfl rfl dX7_byteAt_18

theorem mb_lt {σ : gM} {T q : Nat} (hT : T ≤ 120) (ht : σ 0 1 = nI T) (hq : q ≤ 1000) (h : ¬ m_byteAt σ q = -1) : q < T := by
  refine Nat.not_le.mp (fun z => h ?_)
  unfold m_byteAt
  rw [if_pos (by rw [ht]; exact nI_le z (by omega))]
theorem mb_32 {σ : gM} {T q : Nat} (hT : T ≤ 120) (ht : σ 0 1 = nI T) (hq : q ≤ 1000) (h : m_byteAt σ q = 32) : q < T := mb_lt hT ht hq (by rw [h]; decide)
theorem mb_letter {σ : gM} {T q : Nat} (hT : T ≤ 120) (ht : σ 0 1 = nI T) (hq : q ≤ 1000) (h : ¬ m_letter (m_byteAt σ q) ≤ 0) : q < T := mb_lt hT ht hq (fun e => h (by rw [e]; decide))
theorem mb_digit {σ : gM} {T q : Nat} (hT : T ≤ 120) (ht : σ 0 1 = nI T) (hq : q ≤ 1000) (h : ¬ m_isDigit (m_byteAt σ q) = 0) : q < T := mb_lt hT ht hq (fun e => h (by rw [e]; decide))

def m_next_L185 (σ : gM) (n0 : Nat) (τ : gM) : Nat → gM → gM
  | 0, τ3 => σ
  | n185 + 1, τ3 => if (m_isDigit (m_byteAt τ3 (nN (τ3 0 3)))) = 0 then τ3 else (if (lg_cmp (jl (τ3 0 7) (τ3 0 8)) 99999) ≤ 0 then (m_next_L185 σ n0 τ n185 ((mset (mset (mset τ3 0 7 (jhi ((((jl (τ3 0 7) (τ3 0 8)) * 10) + (((m_byteAt τ3 (nN (τ3 0 3)))).toInt64)) - 48))) 0 8 (jlo ((((jl (τ3 0 7) (τ3 0 8)) * 10) + (((m_byteAt τ3 (nN (τ3 0 3)))).toInt64)) - 48))) 0 3 ((τ3 0 3) + 1)))) else (m_next_L185 σ n0 τ n185 ((mset (mset (mset τ3 0 7 (jhi (jl (τ3 0 7) (τ3 0 8)))) 0 8 (jlo (jl (τ3 0 7) (τ3 0 8)))) 0 3 ((τ3 0 3) + 1)))))
def m_next_L103 (σ : gM) (n0 : Nat) (τ : gM) : Nat → gM → gM
  | 0, τ2 => σ
  | n103 + 1, τ2 => if (m_letter (m_byteAt τ2 (nN (τ2 0 3)))) ≤ 0 then τ2 else (if (lg_cmp (jl (τ2 0 7) (τ2 0 8)) 100000000000000000) ≤ 0 then (m_next_L103 σ n0 τ n103 ((mset (mset (mset τ2 0 7 (jhi (((jl (τ2 0 7) (τ2 0 8)) * 27) + (((m_letter (m_byteAt τ2 (nN (τ2 0 3))))).toInt64)))) 0 8 (jlo (((jl (τ2 0 7) (τ2 0 8)) * 27) + (((m_letter (m_byteAt τ2 (nN (τ2 0 3))))).toInt64)))) 0 3 ((τ2 0 3) + 1)))) else (m_next_L103 σ n0 τ n103 ((mset (mset (mset τ2 0 7 (jhi (jl (τ2 0 7) (τ2 0 8)))) 0 8 (jlo (jl (τ2 0 7) (τ2 0 8)))) 0 3 ((τ2 0 3) + 1)))))
def m_next_L0 (σ : gM) : Nat → gM → gM
  | 0, τ => σ
  | n0 + 1, τ => if (m_byteAt τ (nN (τ 0 3))) = 32 then (m_next_L0 σ n0 (mset τ 0 3 ((τ 0 3) + 1))) else (if (τ 0 3) = (τ 0 1) then (mset (mset (mset (mset τ 0 5 (τ 0 3)) 0 7 (jhi 0)) 0 8 (jlo 0)) 0 4 0) else (if (m_byteAt (mset (mset (mset τ 0 5 (τ 0 3)) 0 7 (jhi 0)) 0 8 (jlo 0)) (nN (τ 0 3))) = 59 then (mset (mset (mset (mset (mset τ 0 5 (τ 0 3)) 0 7 (jhi 0)) 0 8 (jlo 0)) 0 4 3) 0 3 ((τ 0 3) + 1)) else (if (m_letter (m_byteAt (mset (mset (mset τ 0 5 (τ 0 3)) 0 7 (jhi 0)) 0 8 (jlo 0)) (nN (τ 0 3)))) ≤ 0 then (if (m_isDigit (m_byteAt (mset (mset (mset τ 0 5 (τ 0 3)) 0 7 (jhi 0)) 0 8 (jlo 0)) (nN (τ 0 3)))) = 0 then (mset (mset (mset (mset τ 0 5 (τ 0 3)) 0 7 (jhi 0)) 0 8 (jlo 0)) 0 4 4) else (m_next_L185 σ n0 τ ((nN (τ 0 1) + 1 - nN (τ 0 3))) ((mset (mset (mset (mset τ 0 5 (τ 0 3)) 0 7 (jhi 0)) 0 8 (jlo 0)) 0 4 2)))) else (m_next_L103 σ n0 τ ((nN (τ 0 1) + 1 - nN (τ 0 3))) ((mset (mset (mset (mset τ 0 5 (τ 0 3)) 0 7 (jhi 0)) 0 8 (jlo 0)) 0 4 1))))))
def m_next (σ : gM) : gM := (m_next_L0 σ ((nN (σ 0 1) + 1 - nN (σ 0 3))) σ)
def rm_yX7_next : Room := { frames := 1, cells := 0, slots := 0, locals := 21 }
set_option maxHeartbeats 4000000 in
set_option maxRecDepth 100000 in
theorem c_yX7_next (l : Launch) (G : gG) (ad : Nat → Nat) (hI : gI G.2.2.1 11 ad) (σ : gM) (T : Nat) (hT : T ≤ 120) (ht : σ 0 1 = nI T) (tp : ∃ a, σ 0 3 = nI a ∧ a ≤ T) : gMutV l yX7_next cX7_next 2 none rm_yX7_next G [.ref (ad 0)] 11 ad (shM G ad) σ (m_next σ) := by
  refine g_start [.ref (ad 0)] (by decide +kernel) (Nat.le_of_ble_eq_true rfl) ?_
  intro p e s m below meth c ls B Z hl
  obtain ⟨C, hr, hlk⟩ := B
  have hx := C.1
  have hb := C.2.1
  obtain ⟨hX, hP⟩ := Z
  have hS : va_S (gA 11 ad) s.heap s.heap [] := va_S.rf
  revert hP hS
  intro hP hS
  have hl : lv_has ls 2 [(0, .ref (ad 0))] := hl
  obtain ⟨a0, hp1, hp2⟩ := tp
  suffices loop0 : ∀ (n0 : Nat) (τ : gM) (H : Heap) (locs : List Loc) (ls : Array Slot), (∃ a, τ 0 3 = nI a ∧ a ≤ T ∧ a + n0 = T + 1) → (τ 0 1 = nI T) → m_next σ = (m_next_L0 σ n0 τ) → gP G.1 11 ad (gE (shM G ad) τ) H → va_S (gA 11 ad) s.heap H locs → lv_has ls 2 [(0, .ref (ad 0))] → W p l e rm_yX7_next s m ([.ref (ad 0)] : List Value).toArray below meth c H locs 0 0 (MQ below (va_Qv (fun τ : gM => τ = m_next σ) (fun τ t => gP G.1 11 ad (gE (shM G ad) τ) t.heap) (gA 11 ad)) ([.ref (ad 0)] : List Value).toArray s 0 0 (gA 11 ad)) (F0 m 0 ls []) by
    exact loop0 (T + 1 - a0) σ _ _ _ ⟨a0, hp1, hp2, by omega⟩ ht (by rw [m_next, ht, hp1, nN_nI (by omega), nN_nI (by omega)]) hP hS (lv_sub hl [0] rfl)
  intro n0
  induction n0 with
  | zero =>
    intro τ H locs ls ha0 ht0 hres0 hP hS hl
    obtain ⟨a, -, h2, h3⟩ := ha0
    exact absurd h3 (by omega)
  | succ n0 ih0 =>
    intro τ H locs ls ha0 ht0 hres0 hP hS hl
    obtain ⟨a0_, hb0, hc0, hd0⟩ := ha0
    have he0 : nN (τ 0 3) = a0_ := by rw [hb0, nN_nI (by omega)]
    have hf0 : τ 0 3 = nI (nN (τ 0 3)) := by rw [he0]; exact hb0
    refine lv_aload_n hx hb dX7_next_0 rfl (lv_at hl 0 rfl) ?_
    refine lv_aload_n hx hb dX7_next_1 rfl (lv_at hl 0 rfl) ?_
    refine g_get fd_RX7_208 C hX hP 0 (by decide) (shM_0 G ad _) (v := .int (τ 0 3)) rfl dX7_next_2 ?_
    refine lv_as (y := (nI (nN (τ 0 3)))) hf0 ?_
    refine g_rd (g_runV (As := [.int (nI (nN (τ 0 3)))]) (rest := []) ky_yX7_byteAt lk_RX7_211 C hX (gS_b0 hI hS) hP 0 (c_yX7_byteAt l G ad hI τ (nN (τ 0 3)) T hT (by exact ht0) (by omega)) (by decide) (shM_0 G ad _) ⟨rfl, rfl, by decide, by decide⟩ rfl hl.1 rfl (Nat.le_of_ble_eq_true rfl) ⟨Nat.zero_le _, Nat.zero_le _⟩ dX7_next_5) ?_
    refine lv_bipush (v := 32) hx hb dX7_next_8 (by decide) ?_
    refine lv_icmp_ne (tgt := 26) hx hb dX7_next_10 (by decide) (fun c1 => ?_) (fun c1 => ?_)
    · refine lv_aload_n hx hb dX7_next_26 rfl (lv_at hl 0 rfl) ?_
      refine lv_aload_n hx hb dX7_next_27 rfl (lv_at hl 0 rfl) ?_
      refine g_get fd_RX7_208 C hX hP 0 (by decide) (shM_0 G ad _) (v := .int (τ 0 3)) rfl dX7_next_28 ?_
      refine g_put fd_RX7_214 C hX hI hP hS 0 (by decide) (shM_0 G ad _) rfl rfl (Nat.le_of_ble_eq_true rfl) (upd (τ 0) 5 (τ 0 3)) rfl dX7_next_31 (fun H locs hP hS => ?_)
      have hP : gP G.1 11 ad (gE (shM G ad) (mset τ 0 5 (τ 0 3))) H := hP
      refine lv_aload_n hx hb dX7_next_34 rfl (lv_at hl 0 rfl) ?_
      refine lv_lconst (v := 0) hx hb dX7_next_35 (by decide) ?_
      refine g_put fd_RX7_217 C hX hI hP hS 0 (by decide) (shM_0 G ad _) rfl rfl (Nat.le_of_ble_eq_true rfl) (upd (upd ((mset τ 0 5 (τ 0 3)) 0) 7 (jhi 0)) 8 (jlo 0)) (shM_val G ad _ _) dX7_next_36 (fun H locs hP hS => ?_)
      rw [mset_two] at hP
      have hP : gP G.1 11 ad (gE (shM G ad) (mset (mset (mset τ 0 5 (τ 0 3)) 0 7 (jhi 0)) 0 8 (jlo 0))) H := hP
      refine lv_aload_n hx hb dX7_next_39 rfl (lv_at hl 0 rfl) ?_
      refine lv_aload_n hx hb dX7_next_40 rfl (lv_at hl 0 rfl) ?_
      refine g_get fd_RX7_208 C hX hP 0 (by decide) (shM_0 G ad _) (v := .int (τ 0 3)) rfl dX7_next_41 ?_
      refine lv_as (y := (nI (nN (τ 0 3)))) hf0 ?_
      refine g_rd (g_runV (As := [.int (nI (nN (τ 0 3)))]) (rest := []) ky_yX7_byteAt lk_RX7_211 C hX (gS_b0 hI hS) hP 0 (c_yX7_byteAt l G ad hI (mset (mset (mset τ 0 5 (τ 0 3)) 0 7 (jhi 0)) 0 8 (jlo 0)) (nN (τ 0 3)) T hT (by exact ht0) (by omega)) (by decide) (shM_0 G ad _) ⟨rfl, rfl, by decide, by decide⟩ rfl hl.1 rfl (Nat.le_of_ble_eq_true rfl) ⟨Nat.zero_le _, Nat.zero_le _⟩ dX7_next_44) ?_
      refine lv_istore_n (lv' := [(1, .int (m_byteAt (mset (mset (mset τ 0 5 (τ 0 3)) 0 7 (jhi 0)) 0 8 (jlo 0)) (nN (τ 0 3)))), (0, .ref (ad 0))]) hx hb dX7_next_47 rfl hl (by decide) rfl (fun ls hl => ?_)
      refine lv_aload_n hx hb dX7_next_48 rfl (lv_at hl 1 rfl) ?_
      refine g_get fd_RX7_208 C hX hP 0 (by decide) (shM_0 G ad _) (v := .int (τ 0 3)) rfl dX7_next_49 ?_
      refine lv_aload_n hx hb dX7_next_52 rfl (lv_at hl 1 rfl) ?_
      refine g_get fd_RX7_205 C hX hP 0 (by decide) (shM_0 G ad _) (v := .int (τ 0 1)) rfl dX7_next_53 ?_
      refine lv_icmp_ne (tgt := 67) hx hb dX7_next_56 (by decide) (fun c2 => ?_) (fun c2 => ?_)
      · refine lv_iload_n hx hb dX7_next_67 rfl (lv_at hl 0 rfl) ?_
        refine lv_bipush (v := 59) hx hb dX7_next_68 (by decide) ?_
        refine lv_icmp_ne (tgt := 91) hx hb dX7_next_70 (by decide) (fun c3 => ?_) (fun c3 => ?_)
        · refine lv_iload_n hx hb dX7_next_91 rfl (lv_at hl 0 rfl) ?_
          refine g_rd (g_runS (As := [.int (m_byteAt (mset (mset (mset τ 0 5 (τ 0 3)) 0 7 (jhi 0)) 0 8 (jlo 0)) (nN (τ 0 3)))]) (rest := []) ky_yX7_letter lk_RX7_224 C (c_yX7_letter l (m_byteAt (mset (mset (mset τ 0 5 (τ 0 3)) 0 7 (jhi 0)) 0 8 (jlo 0)) (nN (τ 0 3)))) ⟨rfl, rfl, by decide, by decide⟩ rfl hl.1 rfl (Nat.le_of_ble_eq_true rfl) ⟨Nat.zero_le _, Nat.zero_le _⟩ dX7_next_92) ?_
          refine lv_if_le (tgt := 173) hx hb dX7_next_95 (by decide) (fun c4 => ?_) (fun c4 => ?_)
          · refine lv_iload_n hx hb dX7_next_173 rfl (lv_at hl 0 rfl) ?_
            refine g_rd (g_runS (As := [.int (m_byteAt (mset (mset (mset τ 0 5 (τ 0 3)) 0 7 (jhi 0)) 0 8 (jlo 0)) (nN (τ 0 3)))]) (rest := []) ky_yX7_isDigit lk_RX7_231 C (c_yX7_isDigit l (m_byteAt (mset (mset (mset τ 0 5 (τ 0 3)) 0 7 (jhi 0)) 0 8 (jlo 0)) (nN (τ 0 3)))) ⟨rfl, rfl, by decide, by decide⟩ rfl hl.1 rfl (Nat.le_of_ble_eq_true rfl) ⟨Nat.zero_le _, Nat.zero_le _⟩ dX7_next_174) ?_
            refine lv_if_eq (tgt := 256) hx hb dX7_next_177 (by decide) (fun c5 => ?_) (fun c5 => ?_)
            · refine lv_aload_n hx hb dX7_next_256 rfl (lv_at hl 1 rfl) ?_
              refine lv_iconst (v := 4) hx hb dX7_next_257 (by decide) ?_
              refine g_put fd_RX7_221 C hX hI hP hS 0 (by decide) (shM_0 G ad _) rfl rfl (Nat.le_of_ble_eq_true rfl) (upd ((mset (mset (mset τ 0 5 (τ 0 3)) 0 7 (jhi 0)) 0 8 (jlo 0)) 0) 4 4) rfl dX7_next_258 (fun H locs hP hS => ?_)
              have hP : gP G.1 11 ad (gE (shM G ad) (mset (mset (mset (mset τ 0 5 (τ 0 3)) 0 7 (jhi 0)) 0 8 (jlo 0)) 0 4 4)) H := hP
              exact g_vretM C hr hlk (by rw [hres0, m_next_L0, if_neg c1, if_neg c2, if_neg c3, if_pos c4, if_pos c5]) hP hS dX7_next_261
            · refine lv_aload_n hx hb dX7_next_180 rfl (lv_at hl 1 rfl) ?_
              refine lv_iconst (v := 2) hx hb dX7_next_181 (by decide) ?_
              refine g_put fd_RX7_221 C hX hI hP hS 0 (by decide) (shM_0 G ad _) rfl rfl (Nat.le_of_ble_eq_true rfl) (upd ((mset (mset (mset τ 0 5 (τ 0 3)) 0 7 (jhi 0)) 0 8 (jlo 0)) 0) 4 2) rfl dX7_next_182 (fun H locs hP hS => ?_)
              have hP : gP G.1 11 ad (gE (shM G ad) (mset (mset (mset (mset τ 0 5 (τ 0 3)) 0 7 (jhi 0)) 0 8 (jlo 0)) 0 4 2)) H := hP
              suffices loop185 : ∀ (n185 : Nat) (τ3 : gM) (H : Heap) (locs : List Loc) (ls : Array Slot), (∃ a, τ3 0 3 = nI a ∧ a ≤ T ∧ a + n185 = T + 1) → (τ3 0 1 = nI T) → m_next σ = (m_next_L185 σ n0 τ n185 τ3) → gP G.1 11 ad (gE (shM G ad) τ3) H → va_S (gA 11 ad) s.heap H locs → lv_has ls 2 [(1, .int (m_byteAt (mset (mset (mset τ 0 5 (τ 0 3)) 0 7 (jhi 0)) 0 8 (jlo 0)) (nN (τ 0 3)))), (0, .ref (ad 0))] → W p l e rm_yX7_next s m ([.ref (ad 0)] : List Value).toArray below meth c H locs 0 0 (MQ below (va_Qv (fun τ : gM => τ = m_next σ) (fun τ t => gP G.1 11 ad (gE (shM G ad) τ) t.heap) (gA 11 ad)) ([.ref (ad 0)] : List Value).toArray s 0 0 (gA 11 ad)) (F0 m 185 ls []) by
                exact loop185 (T + 1 - a0_) ((mset (mset (mset (mset τ 0 5 (τ 0 3)) 0 7 (jhi 0)) 0 8 (jlo 0)) 0 4 2)) _ _ _ ⟨a0_, by exact hb0, hc0, by omega⟩ (by exact ht0) (by rw [hres0, m_next_L0, if_neg c1, if_neg c2, if_neg c3, if_pos c4, if_neg c5, ht0, he0, nN_nI (by omega)]) hP hS (lv_sub hl [0, 1] rfl)
              intro n185
              induction n185 with
              | zero =>
                intro τ3 H locs ls ha185 ht185 hres185 hP hS hl
                obtain ⟨a, -, h2, h3⟩ := ha185
                exact absurd h3 (by omega)
              | succ n185 ih185 =>
                intro τ3 H locs ls ha185 ht185 hres185 hP hS hl
                obtain ⟨a185, hb185, hc185, hd185⟩ := ha185
                have he185 : nN (τ3 0 3) = a185 := by rw [hb185, nN_nI (by omega)]
                have hf185 : τ3 0 3 = nI (nN (τ3 0 3)) := by rw [he185]; exact hb185
                refine lv_aload_n hx hb dX7_next_185 rfl (lv_at hl 1 rfl) ?_
                refine lv_aload_n hx hb dX7_next_186 rfl (lv_at hl 1 rfl) ?_
                refine g_get fd_RX7_208 C hX hP 0 (by decide) (shM_0 G ad _) (v := .int (τ3 0 3)) rfl dX7_next_187 ?_
                refine lv_as (y := (nI (nN (τ3 0 3)))) hf185 ?_
                refine g_rd (g_runV (As := [.int (nI (nN (τ3 0 3)))]) (rest := []) ky_yX7_byteAt lk_RX7_211 C hX (gS_b0 hI hS) hP 0 (c_yX7_byteAt l G ad hI τ3 (nN (τ3 0 3)) T hT (by exact ht185) (by omega)) (by decide) (shM_0 G ad _) ⟨rfl, rfl, by decide, by decide⟩ rfl hl.1 rfl (Nat.le_of_ble_eq_true rfl) ⟨Nat.zero_le _, Nat.zero_le _⟩ dX7_next_190) ?_
                refine g_rd (g_runS (As := [.int (m_byteAt τ3 (nN (τ3 0 3)))]) (rest := []) ky_yX7_isDigit lk_RX7_231 C (c_yX7_isDigit l (m_byteAt τ3 (nN (τ3 0 3)))) ⟨rfl, rfl, by decide, by decide⟩ rfl hl.1 rfl (Nat.le_of_ble_eq_true rfl) ⟨Nat.zero_le _, Nat.zero_le _⟩ dX7_next_193) ?_
                refine lv_if_eq (tgt := 261) hx hb dX7_next_196 (by decide) (fun c6 => ?_) (fun c6 => ?_)
                · exact g_vretM C hr hlk (by rw [hres185, m_next_L185, if_pos c6]) hP hS dX7_next_261
                · have hlt := mb_digit hT ht185 (by omega) c6
                  refine lv_aload_n hx hb dX7_next_199 rfl (lv_at hl 1 rfl) ?_
                  refine lv_aload_n hx hb dX7_next_200 rfl (lv_at hl 1 rfl) ?_
                  refine g_get fd_RX7_217 C hX hP 0 (by decide) (shM_0 G ad _) (v := .long (jl (τ3 0 7) (τ3 0 8))) rfl dX7_next_201 ?_
                  refine lv_ldc2 hx hb C.2.2.2.1 (C.2.2.2.2 _ kc_RX7_234) dX7_next_204 ?_
                  refine W.lcmp hx hb dX7_next_207 ?_
                  refine lv_if_le (tgt := 218) hx hb dX7_next_208 (by decide) (fun c7 => ?_) (fun c7 => ?_)
                  · refine lv_aload_n hx hb dX7_next_218 rfl (lv_at hl 1 rfl) ?_
                    refine g_get fd_RX7_217 C hX hP 0 (by decide) (shM_0 G ad _) (v := .long (jl (τ3 0 7) (τ3 0 8))) rfl dX7_next_219 ?_
                    refine lv_ldc2 hx hb C.2.2.2.1 (C.2.2.2.2 _ kc_RX7_141) dX7_next_222 ?_
                    refine lv_lmul hx hb dX7_next_225 ?_
                    refine lv_aload_n hx hb dX7_next_226 rfl (lv_at hl 1 rfl) ?_
                    refine lv_aload_n hx hb dX7_next_227 rfl (lv_at hl 1 rfl) ?_
                    refine g_get fd_RX7_208 C hX hP 0 (by decide) (shM_0 G ad _) (v := .int (τ3 0 3)) rfl dX7_next_228 ?_
                    refine lv_as (y := (nI (nN (τ3 0 3)))) hf185 ?_
                    refine g_rd (g_runV (As := [.int (nI (nN (τ3 0 3)))]) (rest := [.long ((jl (τ3 0 7) (τ3 0 8)) * 10), .ref (ad 0)]) ky_yX7_byteAt lk_RX7_211 C hX (gS_b0 hI hS) hP 0 (c_yX7_byteAt l G ad hI τ3 (nN (τ3 0 3)) T hT (by exact ht185) (by omega)) (by decide) (shM_0 G ad _) ⟨rfl, rfl, by decide, by decide⟩ rfl hl.1 rfl (Nat.le_of_ble_eq_true rfl) ⟨Nat.zero_le _, Nat.zero_le _⟩ dX7_next_231) ?_
                    refine lv_i2l (v := ((m_byteAt τ3 (nN (τ3 0 3)))).toInt64) hx hb dX7_next_234 rfl ?_
                    refine lv_ladd hx hb dX7_next_235 ?_
                    refine lv_ldc2 hx hb C.2.2.2.1 (C.2.2.2.2 _ kc_RX7_236) dX7_next_236 ?_
                    refine lv_lsub hx hb dX7_next_239 ?_
                    refine g_put fd_RX7_217 C hX hI hP hS 0 (by decide) (shM_0 G ad _) rfl rfl (Nat.le_of_ble_eq_true rfl) (upd (upd (τ3 0) 7 (jhi ((((jl (τ3 0 7) (τ3 0 8)) * 10) + (((m_byteAt τ3 (nN (τ3 0 3)))).toInt64)) - 48))) 8 (jlo ((((jl (τ3 0 7) (τ3 0 8)) * 10) + (((m_byteAt τ3 (nN (τ3 0 3)))).toInt64)) - 48))) (shM_val G ad _ _) dX7_next_240 (fun H locs hP hS => ?_)
                    rw [mset_two] at hP
                    have hP : gP G.1 11 ad (gE (shM G ad) (mset (mset τ3 0 7 (jhi ((((jl (τ3 0 7) (τ3 0 8)) * 10) + (((m_byteAt τ3 (nN (τ3 0 3)))).toInt64)) - 48))) 0 8 (jlo ((((jl (τ3 0 7) (τ3 0 8)) * 10) + (((m_byteAt τ3 (nN (τ3 0 3)))).toInt64)) - 48)))) H := hP
                    refine lv_aload_n hx hb dX7_next_243 rfl (lv_at hl 1 rfl) ?_
                    refine lv_dup hx hb dX7_next_244 rfl ?_
                    refine g_get fd_RX7_208 C hX hP 0 (by decide) (shM_0 G ad _) (v := .int (τ3 0 3)) rfl dX7_next_245 ?_
                    refine lv_iconst (v := 1) hx hb dX7_next_248 (by decide) ?_
                    refine lv_iadd hx hb dX7_next_249 ?_
                    refine g_put fd_RX7_208 C hX hI hP hS 0 (by decide) (shM_0 G ad _) rfl rfl (Nat.le_of_ble_eq_true rfl) (upd ((mset (mset τ3 0 7 (jhi ((((jl (τ3 0 7) (τ3 0 8)) * 10) + (((m_byteAt τ3 (nN (τ3 0 3)))).toInt64)) - 48))) 0 8 (jlo ((((jl (τ3 0 7) (τ3 0 8)) * 10) + (((m_byteAt τ3 (nN (τ3 0 3)))).toInt64)) - 48))) 0) 3 ((τ3 0 3) + 1)) rfl dX7_next_250 (fun H locs hP hS => ?_)
                    have hP : gP G.1 11 ad (gE (shM G ad) (mset (mset (mset τ3 0 7 (jhi ((((jl (τ3 0 7) (τ3 0 8)) * 10) + (((m_byteAt τ3 (nN (τ3 0 3)))).toInt64)) - 48))) 0 8 (jlo ((((jl (τ3 0 7) (τ3 0 8)) * 10) + (((m_byteAt τ3 (nN (τ3 0 3)))).toInt64)) - 48))) 0 3 ((τ3 0 3) + 1))) H := hP
                    refine lv_goto (tgt := 185) hx hb dX7_next_253 (by decide) ?_
                    exact ih185 ((mset (mset (mset τ3 0 7 (jhi ((((jl (τ3 0 7) (τ3 0 8)) * 10) + (((m_byteAt τ3 (nN (τ3 0 3)))).toInt64)) - 48))) 0 8 (jlo ((((jl (τ3 0 7) (τ3 0 8)) * 10) + (((m_byteAt τ3 (nN (τ3 0 3)))).toInt64)) - 48))) 0 3 ((τ3 0 3) + 1))) _ _ _ ⟨a185 + 1, by show τ3 0 3 + 1 = _; rw [hb185]; exact nI_1 _, by omega, by omega⟩ (by exact ht185) (by rw [hres185, m_next_L185, if_neg c6, if_pos c7]) hP hS (lv_sub hl [0, 1] rfl)
                  · refine lv_aload_n hx hb dX7_next_211 rfl (lv_at hl 1 rfl) ?_
                    refine g_get fd_RX7_217 C hX hP 0 (by decide) (shM_0 G ad _) (v := .long (jl (τ3 0 7) (τ3 0 8))) rfl dX7_next_212 ?_
                    refine lv_goto (tgt := 240) hx hb dX7_next_215 (by decide) ?_
                    refine g_put fd_RX7_217 C hX hI hP hS 0 (by decide) (shM_0 G ad _) rfl rfl (Nat.le_of_ble_eq_true rfl) (upd (upd (τ3 0) 7 (jhi (jl (τ3 0 7) (τ3 0 8)))) 8 (jlo (jl (τ3 0 7) (τ3 0 8)))) (shM_val G ad _ _) dX7_next_240 (fun H locs hP hS => ?_)
                    rw [mset_two] at hP
                    have hP : gP G.1 11 ad (gE (shM G ad) (mset (mset τ3 0 7 (jhi (jl (τ3 0 7) (τ3 0 8)))) 0 8 (jlo (jl (τ3 0 7) (τ3 0 8))))) H := hP
                    refine lv_aload_n hx hb dX7_next_243 rfl (lv_at hl 1 rfl) ?_
                    refine lv_dup hx hb dX7_next_244 rfl ?_
                    refine g_get fd_RX7_208 C hX hP 0 (by decide) (shM_0 G ad _) (v := .int (τ3 0 3)) rfl dX7_next_245 ?_
                    refine lv_iconst (v := 1) hx hb dX7_next_248 (by decide) ?_
                    refine lv_iadd hx hb dX7_next_249 ?_
                    refine g_put fd_RX7_208 C hX hI hP hS 0 (by decide) (shM_0 G ad _) rfl rfl (Nat.le_of_ble_eq_true rfl) (upd ((mset (mset τ3 0 7 (jhi (jl (τ3 0 7) (τ3 0 8)))) 0 8 (jlo (jl (τ3 0 7) (τ3 0 8)))) 0) 3 ((τ3 0 3) + 1)) rfl dX7_next_250 (fun H locs hP hS => ?_)
                    have hP : gP G.1 11 ad (gE (shM G ad) (mset (mset (mset τ3 0 7 (jhi (jl (τ3 0 7) (τ3 0 8)))) 0 8 (jlo (jl (τ3 0 7) (τ3 0 8)))) 0 3 ((τ3 0 3) + 1))) H := hP
                    refine lv_goto (tgt := 185) hx hb dX7_next_253 (by decide) ?_
                    exact ih185 ((mset (mset (mset τ3 0 7 (jhi (jl (τ3 0 7) (τ3 0 8)))) 0 8 (jlo (jl (τ3 0 7) (τ3 0 8)))) 0 3 ((τ3 0 3) + 1))) _ _ _ ⟨a185 + 1, by show τ3 0 3 + 1 = _; rw [hb185]; exact nI_1 _, by omega, by omega⟩ (by exact ht185) (by rw [hres185, m_next_L185, if_neg c6, if_neg c7]) hP hS (lv_sub hl [0, 1] rfl)
          · refine lv_aload_n hx hb dX7_next_98 rfl (lv_at hl 1 rfl) ?_
            refine lv_iconst (v := 1) hx hb dX7_next_99 (by decide) ?_
            refine g_put fd_RX7_221 C hX hI hP hS 0 (by decide) (shM_0 G ad _) rfl rfl (Nat.le_of_ble_eq_true rfl) (upd ((mset (mset (mset τ 0 5 (τ 0 3)) 0 7 (jhi 0)) 0 8 (jlo 0)) 0) 4 1) rfl dX7_next_100 (fun H locs hP hS => ?_)
            have hP : gP G.1 11 ad (gE (shM G ad) (mset (mset (mset (mset τ 0 5 (τ 0 3)) 0 7 (jhi 0)) 0 8 (jlo 0)) 0 4 1)) H := hP
            suffices loop103 : ∀ (n103 : Nat) (τ2 : gM) (H : Heap) (locs : List Loc) (ls : Array Slot), (∃ a, τ2 0 3 = nI a ∧ a ≤ T ∧ a + n103 = T + 1) → (τ2 0 1 = nI T) → m_next σ = (m_next_L103 σ n0 τ n103 τ2) → gP G.1 11 ad (gE (shM G ad) τ2) H → va_S (gA 11 ad) s.heap H locs → lv_has ls 2 [(1, .int (m_byteAt (mset (mset (mset τ 0 5 (τ 0 3)) 0 7 (jhi 0)) 0 8 (jlo 0)) (nN (τ 0 3)))), (0, .ref (ad 0))] → W p l e rm_yX7_next s m ([.ref (ad 0)] : List Value).toArray below meth c H locs 0 0 (MQ below (va_Qv (fun τ : gM => τ = m_next σ) (fun τ t => gP G.1 11 ad (gE (shM G ad) τ) t.heap) (gA 11 ad)) ([.ref (ad 0)] : List Value).toArray s 0 0 (gA 11 ad)) (F0 m 103 ls []) by
              exact loop103 (T + 1 - a0_) ((mset (mset (mset (mset τ 0 5 (τ 0 3)) 0 7 (jhi 0)) 0 8 (jlo 0)) 0 4 1)) _ _ _ ⟨a0_, by exact hb0, hc0, by omega⟩ (by exact ht0) (by rw [hres0, m_next_L0, if_neg c1, if_neg c2, if_neg c3, if_neg c4, ht0, he0, nN_nI (by omega)]) hP hS (lv_sub hl [0, 1] rfl)
            intro n103
            induction n103 with
            | zero =>
              intro τ2 H locs ls ha103 ht103 hres103 hP hS hl
              obtain ⟨a, -, h2, h3⟩ := ha103
              exact absurd h3 (by omega)
            | succ n103 ih103 =>
              intro τ2 H locs ls ha103 ht103 hres103 hP hS hl
              obtain ⟨a103, hb103, hc103, hd103⟩ := ha103
              have he103 : nN (τ2 0 3) = a103 := by rw [hb103, nN_nI (by omega)]
              have hf103 : τ2 0 3 = nI (nN (τ2 0 3)) := by rw [he103]; exact hb103
              refine lv_aload_n hx hb dX7_next_103 rfl (lv_at hl 1 rfl) ?_
              refine lv_aload_n hx hb dX7_next_104 rfl (lv_at hl 1 rfl) ?_
              refine g_get fd_RX7_208 C hX hP 0 (by decide) (shM_0 G ad _) (v := .int (τ2 0 3)) rfl dX7_next_105 ?_
              refine lv_as (y := (nI (nN (τ2 0 3)))) hf103 ?_
              refine g_rd (g_runV (As := [.int (nI (nN (τ2 0 3)))]) (rest := []) ky_yX7_byteAt lk_RX7_211 C hX (gS_b0 hI hS) hP 0 (c_yX7_byteAt l G ad hI τ2 (nN (τ2 0 3)) T hT (by exact ht103) (by omega)) (by decide) (shM_0 G ad _) ⟨rfl, rfl, by decide, by decide⟩ rfl hl.1 rfl (Nat.le_of_ble_eq_true rfl) ⟨Nat.zero_le _, Nat.zero_le _⟩ dX7_next_108) ?_
              refine g_rd (g_runS (As := [.int (m_byteAt τ2 (nN (τ2 0 3)))]) (rest := []) ky_yX7_letter lk_RX7_224 C (c_yX7_letter l (m_byteAt τ2 (nN (τ2 0 3)))) ⟨rfl, rfl, by decide, by decide⟩ rfl hl.1 rfl (Nat.le_of_ble_eq_true rfl) ⟨Nat.zero_le _, Nat.zero_le _⟩ dX7_next_111) ?_
              refine lv_if_le (tgt := 261) hx hb dX7_next_114 (by decide) (fun c8 => ?_) (fun c8 => ?_)
              · exact g_vretM C hr hlk (by rw [hres103, m_next_L103, if_pos c8]) hP hS dX7_next_261
              · have hlt := mb_letter hT ht103 (by omega) c8
                refine lv_aload_n hx hb dX7_next_117 rfl (lv_at hl 1 rfl) ?_
                refine lv_aload_n hx hb dX7_next_118 rfl (lv_at hl 1 rfl) ?_
                refine g_get fd_RX7_217 C hX hP 0 (by decide) (shM_0 G ad _) (v := .long (jl (τ2 0 7) (τ2 0 8))) rfl dX7_next_119 ?_
                refine lv_ldc2 hx hb C.2.2.2.1 (C.2.2.2.2 _ kc_RX7_227) dX7_next_122 ?_
                refine W.lcmp hx hb dX7_next_125 ?_
                refine lv_if_le (tgt := 136) hx hb dX7_next_126 (by decide) (fun c9 => ?_) (fun c9 => ?_)
                · refine lv_aload_n hx hb dX7_next_136 rfl (lv_at hl 1 rfl) ?_
                  refine g_get fd_RX7_217 C hX hP 0 (by decide) (shM_0 G ad _) (v := .long (jl (τ2 0 7) (τ2 0 8))) rfl dX7_next_137 ?_
                  refine lv_ldc2 hx hb C.2.2.2.1 (C.2.2.2.2 _ kc_RX7_229) dX7_next_140 ?_
                  refine lv_lmul hx hb dX7_next_143 ?_
                  refine lv_aload_n hx hb dX7_next_144 rfl (lv_at hl 1 rfl) ?_
                  refine lv_aload_n hx hb dX7_next_145 rfl (lv_at hl 1 rfl) ?_
                  refine g_get fd_RX7_208 C hX hP 0 (by decide) (shM_0 G ad _) (v := .int (τ2 0 3)) rfl dX7_next_146 ?_
                  refine lv_as (y := (nI (nN (τ2 0 3)))) hf103 ?_
                  refine g_rd (g_runV (As := [.int (nI (nN (τ2 0 3)))]) (rest := [.long ((jl (τ2 0 7) (τ2 0 8)) * 27), .ref (ad 0)]) ky_yX7_byteAt lk_RX7_211 C hX (gS_b0 hI hS) hP 0 (c_yX7_byteAt l G ad hI τ2 (nN (τ2 0 3)) T hT (by exact ht103) (by omega)) (by decide) (shM_0 G ad _) ⟨rfl, rfl, by decide, by decide⟩ rfl hl.1 rfl (Nat.le_of_ble_eq_true rfl) ⟨Nat.zero_le _, Nat.zero_le _⟩ dX7_next_149) ?_
                  refine g_rd (g_runS (As := [.int (m_byteAt τ2 (nN (τ2 0 3)))]) (rest := [.long ((jl (τ2 0 7) (τ2 0 8)) * 27), .ref (ad 0)]) ky_yX7_letter lk_RX7_224 C (c_yX7_letter l (m_byteAt τ2 (nN (τ2 0 3)))) ⟨rfl, rfl, by decide, by decide⟩ rfl hl.1 rfl (Nat.le_of_ble_eq_true rfl) ⟨Nat.zero_le _, Nat.zero_le _⟩ dX7_next_152) ?_
                  refine lv_i2l (v := ((m_letter (m_byteAt τ2 (nN (τ2 0 3))))).toInt64) hx hb dX7_next_155 rfl ?_
                  refine lv_ladd hx hb dX7_next_156 ?_
                  refine g_put fd_RX7_217 C hX hI hP hS 0 (by decide) (shM_0 G ad _) rfl rfl (Nat.le_of_ble_eq_true rfl) (upd (upd (τ2 0) 7 (jhi (((jl (τ2 0 7) (τ2 0 8)) * 27) + (((m_letter (m_byteAt τ2 (nN (τ2 0 3))))).toInt64)))) 8 (jlo (((jl (τ2 0 7) (τ2 0 8)) * 27) + (((m_letter (m_byteAt τ2 (nN (τ2 0 3))))).toInt64)))) (shM_val G ad _ _) dX7_next_157 (fun H locs hP hS => ?_)
                  rw [mset_two] at hP
                  have hP : gP G.1 11 ad (gE (shM G ad) (mset (mset τ2 0 7 (jhi (((jl (τ2 0 7) (τ2 0 8)) * 27) + (((m_letter (m_byteAt τ2 (nN (τ2 0 3))))).toInt64)))) 0 8 (jlo (((jl (τ2 0 7) (τ2 0 8)) * 27) + (((m_letter (m_byteAt τ2 (nN (τ2 0 3))))).toInt64))))) H := hP
                  refine lv_aload_n hx hb dX7_next_160 rfl (lv_at hl 1 rfl) ?_
                  refine lv_dup hx hb dX7_next_161 rfl ?_
                  refine g_get fd_RX7_208 C hX hP 0 (by decide) (shM_0 G ad _) (v := .int (τ2 0 3)) rfl dX7_next_162 ?_
                  refine lv_iconst (v := 1) hx hb dX7_next_165 (by decide) ?_
                  refine lv_iadd hx hb dX7_next_166 ?_
                  refine g_put fd_RX7_208 C hX hI hP hS 0 (by decide) (shM_0 G ad _) rfl rfl (Nat.le_of_ble_eq_true rfl) (upd ((mset (mset τ2 0 7 (jhi (((jl (τ2 0 7) (τ2 0 8)) * 27) + (((m_letter (m_byteAt τ2 (nN (τ2 0 3))))).toInt64)))) 0 8 (jlo (((jl (τ2 0 7) (τ2 0 8)) * 27) + (((m_letter (m_byteAt τ2 (nN (τ2 0 3))))).toInt64)))) 0) 3 ((τ2 0 3) + 1)) rfl dX7_next_167 (fun H locs hP hS => ?_)
                  have hP : gP G.1 11 ad (gE (shM G ad) (mset (mset (mset τ2 0 7 (jhi (((jl (τ2 0 7) (τ2 0 8)) * 27) + (((m_letter (m_byteAt τ2 (nN (τ2 0 3))))).toInt64)))) 0 8 (jlo (((jl (τ2 0 7) (τ2 0 8)) * 27) + (((m_letter (m_byteAt τ2 (nN (τ2 0 3))))).toInt64)))) 0 3 ((τ2 0 3) + 1))) H := hP
                  refine lv_goto (tgt := 103) hx hb dX7_next_170 (by decide) ?_
                  exact ih103 ((mset (mset (mset τ2 0 7 (jhi (((jl (τ2 0 7) (τ2 0 8)) * 27) + (((m_letter (m_byteAt τ2 (nN (τ2 0 3))))).toInt64)))) 0 8 (jlo (((jl (τ2 0 7) (τ2 0 8)) * 27) + (((m_letter (m_byteAt τ2 (nN (τ2 0 3))))).toInt64)))) 0 3 ((τ2 0 3) + 1))) _ _ _ ⟨a103 + 1, by show τ2 0 3 + 1 = _; rw [hb103]; exact nI_1 _, by omega, by omega⟩ (by exact ht103) (by rw [hres103, m_next_L103, if_neg c8, if_pos c9]) hP hS (lv_sub hl [0, 1] rfl)
                · refine lv_aload_n hx hb dX7_next_129 rfl (lv_at hl 1 rfl) ?_
                  refine g_get fd_RX7_217 C hX hP 0 (by decide) (shM_0 G ad _) (v := .long (jl (τ2 0 7) (τ2 0 8))) rfl dX7_next_130 ?_
                  refine lv_goto (tgt := 157) hx hb dX7_next_133 (by decide) ?_
                  refine g_put fd_RX7_217 C hX hI hP hS 0 (by decide) (shM_0 G ad _) rfl rfl (Nat.le_of_ble_eq_true rfl) (upd (upd (τ2 0) 7 (jhi (jl (τ2 0 7) (τ2 0 8)))) 8 (jlo (jl (τ2 0 7) (τ2 0 8)))) (shM_val G ad _ _) dX7_next_157 (fun H locs hP hS => ?_)
                  rw [mset_two] at hP
                  have hP : gP G.1 11 ad (gE (shM G ad) (mset (mset τ2 0 7 (jhi (jl (τ2 0 7) (τ2 0 8)))) 0 8 (jlo (jl (τ2 0 7) (τ2 0 8))))) H := hP
                  refine lv_aload_n hx hb dX7_next_160 rfl (lv_at hl 1 rfl) ?_
                  refine lv_dup hx hb dX7_next_161 rfl ?_
                  refine g_get fd_RX7_208 C hX hP 0 (by decide) (shM_0 G ad _) (v := .int (τ2 0 3)) rfl dX7_next_162 ?_
                  refine lv_iconst (v := 1) hx hb dX7_next_165 (by decide) ?_
                  refine lv_iadd hx hb dX7_next_166 ?_
                  refine g_put fd_RX7_208 C hX hI hP hS 0 (by decide) (shM_0 G ad _) rfl rfl (Nat.le_of_ble_eq_true rfl) (upd ((mset (mset τ2 0 7 (jhi (jl (τ2 0 7) (τ2 0 8)))) 0 8 (jlo (jl (τ2 0 7) (τ2 0 8)))) 0) 3 ((τ2 0 3) + 1)) rfl dX7_next_167 (fun H locs hP hS => ?_)
                  have hP : gP G.1 11 ad (gE (shM G ad) (mset (mset (mset τ2 0 7 (jhi (jl (τ2 0 7) (τ2 0 8)))) 0 8 (jlo (jl (τ2 0 7) (τ2 0 8)))) 0 3 ((τ2 0 3) + 1))) H := hP
                  refine lv_goto (tgt := 103) hx hb dX7_next_170 (by decide) ?_
                  exact ih103 ((mset (mset (mset τ2 0 7 (jhi (jl (τ2 0 7) (τ2 0 8)))) 0 8 (jlo (jl (τ2 0 7) (τ2 0 8)))) 0 3 ((τ2 0 3) + 1))) _ _ _ ⟨a103 + 1, by show τ2 0 3 + 1 = _; rw [hb103]; exact nI_1 _, by omega, by omega⟩ (by exact ht103) (by rw [hres103, m_next_L103, if_neg c8, if_neg c9]) hP hS (lv_sub hl [0, 1] rfl)
        · refine lv_aload_n hx hb dX7_next_73 rfl (lv_at hl 1 rfl) ?_
          refine lv_iconst (v := 3) hx hb dX7_next_74 (by decide) ?_
          refine g_put fd_RX7_221 C hX hI hP hS 0 (by decide) (shM_0 G ad _) rfl rfl (Nat.le_of_ble_eq_true rfl) (upd ((mset (mset (mset τ 0 5 (τ 0 3)) 0 7 (jhi 0)) 0 8 (jlo 0)) 0) 4 3) rfl dX7_next_75 (fun H locs hP hS => ?_)
          have hP : gP G.1 11 ad (gE (shM G ad) (mset (mset (mset (mset τ 0 5 (τ 0 3)) 0 7 (jhi 0)) 0 8 (jlo 0)) 0 4 3)) H := hP
          refine lv_aload_n hx hb dX7_next_78 rfl (lv_at hl 1 rfl) ?_
          refine lv_dup hx hb dX7_next_79 rfl ?_
          refine g_get fd_RX7_208 C hX hP 0 (by decide) (shM_0 G ad _) (v := .int (τ 0 3)) rfl dX7_next_80 ?_
          refine lv_iconst (v := 1) hx hb dX7_next_83 (by decide) ?_
          refine lv_iadd hx hb dX7_next_84 ?_
          refine g_put fd_RX7_208 C hX hI hP hS 0 (by decide) (shM_0 G ad _) rfl rfl (Nat.le_of_ble_eq_true rfl) (upd ((mset (mset (mset (mset τ 0 5 (τ 0 3)) 0 7 (jhi 0)) 0 8 (jlo 0)) 0 4 3) 0) 3 ((τ 0 3) + 1)) rfl dX7_next_85 (fun H locs hP hS => ?_)
          have hP : gP G.1 11 ad (gE (shM G ad) (mset (mset (mset (mset (mset τ 0 5 (τ 0 3)) 0 7 (jhi 0)) 0 8 (jlo 0)) 0 4 3) 0 3 ((τ 0 3) + 1))) H := hP
          refine lv_goto (tgt := 261) hx hb dX7_next_88 (by decide) ?_
          exact g_vretM C hr hlk (by rw [hres0, m_next_L0, if_neg c1, if_neg c2, if_pos c3]) hP hS dX7_next_261
      · refine lv_aload_n hx hb dX7_next_59 rfl (lv_at hl 1 rfl) ?_
        refine lv_iconst (v := 0) hx hb dX7_next_60 (by decide) ?_
        refine g_put fd_RX7_221 C hX hI hP hS 0 (by decide) (shM_0 G ad _) rfl rfl (Nat.le_of_ble_eq_true rfl) (upd ((mset (mset (mset τ 0 5 (τ 0 3)) 0 7 (jhi 0)) 0 8 (jlo 0)) 0) 4 0) rfl dX7_next_61 (fun H locs hP hS => ?_)
        have hP : gP G.1 11 ad (gE (shM G ad) (mset (mset (mset (mset τ 0 5 (τ 0 3)) 0 7 (jhi 0)) 0 8 (jlo 0)) 0 4 0)) H := hP
        refine lv_goto (tgt := 261) hx hb dX7_next_64 (by decide) ?_
        exact g_vretM C hr hlk (by rw [hres0, m_next_L0, if_neg c1, if_pos c2]) hP hS dX7_next_261
    · have hlt := mb_32 hT ht0 (by omega) c1
      refine lv_aload_n hx hb dX7_next_13 rfl (lv_at hl 0 rfl) ?_
      refine lv_dup hx hb dX7_next_14 rfl ?_
      refine g_get fd_RX7_208 C hX hP 0 (by decide) (shM_0 G ad _) (v := .int (τ 0 3)) rfl dX7_next_15 ?_
      refine lv_iconst (v := 1) hx hb dX7_next_18 (by decide) ?_
      refine lv_iadd hx hb dX7_next_19 ?_
      refine g_put fd_RX7_208 C hX hI hP hS 0 (by decide) (shM_0 G ad _) rfl rfl (Nat.le_of_ble_eq_true rfl) (upd (τ 0) 3 ((τ 0 3) + 1)) rfl dX7_next_20 (fun H locs hP hS => ?_)
      have hP : gP G.1 11 ad (gE (shM G ad) (mset τ 0 3 ((τ 0 3) + 1))) H := hP
      refine lv_goto (tgt := 0) hx hb dX7_next_23 (by decide) ?_
      exact ih0 (mset τ 0 3 ((τ 0 3) + 1)) _ _ _ ⟨a0_ + 1, by show τ 0 3 + 1 = _; rw [hb0]; exact nI_1 _, by omega, by omega⟩ (by exact ht0) (by rw [hres0, m_next_L0, if_pos c1]) hP hS (lv_sub hl [0] rfl)

def m_wrongHere (σ : gM) : gM := if 0 ≤ (σ 0 6) then (mset σ 0 6 (σ 0 6)) else (mset σ 0 6 (σ 0 5))
def rm_yX7_wrongHere : Room := { frames := 0, cells := 0, slots := 0, locals := 0 }
set_option maxHeartbeats 4000000 in
set_option maxRecDepth 100000 in
theorem c_yX7_wrongHere (l : Launch) (G : gG) (ad : Nat → Nat) (hI : gI G.2.2.1 11 ad) (σ : gM) : gMutV l yX7_wrongHere cX7_wrongHere 1 none rm_yX7_wrongHere G [.ref (ad 0)] 11 ad (shM G ad) σ (m_wrongHere σ) := by
  refine g_start [.ref (ad 0)] (by decide +kernel) (Nat.le_of_ble_eq_true rfl) ?_
  intro p e s m below meth c ls B Z hl
  obtain ⟨C, hr, hlk⟩ := B
  have hx := C.1
  have hb := C.2.1
  obtain ⟨hX, hP⟩ := Z
  have hS : va_S (gA 11 ad) s.heap s.heap [] := va_S.rf
  revert hP hS
  intro hP hS
  have hl : lv_has ls 1 [(0, .ref (ad 0))] := hl
  refine lv_aload_n hx hb dX7_wrongHere_0 rfl (lv_at hl 0 rfl) ?_
  refine lv_aload_n hx hb dX7_wrongHere_1 rfl (lv_at hl 0 rfl) ?_
  refine g_get fd_RX7_238 C hX hP 0 (by decide) (shM_0 G ad _) (v := .int (σ 0 6)) rfl dX7_wrongHere_2 ?_
  refine lv_if_ge (tgt := 15) hx hb dX7_wrongHere_5 (by decide) (fun c1 => ?_) (fun c1 => ?_)
  · refine lv_aload_n hx hb dX7_wrongHere_15 rfl (lv_at hl 0 rfl) ?_
    refine g_get fd_RX7_238 C hX hP 0 (by decide) (shM_0 G ad _) (v := .int (σ 0 6)) rfl dX7_wrongHere_16 ?_
    refine g_put fd_RX7_238 C hX hI hP hS 0 (by decide) (shM_0 G ad _) rfl rfl (Nat.le_of_ble_eq_true rfl) (upd (σ 0) 6 (σ 0 6)) rfl dX7_wrongHere_19 (fun H locs hP hS => ?_)
    have hP : gP G.1 11 ad (gE (shM G ad) (mset σ 0 6 (σ 0 6))) H := hP
    exact g_vretM C hr hlk (by rw [m_wrongHere, if_pos c1]) hP hS dX7_wrongHere_22
  · refine lv_aload_n hx hb dX7_wrongHere_8 rfl (lv_at hl 0 rfl) ?_
    refine g_get fd_RX7_214 C hX hP 0 (by decide) (shM_0 G ad _) (v := .int (σ 0 5)) rfl dX7_wrongHere_9 ?_
    refine lv_goto (tgt := 19) hx hb dX7_wrongHere_12 (by decide) ?_
    refine g_put fd_RX7_238 C hX hI hP hS 0 (by decide) (shM_0 G ad _) rfl rfl (Nat.le_of_ble_eq_true rfl) (upd (σ 0) 6 (σ 0 5)) rfl dX7_wrongHere_19 (fun H locs hP hS => ?_)
    have hP : gP G.1 11 ad (gE (shM G ad) (mset σ 0 6 (σ 0 5))) H := hP
    exact g_vretM C hr hlk (by rw [m_wrongHere, if_neg c1]) hP hS dX7_wrongHere_22

def m_isWord (σ : gM) (w : Int64) : Int32 := if (σ 0 4) = 1 then (if (lg_cmp (jl (σ 0 7) (σ 0 8)) w) = 0 then 1 else 0) else 0
def rm_yX7_isWord : Room := { frames := 0, cells := 0, slots := 0, locals := 0 }
set_option maxHeartbeats 4000000 in
set_option maxRecDepth 100000 in
theorem c_yX7_isWord (l : Launch) (G : gG) (ad : Nat → Nat) (hI : gI G.2.2.1 11 ad) (σ : gM) (w : Int64) : gRead l yX7_isWord cX7_isWord 3 (some .boolean) rm_yX7_isWord G [.ref (ad 0), .long w] 11 ad (gE (shM G ad) σ) (m_isWord σ w) := by
  refine g_start [.ref (ad 0), .long w] (by decide +kernel) (Nat.le_of_ble_eq_true rfl) ?_
  intro p e s m below meth c ls B Z hl
  obtain ⟨C, hr, hlk⟩ := B
  have hx := C.1
  have hb := C.2.1
  obtain ⟨hX, hP⟩ := Z
  have hS : va_S (gA 11 ad) s.heap s.heap [] := va_S.rf
  have hl : lv_has ls 3 [(0, .ref (ad 0)), (1, .long w)] := hl
  refine lv_aload_n hx hb dX7_isWord_0 rfl (lv_at hl 0 rfl) ?_
  refine g_get fd_RX7_221 C hX hP 0 (by decide) (shM_0 G ad _) (v := .int (σ 0 4)) rfl dX7_isWord_1 ?_
  refine lv_iconst (v := 1) hx hb dX7_isWord_4 (by decide) ?_
  refine lv_icmp_ne (tgt := 21) hx hb dX7_isWord_5 (by decide) (fun c1 => ?_) (fun c1 => ?_)
  · refine lv_iconst (v := 0) hx hb dX7_isWord_21 (by decide) ?_
    exact g_iret C hr hlk rfl (by rw [m_isWord, if_neg c1]) rfl rfl dX7_isWord_22
  · refine lv_aload_n hx hb dX7_isWord_8 rfl (lv_at hl 0 rfl) ?_
    refine g_get fd_RX7_217 C hX hP 0 (by decide) (shM_0 G ad _) (v := .long (jl (σ 0 7) (σ 0 8))) rfl dX7_isWord_9 ?_
    refine lv_lload_n hx hb dX7_isWord_12 rfl (lv_at hl 1 rfl) ?_
    refine W.lcmp hx hb dX7_isWord_13 ?_
    refine lv_if_ne (tgt := 21) hx hb dX7_isWord_14 (by decide) (fun c2 => ?_) (fun c2 => ?_)
    · refine lv_iconst (v := 0) hx hb dX7_isWord_21 (by decide) ?_
      exact g_iret C hr hlk rfl (by rw [m_isWord, if_pos c1, if_neg c2]) rfl rfl dX7_isWord_22
    · refine lv_iconst (v := 1) hx hb dX7_isWord_17 (by decide) ?_
      refine lv_goto (tgt := 22) hx hb dX7_isWord_18 (by decide) ?_
      exact g_iret C hr hlk rfl (by rw [m_isWord, if_pos c1, if_pos c2]) rfl rfl dX7_isWord_22

def m_kindHere (σ : gM) : Int32 := if (m_isWord σ 3967817) = 0 then (if (m_isWord σ 4393273559) = 0 then (if (m_isWord σ 191727149) = 0 then (if (m_isWord σ 237058) = 0 then (if (m_isWord σ 1489745) = 0 then (if (m_isWord σ 10497768) = 0 then (if (m_isWord σ 65782373) = 0 then (-1) else 6) else 5) else 4) else 3) else 2) else 1) else 0
def rm_yX7_kindHere : Room := { frames := 1, cells := 0, slots := 0, locals := 22 }
set_option maxHeartbeats 4000000 in
set_option maxRecDepth 100000 in
theorem c_yX7_kindHere (l : Launch) (G : gG) (ad : Nat → Nat) (hI : gI G.2.2.1 11 ad) (σ : gM) : gRead l yX7_kindHere cX7_kindHere 1 (some .int) rm_yX7_kindHere G [.ref (ad 0)] 11 ad (gE (shM G ad) σ) (m_kindHere σ) := by
  refine g_start [.ref (ad 0)] (by decide +kernel) (Nat.le_of_ble_eq_true rfl) ?_
  intro p e s m below meth c ls B Z hl
  obtain ⟨C, hr, hlk⟩ := B
  have hx := C.1
  have hb := C.2.1
  obtain ⟨hX, hP⟩ := Z
  have hS : va_S (gA 11 ad) s.heap s.heap [] := va_S.rf
  have hl : lv_has ls 1 [(0, .ref (ad 0))] := hl
  refine lv_aload_n hx hb dX7_kindHere_0 rfl (lv_at hl 0 rfl) ?_
  refine lv_ldc2 hx hb C.2.2.2.1 (C.2.2.2.2 _ kc_RX7_241) dX7_kindHere_1 ?_
  refine g_rd (g_runV (As := [.long 3967817]) (rest := []) ky_yX7_isWord lk_RX7_243 C hX (gS_b0 hI hS) hP 0 (c_yX7_isWord l G ad hI σ 3967817) (by decide) (shM_0 G ad _) ⟨rfl, rfl, by decide, by decide⟩ rfl hl.1 rfl (Nat.le_of_ble_eq_true rfl) ⟨Nat.zero_le _, Nat.zero_le _⟩ dX7_kindHere_4) ?_
  refine lv_if_eq (tgt := 14) hx hb dX7_kindHere_7 (by decide) (fun c1 => ?_) (fun c1 => ?_)
  · refine lv_aload_n hx hb dX7_kindHere_14 rfl (lv_at hl 0 rfl) ?_
    refine lv_ldc2 hx hb C.2.2.2.1 (C.2.2.2.2 _ kc_RX7_247) dX7_kindHere_15 ?_
    refine g_rd (g_runV (As := [.long 4393273559]) (rest := []) ky_yX7_isWord lk_RX7_243 C hX (gS_b0 hI hS) hP 0 (c_yX7_isWord l G ad hI σ 4393273559) (by decide) (shM_0 G ad _) ⟨rfl, rfl, by decide, by decide⟩ rfl hl.1 rfl (Nat.le_of_ble_eq_true rfl) ⟨Nat.zero_le _, Nat.zero_le _⟩ dX7_kindHere_18) ?_
    refine lv_if_eq (tgt := 28) hx hb dX7_kindHere_21 (by decide) (fun c2 => ?_) (fun c2 => ?_)
    · refine lv_aload_n hx hb dX7_kindHere_28 rfl (lv_at hl 0 rfl) ?_
      refine lv_ldc2 hx hb C.2.2.2.1 (C.2.2.2.2 _ kc_RX7_249) dX7_kindHere_29 ?_
      refine g_rd (g_runV (As := [.long 191727149]) (rest := []) ky_yX7_isWord lk_RX7_243 C hX (gS_b0 hI hS) hP 0 (c_yX7_isWord l G ad hI σ 191727149) (by decide) (shM_0 G ad _) ⟨rfl, rfl, by decide, by decide⟩ rfl hl.1 rfl (Nat.le_of_ble_eq_true rfl) ⟨Nat.zero_le _, Nat.zero_le _⟩ dX7_kindHere_32) ?_
      refine lv_if_eq (tgt := 42) hx hb dX7_kindHere_35 (by decide) (fun c3 => ?_) (fun c3 => ?_)
      · refine lv_aload_n hx hb dX7_kindHere_42 rfl (lv_at hl 0 rfl) ?_
        refine lv_ldc2 hx hb C.2.2.2.1 (C.2.2.2.2 _ kc_RX7_251) dX7_kindHere_43 ?_
        refine g_rd (g_runV (As := [.long 237058]) (rest := []) ky_yX7_isWord lk_RX7_243 C hX (gS_b0 hI hS) hP 0 (c_yX7_isWord l G ad hI σ 237058) (by decide) (shM_0 G ad _) ⟨rfl, rfl, by decide, by decide⟩ rfl hl.1 rfl (Nat.le_of_ble_eq_true rfl) ⟨Nat.zero_le _, Nat.zero_le _⟩ dX7_kindHere_46) ?_
        refine lv_if_eq (tgt := 56) hx hb dX7_kindHere_49 (by decide) (fun c4 => ?_) (fun c4 => ?_)
        · refine lv_aload_n hx hb dX7_kindHere_56 rfl (lv_at hl 0 rfl) ?_
          refine lv_ldc2 hx hb C.2.2.2.1 (C.2.2.2.2 _ kc_RX7_253) dX7_kindHere_57 ?_
          refine g_rd (g_runV (As := [.long 1489745]) (rest := []) ky_yX7_isWord lk_RX7_243 C hX (gS_b0 hI hS) hP 0 (c_yX7_isWord l G ad hI σ 1489745) (by decide) (shM_0 G ad _) ⟨rfl, rfl, by decide, by decide⟩ rfl hl.1 rfl (Nat.le_of_ble_eq_true rfl) ⟨Nat.zero_le _, Nat.zero_le _⟩ dX7_kindHere_60) ?_
          refine lv_if_eq (tgt := 70) hx hb dX7_kindHere_63 (by decide) (fun c5 => ?_) (fun c5 => ?_)
          · refine lv_aload_n hx hb dX7_kindHere_70 rfl (lv_at hl 0 rfl) ?_
            refine lv_ldc2 hx hb C.2.2.2.1 (C.2.2.2.2 _ kc_RX7_255) dX7_kindHere_71 ?_
            refine g_rd (g_runV (As := [.long 10497768]) (rest := []) ky_yX7_isWord lk_RX7_243 C hX (gS_b0 hI hS) hP 0 (c_yX7_isWord l G ad hI σ 10497768) (by decide) (shM_0 G ad _) ⟨rfl, rfl, by decide, by decide⟩ rfl hl.1 rfl (Nat.le_of_ble_eq_true rfl) ⟨Nat.zero_le _, Nat.zero_le _⟩ dX7_kindHere_74) ?_
            refine lv_if_eq (tgt := 84) hx hb dX7_kindHere_77 (by decide) (fun c6 => ?_) (fun c6 => ?_)
            · refine lv_aload_n hx hb dX7_kindHere_84 rfl (lv_at hl 0 rfl) ?_
              refine lv_ldc2 hx hb C.2.2.2.1 (C.2.2.2.2 _ kc_RX7_257) dX7_kindHere_85 ?_
              refine g_rd (g_runV (As := [.long 65782373]) (rest := []) ky_yX7_isWord lk_RX7_243 C hX (gS_b0 hI hS) hP 0 (c_yX7_isWord l G ad hI σ 65782373) (by decide) (shM_0 G ad _) ⟨rfl, rfl, by decide, by decide⟩ rfl hl.1 rfl (Nat.le_of_ble_eq_true rfl) ⟨Nat.zero_le _, Nat.zero_le _⟩ dX7_kindHere_88) ?_
              refine lv_if_eq (tgt := 99) hx hb dX7_kindHere_91 (by decide) (fun c7 => ?_) (fun c7 => ?_)
              · refine lv_iconst (v := (-1)) hx hb dX7_kindHere_99 (by decide) ?_
                exact g_iret C hr hlk rfl (by rw [m_kindHere, if_pos c1, if_pos c2, if_pos c3, if_pos c4, if_pos c5, if_pos c6, if_pos c7]) rfl rfl dX7_kindHere_100
              · refine lv_bipush (v := 6) hx hb dX7_kindHere_94 (by decide) ?_
                refine lv_goto (tgt := 100) hx hb dX7_kindHere_96 (by decide) ?_
                exact g_iret C hr hlk rfl (by rw [m_kindHere, if_pos c1, if_pos c2, if_pos c3, if_pos c4, if_pos c5, if_pos c6, if_neg c7]) rfl rfl dX7_kindHere_100
            · refine lv_iconst (v := 5) hx hb dX7_kindHere_80 (by decide) ?_
              refine lv_goto (tgt := 100) hx hb dX7_kindHere_81 (by decide) ?_
              exact g_iret C hr hlk rfl (by rw [m_kindHere, if_pos c1, if_pos c2, if_pos c3, if_pos c4, if_pos c5, if_neg c6]) rfl rfl dX7_kindHere_100
          · refine lv_iconst (v := 4) hx hb dX7_kindHere_66 (by decide) ?_
            refine lv_goto (tgt := 100) hx hb dX7_kindHere_67 (by decide) ?_
            exact g_iret C hr hlk rfl (by rw [m_kindHere, if_pos c1, if_pos c2, if_pos c3, if_pos c4, if_neg c5]) rfl rfl dX7_kindHere_100
        · refine lv_iconst (v := 3) hx hb dX7_kindHere_52 (by decide) ?_
          refine lv_goto (tgt := 100) hx hb dX7_kindHere_53 (by decide) ?_
          exact g_iret C hr hlk rfl (by rw [m_kindHere, if_pos c1, if_pos c2, if_pos c3, if_neg c4]) rfl rfl dX7_kindHere_100
      · refine lv_iconst (v := 2) hx hb dX7_kindHere_38 (by decide) ?_
        refine lv_goto (tgt := 100) hx hb dX7_kindHere_39 (by decide) ?_
        exact g_iret C hr hlk rfl (by rw [m_kindHere, if_pos c1, if_pos c2, if_neg c3]) rfl rfl dX7_kindHere_100
    · refine lv_iconst (v := 1) hx hb dX7_kindHere_24 (by decide) ?_
      refine lv_goto (tgt := 100) hx hb dX7_kindHere_25 (by decide) ?_
      exact g_iret C hr hlk rfl (by rw [m_kindHere, if_pos c1, if_neg c2]) rfl rfl dX7_kindHere_100
  · refine lv_iconst (v := 0) hx hb dX7_kindHere_10 (by decide) ?_
    refine lv_goto (tgt := 100) hx hb dX7_kindHere_11 (by decide) ?_
    exact g_iret C hr hlk rfl (by rw [m_kindHere, if_neg c1]) rfl rfl dX7_kindHere_100
