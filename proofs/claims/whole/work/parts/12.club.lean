def x_has0 (σ : gM) (g : Int32) : Int32 := (x_isWithin g ((σ 8 0) - 1))
def rm_yX0_has : Room := { frames := 1, cells := 0, slots := 0, locals := 21 }
set_option maxHeartbeats 4000000 in
set_option maxRecDepth 100000 in
theorem c_yX0_has (l : Launch) (G : gG) (ad : Nat → Nat) (hI : gI G.2.2.1 12 ad) (σ : gM) (g : Int32) : gRead l yX0_has cX0_has 2 (some .boolean) rm_yX0_has G [.ref (ad 8), .int g] 12 ad (gE (shC G ad) σ) (x_has0 σ g) := by
  refine g_start [.ref (ad 8), .int g] (by decide +kernel) (Nat.le_of_ble_eq_true rfl) ?_
  intro p e s m below meth c ls B Z hl
  obtain ⟨C, hr, hlk⟩ := B
  have hx := C.1
  have hb := C.2.1
  obtain ⟨hX, hP⟩ := Z
  have hS : va_S (gA 12 ad) s.heap s.heap [] := va_S.rf
  have hl : lv_has ls 2 [(0, .ref (ad 8)), (1, .int g)] := hl
  refine lv_iload_n hx hb dX0_has_0 rfl (lv_at hl 1 rfl) ?_
  refine lv_aload_n hx hb dX0_has_1 rfl (lv_at hl 0 rfl) ?_
  refine g_get fd_RX0_29 C hX hP 8 (by decide) (shC_8 G ad _) (v := .int (σ 8 0)) rfl dX0_has_2 ?_
  refine lv_iconst (v := 1) hx hb dX0_has_5 (by decide) ?_
  refine lv_isub hx hb dX0_has_6 ?_
  refine g_rd (g_runSN (As := [.int g, .int ((σ 8 0) - 1)]) (rest := []) ky_yX6_isWithin ln_RX0_49 hX C (c_yX6_isWithin l g ((σ 8 0) - 1)) ⟨rfl, rfl, by decide, by decide⟩ rfl hl.1 rfl (Nat.le_of_ble_eq_true rfl) ⟨Nat.zero_le _, Nat.zero_le _⟩ dX0_has_7) ?_
  exact g_iret C hr hlk (nb_of (xb_isWithin _ _)) (by rw [x_has0]) rfl rfl dX0_has_10

def x_everyone0 (σ : gM) : Int32 := ((jshl 1 (σ 8 0)) - 1)
def rm_yX0_everyone : Room := { frames := 0, cells := 0, slots := 0, locals := 0 }
set_option maxHeartbeats 4000000 in
set_option maxRecDepth 100000 in
theorem c_yX0_everyone (l : Launch) (G : gG) (ad : Nat → Nat) (hI : gI G.2.2.1 12 ad) (σ : gM) : gRead l yX0_everyone cX0_everyone 1 (some .int) rm_yX0_everyone G [.ref (ad 8)] 12 ad (gE (shC G ad) σ) (x_everyone0 σ) := by
  refine g_start [.ref (ad 8)] (by decide +kernel) (Nat.le_of_ble_eq_true rfl) ?_
  intro p e s m below meth c ls B Z hl
  obtain ⟨C, hr, hlk⟩ := B
  have hx := C.1
  have hb := C.2.1
  obtain ⟨hX, hP⟩ := Z
  have hS : va_S (gA 12 ad) s.heap s.heap [] := va_S.rf
  have hl : lv_has ls 1 [(0, .ref (ad 8))] := hl
  refine lv_iconst (v := 1) hx hb dX0_everyone_0 (by decide) ?_
  refine lv_aload_n hx hb dX0_everyone_1 rfl (lv_at hl 0 rfl) ?_
  refine g_get fd_RX0_29 C hX hP 8 (by decide) (shC_8 G ad _) (v := .int (σ 8 0)) rfl dX0_everyone_2 ?_
  refine g_ishl hx hb dX0_everyone_5 ?_
  refine lv_iconst (v := 1) hx hb dX0_everyone_6 (by decide) ?_
  refine lv_isub hx hb dX0_everyone_7 ?_
  exact g_iret C hr hlk rfl (by rw [x_everyone0]) rfl rfl dX0_everyone_8

def x_placeOfToday0 (σ : gM) : Int32 := (j_floorMod (σ 8 1) 6)
def rm_yX0_placeOfToday : Room := { frames := 1, cells := 0, slots := 0, locals := 22 }
set_option maxHeartbeats 4000000 in
set_option maxRecDepth 100000 in
theorem c_yX0_placeOfToday (l : Launch) (G : gG) (ad : Nat → Nat) (hI : gI G.2.2.1 12 ad) (σ : gM) : gRead l yX0_placeOfToday cX0_placeOfToday 1 (some .int) rm_yX0_placeOfToday G [.ref (ad 8)] 12 ad (gE (shC G ad) σ) (x_placeOfToday0 σ) := by
  refine g_start [.ref (ad 8)] (by decide +kernel) (Nat.le_of_ble_eq_true rfl) ?_
  intro p e s m below meth c ls B Z hl
  obtain ⟨C, hr, hlk⟩ := B
  have hx := C.1
  have hb := C.2.1
  obtain ⟨hX, hP⟩ := Z
  have hS : va_S (gA 12 ad) s.heap s.heap [] := va_S.rf
  have hl : lv_has ls 1 [(0, .ref (ad 8))] := hl
  refine lv_aload_n hx hb dX0_placeOfToday_0 rfl (lv_at hl 0 rfl) ?_
  refine g_get fd_RX0_33 C hX hP 8 (by decide) (shC_8 G ad _) (v := .int (σ 8 1)) rfl dX0_placeOfToday_1 ?_
  refine lv_bipush (v := 6) hx hb dX0_placeOfToday_4 (by decide) ?_
  refine g_rd (g_runS (As := [.int (σ 8 1), .int 6]) (rest := []) ky_yJ9_floorMod_7cf53 lk_RX0_125 C (c_yJ9_floorMod_7cf53 l (σ 8 1) 6 (by decide)) ⟨rfl, rfl, by decide, by decide⟩ rfl hl.1 rfl (Nat.le_of_ble_eq_true rfl) ⟨Nat.zero_le _, Nat.zero_le _⟩ dX0_placeOfToday_6) ?_
  exact g_iret C hr hlk rfl (by rw [x_placeOfToday0]) rfl rfl dX0_placeOfToday_9

theorem xs6 (a : Int32) : (a ^^^ 6).toInt < 0 ↔ a.toInt < 0 := by
  have h1 : (a ^^^ 6).toBitVec.msb = decide ((a ^^^ 6).toInt < 0) := BitVec.msb_eq_toInt
  have h2 : a.toBitVec.msb = decide (a.toInt < 0) := BitVec.msb_eq_toInt
  rw [Int32.toBitVec_xor, BitVec.msb_xor, show (6 : Int32).toBitVec.msb = false from by decide, Bool.xor_false, h2] at h1
  exact (decide_eq_decide.mp h1).symm
theorem fm6 (a : Int32) : j_floorMod a 6 = nI (nN (j_floorMod a 6)) ∧ nN (j_floorMod a 6) < 6 := by
  have hz : (jrem a 6).toInt = a.toInt.tmod 6 := rem_toInt a 6
  have hb := tmod_bounds (a := a.toInt) (M := 6) (by decide)
  have h0 : (0 : Int32).toInt = 0 := rfl
  have hx := xs6 a
  have key : 0 ≤ (j_floorMod a 6).toInt ∧ (j_floorMod a 6).toInt < 6 := by
    unfold j_floorMod
    by_cases h1 : 0 ≤ (a ^^^ 6)
    · rw [if_pos h1, hz]
      have h2 := Int32.le_iff_toInt_le.mp h1
      have := Int.tmod_nonneg 6 (show (0 : Int) ≤ a.toInt by omega)
      omega
    · rw [if_neg h1]
      by_cases h2 : jrem a 6 = 0
      · rw [if_pos h2, h2]
        decide
      · rw [if_neg h2]
        have h3 := Int32.lt_iff_toInt_lt.mp (Int32.not_le.mp h1)
        have h6 : (jrem a 6).toInt ≠ 0 := fun q => h2 (Int32.toInt_inj.mp (by rw [q]; rfl))
        have h7 : (jrem a 6).toInt ≤ 0 := by
          rw [hz]
          have := Int.tmod_nonneg 6 (show (0 : Int) ≤ - a.toInt by omega)
          rw [Int.neg_tmod] at this
          omega
        have h8 : (jrem a 6 + 6).toInt = (jrem a 6).toInt + 6 := by
          rw [Int32.toInt_add, show (6 : Int32).toInt = 6 from rfl]
          apply Int.bmod_eq_of_le <;> omega
        rw [h8]
        omega
  have hnn : ¬ j_floorMod a 6 < 0 := by
    intro q
    have := Int32.lt_iff_toInt_lt.mp q
    omega
  obtain ⟨j, hj, e⟩ := nI_of hnn
  rw [e, nN_nI hj]
  rw [e, nI_toInt hj] at key
  exact ⟨rfl, by omega⟩
theorem pot (σ : gM) : x_placeOfToday0 σ = nI (nN (x_placeOfToday0 σ)) ∧ nN (x_placeOfToday0 σ) < 6 := fm6 (σ 8 1)
theorem mput_g {σ τ : gM} {i : Nat} (h : i < 8) : mput σ i 1 τ 8 = σ 8 := mput_out _ _ (by omega)
theorem sz_of {σ : gM} {N : Nat} (hN : N ≤ 8) (hs : σ 8 0 = nI N) : σ 8 0 = nI (nN (σ 8 0)) ∧ nN (σ 8 0) = N := by
  rw [hs, nN_nI (by omega)]
  exact ⟨rfl, rfl⟩

def x_lyingIn0_L5 (σ : gM) (room : Int32) (away : Int32) : Nat → Nat → Int32 → Int32
  | 0, i, acc => (acc &&& (away ^^^ (-1)))
  | n5 + 1, i, acc => if (σ i 1) = room then (x_lyingIn0_L5 σ room away n5 (i + 1) (acc ||| (jshl 1 (nI i)))) else (x_lyingIn0_L5 σ room away n5 (i + 1) acc)
def x_lyingIn0 (σ : gM) (room : Int32) (away : Int32) : Int32 := (x_lyingIn0_L5 σ room away (nN (σ 8 0)) 0 0)
def rm_yX0_lyingIn : Room := { frames := 0, cells := 0, slots := 0, locals := 0 }
set_option maxHeartbeats 4000000 in
set_option maxRecDepth 100000 in
theorem c_yX0_lyingIn (l : Launch) (G : gG) (ad : Nat → Nat) (hI : gI G.2.2.1 12 ad) (σ : gM) (room : Int32) (away : Int32) (N : Nat) (hN : N ≤ 8) (hs : σ 8 0 = nI N) : gRead l yX0_lyingIn cX0_lyingIn 5 (some .int) rm_yX0_lyingIn G [.ref (ad 8), .int room, .int away] 12 ad (gE (shC G ad) σ) (x_lyingIn0 σ room away) := by
  refine g_start [.ref (ad 8), .int room, .int away] (by decide +kernel) (Nat.le_of_ble_eq_true rfl) ?_
  intro p e s m below meth c ls B Z hl
  obtain ⟨C, hr, hlk⟩ := B
  have hx := C.1
  have hb := C.2.1
  obtain ⟨hX, hP⟩ := Z
  have hS : va_S (gA 12 ad) s.heap s.heap [] := va_S.rf
  have hl : lv_has ls 5 [(0, .ref (ad 8)), (1, .int room), (2, .int away)] := hl
  refine lv_iconst (v := 0) hx hb dX0_lyingIn_0 (by decide) ?_
  refine lv_istore_n (lv' := [(3, .int 0), (0, .ref (ad 8)), (1, .int room), (2, .int away)]) hx hb dX0_lyingIn_1 rfl hl (by decide) rfl (fun ls hl => ?_)
  refine lv_iconst (v := 0) hx hb dX0_lyingIn_2 (by decide) ?_
  refine lv_istore (lv' := [(4, .int 0), (3, .int 0), (0, .ref (ad 8)), (1, .int room), (2, .int away)]) hx hb dX0_lyingIn_3 hl (by decide) rfl (fun ls hl => ?_)
  suffices loop5 : ∀ (n5 : Nat) (i : Nat) (acc : Int32) (ls : Array Slot), (i + n5 = N) → x_lyingIn0 σ room away = (x_lyingIn0_L5 σ room away n5 i acc) → lv_has ls 5 [(4, .int (nI i)), (3, .int acc), (0, .ref (ad 8)), (1, .int room), (2, .int away)] → W p l e rm_yX0_lyingIn s m ([.ref (ad 8), .int room, .int away] : List Value).toArray below meth c s.heap [] 0 0 (MQ below (vp_Si (fun x => x = x_lyingIn0 σ room away)) ([.ref (ad 8), .int room, .int away] : List Value).toArray s 0 0 (fun _ => False)) (F0 m 5 ls []) by
    exact loop5 N 0 0 _ (by omega) (by rw [x_lyingIn0, hs, nN_nI (by omega)]) (lv_sub hl [0, 1, 2, 3, 4] rfl)
  intro n5
  induction n5 with
  | zero =>
    intro i acc ls hi5 hres5 hl
    refine lv_iload hx hb dX0_lyingIn_5 (lv_at hl 0 rfl) ?_
    refine lv_aload_n hx hb dX0_lyingIn_7 rfl (lv_at hl 2 rfl) ?_
    refine g_get fd_RX0_29 C hX hP 8 (by decide) (shC_8 G ad _) (v := .int (σ 8 0)) rfl dX0_lyingIn_8 ?_
    refine lv_as (y := (nI N)) hs ?_
    refine lv_icmp_ge (tgt := 41) hx hb dX0_lyingIn_11 (by decide) (fun c1 => ?_) (fun c1 => ?_)
    · refine lv_iload_n hx hb dX0_lyingIn_41 rfl (lv_at hl 1 rfl) ?_
      refine lv_iload_n hx hb dX0_lyingIn_42 rfl (lv_at hl 4 rfl) ?_
      refine lv_iconst (v := (-1)) hx hb dX0_lyingIn_43 (by decide) ?_
      refine lv_ixor hx hb dX0_lyingIn_44 ?_
      refine lv_iand hx hb dX0_lyingIn_45 ?_
      exact g_iret C hr hlk rfl (by rw [hres5, x_lyingIn0_L5]) rfl rfl dX0_lyingIn_46
    · exact absurd (show nI (N) ≤ nI i from nI_le (by omega) (by omega)) c1
  | succ n5 ih5 =>
    intro i acc ls hi5 hres5 hl
    refine lv_iload hx hb dX0_lyingIn_5 (lv_at hl 0 rfl) ?_
    refine lv_aload_n hx hb dX0_lyingIn_7 rfl (lv_at hl 2 rfl) ?_
    refine g_get fd_RX0_29 C hX hP 8 (by decide) (shC_8 G ad _) (v := .int (σ 8 0)) rfl dX0_lyingIn_8 ?_
    refine lv_as (y := (nI N)) hs ?_
    refine lv_icmp_ge (tgt := 41) hx hb dX0_lyingIn_11 (by decide) (fun c2 => ?_) (fun c2 => ?_)
    · exact absurd (show nI (N) ≤ nI i from c2) (nI_ge (by omega) (by omega))
    · refine lv_aload_n hx hb dX0_lyingIn_14 rfl (lv_at hl 2 rfl) ?_
      refine g_get fd_RX0_11 C hX hP 8 (by decide) (shC_8 G ad _) (v := .ref (ad 11)) rfl dX0_lyingIn_15 ?_
      refine lv_iload hx hb dX0_lyingIn_18 (lv_at hl 0 rfl) ?_
      refine g_aald (t0 := 2) C hX hP 11 (by decide) (shC_11 G ad _) rfl i (by omega) (by decide) rfl dX0_lyingIn_20 ?_
      refine g_get fd_RX0_57 C hX hP i (by omega) (shC_g G ad (by omega) _) (v := .int (σ i 1)) rfl dX0_lyingIn_21 ?_
      refine lv_iload_n hx hb dX0_lyingIn_24 rfl (lv_at hl 3 rfl) ?_
      refine lv_icmp_ne (tgt := 35) hx hb dX0_lyingIn_25 (by decide) (fun c3 => ?_) (fun c3 => ?_)
      · refine lv_iinc (v := (nI (i + 1))) (lv' := [(4, .int (nI (i + 1))), (3, .int acc), (0, .ref (ad 8)), (1, .int room), (2, .int away)]) hx hb dX0_lyingIn_35 hl (k := 0) rfl (by exact nI_1 _) (by decide) rfl (fun ls hl => ?_)
        refine lv_goto (tgt := 5) hx hb dX0_lyingIn_38 (by decide) ?_
        exact ih5 (i + 1) acc _ (by omega) (by rw [hres5, x_lyingIn0_L5, if_neg c3]) (lv_sub hl [0, 1, 2, 3, 4] rfl)
      · refine lv_iload_n hx hb dX0_lyingIn_28 rfl (lv_at hl 1 rfl) ?_
        refine lv_iconst (v := 1) hx hb dX0_lyingIn_29 (by decide) ?_
        refine lv_iload hx hb dX0_lyingIn_30 (lv_at hl 0 rfl) ?_
        refine g_ishl hx hb dX0_lyingIn_32 ?_
        refine lv_ior hx hb dX0_lyingIn_33 ?_
        refine lv_istore_n (lv' := [(3, .int (acc ||| (jshl 1 (nI i)))), (4, .int (nI i)), (0, .ref (ad 8)), (1, .int room), (2, .int away)]) hx hb dX0_lyingIn_34 rfl hl (by decide) rfl (fun ls hl => ?_)
        refine lv_iinc (v := (nI (i + 1))) (lv' := [(4, .int (nI (i + 1))), (3, .int (acc ||| (jshl 1 (nI i)))), (0, .ref (ad 8)), (1, .int room), (2, .int away)]) hx hb dX0_lyingIn_35 hl (k := 1) rfl (by exact nI_1 _) (by decide) rfl (fun ls hl => ?_)
        refine lv_goto (tgt := 5) hx hb dX0_lyingIn_38 (by decide) ?_
        exact ih5 (i + 1) (acc ||| (jshl 1 (nI i))) _ (by omega) (by rw [hres5, x_lyingIn0_L5, if_pos c3]) (lv_sub hl [0, 1, 2, 3, 4] rfl)

def x_hushOf0_L4 (σ : gM) (set : Int32) : Nat → Nat → Int32 → Int32
  | 0, i, acc => acc
  | n4 + 1, i, acc => if (x_isIn (nI i) set) = 0 then (x_hushOf0_L4 σ set n4 (i + 1) acc) else (x_hushOf0_L4 σ set n4 (i + 1) (acc + (x_hushes1 (mget σ i))))
def x_hushOf0 (σ : gM) (set : Int32) : Int32 := (x_hushOf0_L4 σ set (nN (σ 8 0)) 0 0)
def rm_yX0_hushOf : Room := { frames := 1, cells := 0, slots := 0, locals := 21 }
set_option maxHeartbeats 4000000 in
set_option maxRecDepth 100000 in
theorem c_yX0_hushOf (l : Launch) (G : gG) (ad : Nat → Nat) (hI : gI G.2.2.1 12 ad) (σ : gM) (set : Int32) (N : Nat) (hN : N ≤ 8) (hs : σ 8 0 = nI N) : gRead l yX0_hushOf cX0_hushOf 4 (some .int) rm_yX0_hushOf G [.ref (ad 8), .int set] 12 ad (gE (shC G ad) σ) (x_hushOf0 σ set) := by
  refine g_start [.ref (ad 8), .int set] (by decide +kernel) (Nat.le_of_ble_eq_true rfl) ?_
  intro p e s m below meth c ls B Z hl
  obtain ⟨C, hr, hlk⟩ := B
  have hx := C.1
  have hb := C.2.1
  obtain ⟨hX, hP⟩ := Z
  have hS : va_S (gA 12 ad) s.heap s.heap [] := va_S.rf
  have hl : lv_has ls 4 [(0, .ref (ad 8)), (1, .int set)] := hl
  refine lv_iconst (v := 0) hx hb dX0_hushOf_0 (by decide) ?_
  refine lv_istore_n (lv' := [(2, .int 0), (0, .ref (ad 8)), (1, .int set)]) hx hb dX0_hushOf_1 rfl hl (by decide) rfl (fun ls hl => ?_)
  refine lv_iconst (v := 0) hx hb dX0_hushOf_2 (by decide) ?_
  refine lv_istore_n (lv' := [(3, .int 0), (2, .int 0), (0, .ref (ad 8)), (1, .int set)]) hx hb dX0_hushOf_3 rfl hl (by decide) rfl (fun ls hl => ?_)
  suffices loop4 : ∀ (n4 : Nat) (i : Nat) (acc : Int32) (ls : Array Slot), (i + n4 = N) → x_hushOf0 σ set = (x_hushOf0_L4 σ set n4 i acc) → lv_has ls 4 [(3, .int (nI i)), (2, .int acc), (0, .ref (ad 8)), (1, .int set)] → W p l e rm_yX0_hushOf s m ([.ref (ad 8), .int set] : List Value).toArray below meth c s.heap [] 0 0 (MQ below (vp_Si (fun x => x = x_hushOf0 σ set)) ([.ref (ad 8), .int set] : List Value).toArray s 0 0 (fun _ => False)) (F0 m 4 ls []) by
    exact loop4 N 0 0 _ (by omega) (by rw [x_hushOf0, hs, nN_nI (by omega)]) (lv_sub hl [0, 1, 2, 3] rfl)
  intro n4
  induction n4 with
  | zero =>
    intro i acc ls hi4 hres4 hl
    refine lv_iload_n hx hb dX0_hushOf_4 rfl (lv_at hl 0 rfl) ?_
    refine lv_aload_n hx hb dX0_hushOf_5 rfl (lv_at hl 2 rfl) ?_
    refine g_get fd_RX0_29 C hX hP 8 (by decide) (shC_8 G ad _) (v := .int (σ 8 0)) rfl dX0_hushOf_6 ?_
    refine lv_as (y := (nI N)) hs ?_
    refine lv_icmp_ge (tgt := 38) hx hb dX0_hushOf_9 (by decide) (fun c1 => ?_) (fun c1 => ?_)
    · refine lv_iload_n hx hb dX0_hushOf_38 rfl (lv_at hl 1 rfl) ?_
      exact g_iret C hr hlk rfl (by rw [hres4, x_hushOf0_L4]) rfl rfl dX0_hushOf_39
    · exact absurd (show nI (N) ≤ nI i from nI_le (by omega) (by omega)) c1
  | succ n4 ih4 =>
    intro i acc ls hi4 hres4 hl
    refine lv_iload_n hx hb dX0_hushOf_4 rfl (lv_at hl 0 rfl) ?_
    refine lv_aload_n hx hb dX0_hushOf_5 rfl (lv_at hl 2 rfl) ?_
    refine g_get fd_RX0_29 C hX hP 8 (by decide) (shC_8 G ad _) (v := .int (σ 8 0)) rfl dX0_hushOf_6 ?_
    refine lv_as (y := (nI N)) hs ?_
    refine lv_icmp_ge (tgt := 38) hx hb dX0_hushOf_9 (by decide) (fun c2 => ?_) (fun c2 => ?_)
    · exact absurd (show nI (N) ≤ nI i from c2) (nI_ge (by omega) (by omega))
    · refine lv_iload_n hx hb dX0_hushOf_12 rfl (lv_at hl 0 rfl) ?_
      refine lv_iload_n hx hb dX0_hushOf_13 rfl (lv_at hl 3 rfl) ?_
      refine g_rd (g_runSN (As := [.int (nI i), .int set]) (rest := []) ky_yX6_isIn ln_RX0_60 hX C (c_yX6_isIn l (nI i) set) ⟨rfl, rfl, by decide, by decide⟩ rfl hl.1 rfl (Nat.le_of_ble_eq_true rfl) ⟨Nat.zero_le _, Nat.zero_le _⟩ dX0_hushOf_14) ?_
      refine lv_if_eq (tgt := 32) hx hb dX0_hushOf_17 (by decide) (fun c3 => ?_) (fun c3 => ?_)
      · refine lv_iinc (v := (nI (i + 1))) (lv' := [(3, .int (nI (i + 1))), (2, .int acc), (0, .ref (ad 8)), (1, .int set)]) hx hb dX0_hushOf_32 hl (k := 0) rfl (by exact nI_1 _) (by decide) rfl (fun ls hl => ?_)
        refine lv_goto (tgt := 4) hx hb dX0_hushOf_35 (by decide) ?_
        exact ih4 (i + 1) acc _ (by omega) (by rw [hres4, x_hushOf0_L4, if_pos c3]) (lv_sub hl [0, 1, 2, 3] rfl)
      · refine lv_iload_n hx hb dX0_hushOf_20 rfl (lv_at hl 1 rfl) ?_
        refine lv_aload_n hx hb dX0_hushOf_21 rfl (lv_at hl 2 rfl) ?_
        refine g_get fd_RX0_11 C hX hP 8 (by decide) (shC_8 G ad _) (v := .ref (ad 11)) rfl dX0_hushOf_22 ?_
        refine lv_iload_n hx hb dX0_hushOf_25 rfl (lv_at hl 0 rfl) ?_
        refine g_aald (t0 := 2) C hX hP 11 (by decide) (shC_11 G ad _) rfl i (by omega) (by decide) rfl dX0_hushOf_26 ?_
        refine g_rd (g_runV (As := []) (rest := [.int acc]) ky_yX1_hushes lk_RX0_63 C hX (gS_b0 hI hS) (hP.sub (sh1 := shG) i 1 (by omega) (shC_sub G ad (by omega))) 0 (c_yX1_hushes l G (fun q_ => ad (i + q_)) (hI.sub (m := 1) i (by omega)) (mget σ i) ) (by decide) (shG_g _) ⟨rfl, rfl, by decide, by decide⟩ rfl hl.1 rfl (Nat.le_of_ble_eq_true rfl) ⟨Nat.zero_le _, Nat.zero_le _⟩ dX0_hushOf_27) ?_
        refine lv_iadd hx hb dX0_hushOf_30 ?_
        refine lv_istore_n (lv' := [(2, .int (acc + (x_hushes1 (mget σ i)))), (3, .int (nI i)), (0, .ref (ad 8)), (1, .int set)]) hx hb dX0_hushOf_31 rfl hl (by decide) rfl (fun ls hl => ?_)
        refine lv_iinc (v := (nI (i + 1))) (lv' := [(3, .int (nI (i + 1))), (2, .int (acc + (x_hushes1 (mget σ i)))), (0, .ref (ad 8)), (1, .int set)]) hx hb dX0_hushOf_32 hl (k := 1) rfl (by exact nI_1 _) (by decide) rfl (fun ls hl => ?_)
        refine lv_goto (tgt := 4) hx hb dX0_hushOf_35 (by decide) ?_
        exact ih4 (i + 1) (acc + (x_hushes1 (mget σ i))) _ (by omega) (by rw [hres4, x_hushOf0_L4, if_neg c3]) (lv_sub hl [0, 1, 2, 3] rfl)

def x_knownBy0_L4 (σ : gM) (set : Int32) : Nat → Nat → Int32 → Int32
  | 0, i, acc => acc
  | n4 + 1, i, acc => if (x_isIn (nI i) set) = 0 then (x_knownBy0_L4 σ set n4 (i + 1) acc) else (x_knownBy0_L4 σ set n4 (i + 1) (acc ||| (σ i 3)))
def x_knownBy0 (σ : gM) (set : Int32) : Int32 := (x_knownBy0_L4 σ set (nN (σ 8 0)) 0 0)
def rm_yX0_knownBy : Room := { frames := 1, cells := 0, slots := 0, locals := 21 }
set_option maxHeartbeats 4000000 in
set_option maxRecDepth 100000 in
theorem c_yX0_knownBy (l : Launch) (G : gG) (ad : Nat → Nat) (hI : gI G.2.2.1 12 ad) (σ : gM) (set : Int32) (N : Nat) (hN : N ≤ 8) (hs : σ 8 0 = nI N) : gRead l yX0_knownBy cX0_knownBy 4 (some .int) rm_yX0_knownBy G [.ref (ad 8), .int set] 12 ad (gE (shC G ad) σ) (x_knownBy0 σ set) := by
  refine g_start [.ref (ad 8), .int set] (by decide +kernel) (Nat.le_of_ble_eq_true rfl) ?_
  intro p e s m below meth c ls B Z hl
  obtain ⟨C, hr, hlk⟩ := B
  have hx := C.1
  have hb := C.2.1
  obtain ⟨hX, hP⟩ := Z
  have hS : va_S (gA 12 ad) s.heap s.heap [] := va_S.rf
  have hl : lv_has ls 4 [(0, .ref (ad 8)), (1, .int set)] := hl
  refine lv_iconst (v := 0) hx hb dX0_knownBy_0 (by decide) ?_
  refine lv_istore_n (lv' := [(2, .int 0), (0, .ref (ad 8)), (1, .int set)]) hx hb dX0_knownBy_1 rfl hl (by decide) rfl (fun ls hl => ?_)
  refine lv_iconst (v := 0) hx hb dX0_knownBy_2 (by decide) ?_
  refine lv_istore_n (lv' := [(3, .int 0), (2, .int 0), (0, .ref (ad 8)), (1, .int set)]) hx hb dX0_knownBy_3 rfl hl (by decide) rfl (fun ls hl => ?_)
  suffices loop4 : ∀ (n4 : Nat) (i : Nat) (acc : Int32) (ls : Array Slot), (i + n4 = N) → x_knownBy0 σ set = (x_knownBy0_L4 σ set n4 i acc) → lv_has ls 4 [(3, .int (nI i)), (2, .int acc), (0, .ref (ad 8)), (1, .int set)] → W p l e rm_yX0_knownBy s m ([.ref (ad 8), .int set] : List Value).toArray below meth c s.heap [] 0 0 (MQ below (vp_Si (fun x => x = x_knownBy0 σ set)) ([.ref (ad 8), .int set] : List Value).toArray s 0 0 (fun _ => False)) (F0 m 4 ls []) by
    exact loop4 N 0 0 _ (by omega) (by rw [x_knownBy0, hs, nN_nI (by omega)]) (lv_sub hl [0, 1, 2, 3] rfl)
  intro n4
  induction n4 with
  | zero =>
    intro i acc ls hi4 hres4 hl
    refine lv_iload_n hx hb dX0_knownBy_4 rfl (lv_at hl 0 rfl) ?_
    refine lv_aload_n hx hb dX0_knownBy_5 rfl (lv_at hl 2 rfl) ?_
    refine g_get fd_RX0_29 C hX hP 8 (by decide) (shC_8 G ad _) (v := .int (σ 8 0)) rfl dX0_knownBy_6 ?_
    refine lv_as (y := (nI N)) hs ?_
    refine lv_icmp_ge (tgt := 38) hx hb dX0_knownBy_9 (by decide) (fun c1 => ?_) (fun c1 => ?_)
    · refine lv_iload_n hx hb dX0_knownBy_38 rfl (lv_at hl 1 rfl) ?_
      exact g_iret C hr hlk rfl (by rw [hres4, x_knownBy0_L4]) rfl rfl dX0_knownBy_39
    · exact absurd (show nI (N) ≤ nI i from nI_le (by omega) (by omega)) c1
  | succ n4 ih4 =>
    intro i acc ls hi4 hres4 hl
    refine lv_iload_n hx hb dX0_knownBy_4 rfl (lv_at hl 0 rfl) ?_
    refine lv_aload_n hx hb dX0_knownBy_5 rfl (lv_at hl 2 rfl) ?_
    refine g_get fd_RX0_29 C hX hP 8 (by decide) (shC_8 G ad _) (v := .int (σ 8 0)) rfl dX0_knownBy_6 ?_
    refine lv_as (y := (nI N)) hs ?_
    refine lv_icmp_ge (tgt := 38) hx hb dX0_knownBy_9 (by decide) (fun c2 => ?_) (fun c2 => ?_)
    · exact absurd (show nI (N) ≤ nI i from c2) (nI_ge (by omega) (by omega))
    · refine lv_iload_n hx hb dX0_knownBy_12 rfl (lv_at hl 0 rfl) ?_
      refine lv_iload_n hx hb dX0_knownBy_13 rfl (lv_at hl 3 rfl) ?_
      refine g_rd (g_runSN (As := [.int (nI i), .int set]) (rest := []) ky_yX6_isIn ln_RX0_60 hX C (c_yX6_isIn l (nI i) set) ⟨rfl, rfl, by decide, by decide⟩ rfl hl.1 rfl (Nat.le_of_ble_eq_true rfl) ⟨Nat.zero_le _, Nat.zero_le _⟩ dX0_knownBy_14) ?_
      refine lv_if_eq (tgt := 32) hx hb dX0_knownBy_17 (by decide) (fun c3 => ?_) (fun c3 => ?_)
      · refine lv_iinc (v := (nI (i + 1))) (lv' := [(3, .int (nI (i + 1))), (2, .int acc), (0, .ref (ad 8)), (1, .int set)]) hx hb dX0_knownBy_32 hl (k := 0) rfl (by exact nI_1 _) (by decide) rfl (fun ls hl => ?_)
        refine lv_goto (tgt := 4) hx hb dX0_knownBy_35 (by decide) ?_
        exact ih4 (i + 1) acc _ (by omega) (by rw [hres4, x_knownBy0_L4, if_pos c3]) (lv_sub hl [0, 1, 2, 3] rfl)
      · refine lv_iload_n hx hb dX0_knownBy_20 rfl (lv_at hl 1 rfl) ?_
        refine lv_aload_n hx hb dX0_knownBy_21 rfl (lv_at hl 2 rfl) ?_
        refine g_get fd_RX0_11 C hX hP 8 (by decide) (shC_8 G ad _) (v := .ref (ad 11)) rfl dX0_knownBy_22 ?_
        refine lv_iload_n hx hb dX0_knownBy_25 rfl (lv_at hl 0 rfl) ?_
        refine g_aald (t0 := 2) C hX hP 11 (by decide) (shC_11 G ad _) rfl i (by omega) (by decide) rfl dX0_knownBy_26 ?_
        refine g_get fd_RX0_67 C hX hP i (by omega) (shC_g G ad (by omega) _) (v := .int (σ i 3)) rfl dX0_knownBy_27 ?_
        refine lv_ior hx hb dX0_knownBy_30 ?_
        refine lv_istore_n (lv' := [(2, .int (acc ||| (σ i 3))), (3, .int (nI i)), (0, .ref (ad 8)), (1, .int set)]) hx hb dX0_knownBy_31 rfl hl (by decide) rfl (fun ls hl => ?_)
        refine lv_iinc (v := (nI (i + 1))) (lv' := [(3, .int (nI (i + 1))), (2, .int (acc ||| (σ i 3))), (0, .ref (ad 8)), (1, .int set)]) hx hb dX0_knownBy_32 hl (k := 1) rfl (by exact nI_1 _) (by decide) rfl (fun ls hl => ?_)
        refine lv_goto (tgt := 4) hx hb dX0_knownBy_35 (by decide) ?_
        exact ih4 (i + 1) (acc ||| (σ i 3)) _ (by omega) (by rw [hres4, x_knownBy0_L4, if_neg c3]) (lv_sub hl [0, 1, 2, 3] rfl)

def x_knownByHandsOf0_L4 (σ : gM) (set : Int32) : Nat → Nat → Int32 → Int32
  | 0, i, acc => acc
  | n4 + 1, i, acc => if (x_isIn (nI i) set) = 0 then (x_knownByHandsOf0_L4 σ set n4 (i + 1) acc) else (x_knownByHandsOf0_L4 σ set n4 (i + 1) (acc ||| (σ i 5)))
def x_knownByHandsOf0 (σ : gM) (set : Int32) : Int32 := (x_knownByHandsOf0_L4 σ set (nN (σ 8 0)) 0 0)
def rm_yX0_knownByHandsOf : Room := { frames := 1, cells := 0, slots := 0, locals := 21 }
set_option maxHeartbeats 4000000 in
set_option maxRecDepth 100000 in
theorem c_yX0_knownByHandsOf (l : Launch) (G : gG) (ad : Nat → Nat) (hI : gI G.2.2.1 12 ad) (σ : gM) (set : Int32) (N : Nat) (hN : N ≤ 8) (hs : σ 8 0 = nI N) : gRead l yX0_knownByHandsOf cX0_knownByHandsOf 4 (some .int) rm_yX0_knownByHandsOf G [.ref (ad 8), .int set] 12 ad (gE (shC G ad) σ) (x_knownByHandsOf0 σ set) := by
  refine g_start [.ref (ad 8), .int set] (by decide +kernel) (Nat.le_of_ble_eq_true rfl) ?_
  intro p e s m below meth c ls B Z hl
  obtain ⟨C, hr, hlk⟩ := B
  have hx := C.1
  have hb := C.2.1
  obtain ⟨hX, hP⟩ := Z
  have hS : va_S (gA 12 ad) s.heap s.heap [] := va_S.rf
  have hl : lv_has ls 4 [(0, .ref (ad 8)), (1, .int set)] := hl
  refine lv_iconst (v := 0) hx hb dX0_knownByHandsOf_0 (by decide) ?_
  refine lv_istore_n (lv' := [(2, .int 0), (0, .ref (ad 8)), (1, .int set)]) hx hb dX0_knownByHandsOf_1 rfl hl (by decide) rfl (fun ls hl => ?_)
  refine lv_iconst (v := 0) hx hb dX0_knownByHandsOf_2 (by decide) ?_
  refine lv_istore_n (lv' := [(3, .int 0), (2, .int 0), (0, .ref (ad 8)), (1, .int set)]) hx hb dX0_knownByHandsOf_3 rfl hl (by decide) rfl (fun ls hl => ?_)
  suffices loop4 : ∀ (n4 : Nat) (i : Nat) (acc : Int32) (ls : Array Slot), (i + n4 = N) → x_knownByHandsOf0 σ set = (x_knownByHandsOf0_L4 σ set n4 i acc) → lv_has ls 4 [(3, .int (nI i)), (2, .int acc), (0, .ref (ad 8)), (1, .int set)] → W p l e rm_yX0_knownByHandsOf s m ([.ref (ad 8), .int set] : List Value).toArray below meth c s.heap [] 0 0 (MQ below (vp_Si (fun x => x = x_knownByHandsOf0 σ set)) ([.ref (ad 8), .int set] : List Value).toArray s 0 0 (fun _ => False)) (F0 m 4 ls []) by
    exact loop4 N 0 0 _ (by omega) (by rw [x_knownByHandsOf0, hs, nN_nI (by omega)]) (lv_sub hl [0, 1, 2, 3] rfl)
  intro n4
  induction n4 with
  | zero =>
    intro i acc ls hi4 hres4 hl
    refine lv_iload_n hx hb dX0_knownByHandsOf_4 rfl (lv_at hl 0 rfl) ?_
    refine lv_aload_n hx hb dX0_knownByHandsOf_5 rfl (lv_at hl 2 rfl) ?_
    refine g_get fd_RX0_29 C hX hP 8 (by decide) (shC_8 G ad _) (v := .int (σ 8 0)) rfl dX0_knownByHandsOf_6 ?_
    refine lv_as (y := (nI N)) hs ?_
    refine lv_icmp_ge (tgt := 38) hx hb dX0_knownByHandsOf_9 (by decide) (fun c1 => ?_) (fun c1 => ?_)
    · refine lv_iload_n hx hb dX0_knownByHandsOf_38 rfl (lv_at hl 1 rfl) ?_
      exact g_iret C hr hlk rfl (by rw [hres4, x_knownByHandsOf0_L4]) rfl rfl dX0_knownByHandsOf_39
    · exact absurd (show nI (N) ≤ nI i from nI_le (by omega) (by omega)) c1
  | succ n4 ih4 =>
    intro i acc ls hi4 hres4 hl
    refine lv_iload_n hx hb dX0_knownByHandsOf_4 rfl (lv_at hl 0 rfl) ?_
    refine lv_aload_n hx hb dX0_knownByHandsOf_5 rfl (lv_at hl 2 rfl) ?_
    refine g_get fd_RX0_29 C hX hP 8 (by decide) (shC_8 G ad _) (v := .int (σ 8 0)) rfl dX0_knownByHandsOf_6 ?_
    refine lv_as (y := (nI N)) hs ?_
    refine lv_icmp_ge (tgt := 38) hx hb dX0_knownByHandsOf_9 (by decide) (fun c2 => ?_) (fun c2 => ?_)
    · exact absurd (show nI (N) ≤ nI i from c2) (nI_ge (by omega) (by omega))
    · refine lv_iload_n hx hb dX0_knownByHandsOf_12 rfl (lv_at hl 0 rfl) ?_
      refine lv_iload_n hx hb dX0_knownByHandsOf_13 rfl (lv_at hl 3 rfl) ?_
      refine g_rd (g_runSN (As := [.int (nI i), .int set]) (rest := []) ky_yX6_isIn ln_RX0_60 hX C (c_yX6_isIn l (nI i) set) ⟨rfl, rfl, by decide, by decide⟩ rfl hl.1 rfl (Nat.le_of_ble_eq_true rfl) ⟨Nat.zero_le _, Nat.zero_le _⟩ dX0_knownByHandsOf_14) ?_
      refine lv_if_eq (tgt := 32) hx hb dX0_knownByHandsOf_17 (by decide) (fun c3 => ?_) (fun c3 => ?_)
      · refine lv_iinc (v := (nI (i + 1))) (lv' := [(3, .int (nI (i + 1))), (2, .int acc), (0, .ref (ad 8)), (1, .int set)]) hx hb dX0_knownByHandsOf_32 hl (k := 0) rfl (by exact nI_1 _) (by decide) rfl (fun ls hl => ?_)
        refine lv_goto (tgt := 4) hx hb dX0_knownByHandsOf_35 (by decide) ?_
        exact ih4 (i + 1) acc _ (by omega) (by rw [hres4, x_knownByHandsOf0_L4, if_pos c3]) (lv_sub hl [0, 1, 2, 3] rfl)
      · refine lv_iload_n hx hb dX0_knownByHandsOf_20 rfl (lv_at hl 1 rfl) ?_
        refine lv_aload_n hx hb dX0_knownByHandsOf_21 rfl (lv_at hl 2 rfl) ?_
        refine g_get fd_RX0_11 C hX hP 8 (by decide) (shC_8 G ad _) (v := .ref (ad 11)) rfl dX0_knownByHandsOf_22 ?_
        refine lv_iload_n hx hb dX0_knownByHandsOf_25 rfl (lv_at hl 0 rfl) ?_
        refine g_aald (t0 := 2) C hX hP 11 (by decide) (shC_11 G ad _) rfl i (by omega) (by decide) rfl dX0_knownByHandsOf_26 ?_
        refine g_get fd_RX0_70 C hX hP i (by omega) (shC_g G ad (by omega) _) (v := .int (σ i 5)) rfl dX0_knownByHandsOf_27 ?_
        refine lv_ior hx hb dX0_knownByHandsOf_30 ?_
        refine lv_istore_n (lv' := [(2, .int (acc ||| (σ i 5))), (3, .int (nI i)), (0, .ref (ad 8)), (1, .int set)]) hx hb dX0_knownByHandsOf_31 rfl hl (by decide) rfl (fun ls hl => ?_)
        refine lv_iinc (v := (nI (i + 1))) (lv' := [(3, .int (nI (i + 1))), (2, .int (acc ||| (σ i 5))), (0, .ref (ad 8)), (1, .int set)]) hx hb dX0_knownByHandsOf_32 hl (k := 1) rfl (by exact nI_1 _) (by decide) rfl (fun ls hl => ?_)
        refine lv_goto (tgt := 4) hx hb dX0_knownByHandsOf_35 (by decide) ?_
        exact ih4 (i + 1) (acc ||| (σ i 5)) _ (by omega) (by rw [hres4, x_knownByHandsOf0_L4, if_neg c3]) (lv_sub hl [0, 1, 2, 3] rfl)

def x_knownByGloves0 (σ : gM) : Int32 := (x_knownBy0 σ (x_everyone0 σ))
def rm_yX0_knownByGloves : Room := { frames := 2, cells := 0, slots := 0, locals := 44 }
set_option maxHeartbeats 4000000 in
set_option maxRecDepth 100000 in
theorem c_yX0_knownByGloves (l : Launch) (G : gG) (ad : Nat → Nat) (hI : gI G.2.2.1 12 ad) (σ : gM) (N : Nat) (hN : N ≤ 8) (hs : σ 8 0 = nI N) : gRead l yX0_knownByGloves cX0_knownByGloves 1 (some .int) rm_yX0_knownByGloves G [.ref (ad 8)] 12 ad (gE (shC G ad) σ) (x_knownByGloves0 σ) := by
  refine g_start [.ref (ad 8)] (by decide +kernel) (Nat.le_of_ble_eq_true rfl) ?_
  intro p e s m below meth c ls B Z hl
  obtain ⟨C, hr, hlk⟩ := B
  have hx := C.1
  have hb := C.2.1
  obtain ⟨hX, hP⟩ := Z
  have hS : va_S (gA 12 ad) s.heap s.heap [] := va_S.rf
  have hl : lv_has ls 1 [(0, .ref (ad 8))] := hl
  refine lv_aload_n hx hb dX0_knownByGloves_0 rfl (lv_at hl 0 rfl) ?_
  refine lv_aload_n hx hb dX0_knownByGloves_1 rfl (lv_at hl 0 rfl) ?_
  refine g_rd (g_runV (As := []) (rest := [.ref (ad 8)]) ky_yX0_everyone lk_RX0_73 C hX (gS_b0 hI hS) hP 8 (c_yX0_everyone l G ad hI σ ) (by decide) (shC_8 G ad _) ⟨rfl, rfl, by decide, by decide⟩ rfl hl.1 rfl (Nat.le_of_ble_eq_true rfl) ⟨Nat.zero_le _, Nat.zero_le _⟩ dX0_knownByGloves_2) ?_
  refine g_rd (g_runV (As := [.int (x_everyone0 σ)]) (rest := []) ky_yX0_knownBy lk_RX0_76 C hX (gS_b0 hI hS) hP 8 (c_yX0_knownBy l G ad hI σ (x_everyone0 σ) N hN hs) (by decide) (shC_8 G ad _) ⟨rfl, rfl, by decide, by decide⟩ rfl hl.1 rfl (Nat.le_of_ble_eq_true rfl) ⟨Nat.zero_le _, Nat.zero_le _⟩ dX0_knownByGloves_5) ?_
  exact g_iret C hr hlk rfl (by rw [x_knownByGloves0]) rfl rfl dX0_knownByGloves_8

def x_knownByHands0 (σ : gM) : Int32 := (x_knownByHandsOf0 σ (x_everyone0 σ))
def rm_yX0_knownByHands : Room := { frames := 2, cells := 0, slots := 0, locals := 44 }
set_option maxHeartbeats 4000000 in
set_option maxRecDepth 100000 in
theorem c_yX0_knownByHands (l : Launch) (G : gG) (ad : Nat → Nat) (hI : gI G.2.2.1 12 ad) (σ : gM) (N : Nat) (hN : N ≤ 8) (hs : σ 8 0 = nI N) : gRead l yX0_knownByHands cX0_knownByHands 1 (some .int) rm_yX0_knownByHands G [.ref (ad 8)] 12 ad (gE (shC G ad) σ) (x_knownByHands0 σ) := by
  refine g_start [.ref (ad 8)] (by decide +kernel) (Nat.le_of_ble_eq_true rfl) ?_
  intro p e s m below meth c ls B Z hl
  obtain ⟨C, hr, hlk⟩ := B
  have hx := C.1
  have hb := C.2.1
  obtain ⟨hX, hP⟩ := Z
  have hS : va_S (gA 12 ad) s.heap s.heap [] := va_S.rf
  have hl : lv_has ls 1 [(0, .ref (ad 8))] := hl
  refine lv_aload_n hx hb dX0_knownByHands_0 rfl (lv_at hl 0 rfl) ?_
  refine lv_aload_n hx hb dX0_knownByHands_1 rfl (lv_at hl 0 rfl) ?_
  refine g_rd (g_runV (As := []) (rest := [.ref (ad 8)]) ky_yX0_everyone lk_RX0_73 C hX (gS_b0 hI hS) hP 8 (c_yX0_everyone l G ad hI σ ) (by decide) (shC_8 G ad _) ⟨rfl, rfl, by decide, by decide⟩ rfl hl.1 rfl (Nat.le_of_ble_eq_true rfl) ⟨Nat.zero_le _, Nat.zero_le _⟩ dX0_knownByHands_2) ?_
  refine g_rd (g_runV (As := [.int (x_everyone0 σ)]) (rest := []) ky_yX0_knownByHandsOf lk_RX0_80 C hX (gS_b0 hI hS) hP 8 (c_yX0_knownByHandsOf l G ad hI σ (x_everyone0 σ) N hN hs) (by decide) (shC_8 G ad _) ⟨rfl, rfl, by decide, by decide⟩ rfl hl.1 rfl (Nat.le_of_ble_eq_true rfl) ⟨Nat.zero_le _, Nat.zero_le _⟩ dX0_knownByHands_5) ?_
  exact g_iret C hr hlk rfl (by rw [x_knownByHands0]) rfl rfl dX0_knownByHands_8

def x_knownToAnyone0 (σ : gM) : Int32 := ((x_knownByGloves0 σ) ||| (x_knownByHands0 σ))
def rm_yX0_knownToAnyone : Room := { frames := 3, cells := 0, slots := 0, locals := 64 }
set_option maxHeartbeats 4000000 in
set_option maxRecDepth 100000 in
theorem c_yX0_knownToAnyone (l : Launch) (G : gG) (ad : Nat → Nat) (hI : gI G.2.2.1 12 ad) (σ : gM) (N : Nat) (hN : N ≤ 8) (hs : σ 8 0 = nI N) : gRead l yX0_knownToAnyone cX0_knownToAnyone 1 (some .int) rm_yX0_knownToAnyone G [.ref (ad 8)] 12 ad (gE (shC G ad) σ) (x_knownToAnyone0 σ) := by
  refine g_start [.ref (ad 8)] (by decide +kernel) (Nat.le_of_ble_eq_true rfl) ?_
  intro p e s m below meth c ls B Z hl
  obtain ⟨C, hr, hlk⟩ := B
  have hx := C.1
  have hb := C.2.1
  obtain ⟨hX, hP⟩ := Z
  have hS : va_S (gA 12 ad) s.heap s.heap [] := va_S.rf
  have hl : lv_has ls 1 [(0, .ref (ad 8))] := hl
  refine lv_aload_n hx hb dX0_knownToAnyone_0 rfl (lv_at hl 0 rfl) ?_
  refine g_rd (g_runV (As := []) (rest := []) ky_yX0_knownByGloves lk_RX0_83 C hX (gS_b0 hI hS) hP 8 (c_yX0_knownByGloves l G ad hI σ  N hN hs) (by decide) (shC_8 G ad _) ⟨rfl, rfl, by decide, by decide⟩ rfl hl.1 rfl (Nat.le_of_ble_eq_true rfl) ⟨Nat.zero_le _, Nat.zero_le _⟩ dX0_knownToAnyone_1) ?_
  refine lv_aload_n hx hb dX0_knownToAnyone_4 rfl (lv_at hl 0 rfl) ?_
  refine g_rd (g_runV (As := []) (rest := [.int (x_knownByGloves0 σ)]) ky_yX0_knownByHands lk_RX0_86 C hX (gS_b0 hI hS) hP 8 (c_yX0_knownByHands l G ad hI σ  N hN hs) (by decide) (shC_8 G ad _) ⟨rfl, rfl, by decide, by decide⟩ rfl hl.1 rfl (Nat.le_of_ble_eq_true rfl) ⟨Nat.zero_le _, Nat.zero_le _⟩ dX0_knownToAnyone_5) ?_
  refine lv_ior hx hb dX0_knownToAnyone_8 ?_
  exact g_iret C hr hlk rfl (by rw [x_knownToAnyone0]) rfl rfl dX0_knownToAnyone_9

def x_whoKnows0_L5 (σ : gM) (topic : Int32) (byHand : Int32) : Nat → Nat → Int32 → Int32
  | 0, i, acc => acc
  | n5 + 1, i, acc => if byHand = 0 then (if (x_isIn topic (σ i 3)) = 0 then (x_whoKnows0_L5 σ topic byHand n5 (i + 1) acc) else (x_whoKnows0_L5 σ topic byHand n5 (i + 1) (acc ||| (jshl 1 (nI i))))) else (if (x_isIn topic (σ i 5)) = 0 then (x_whoKnows0_L5 σ topic byHand n5 (i + 1) acc) else (x_whoKnows0_L5 σ topic byHand n5 (i + 1) (acc ||| (jshl 1 (nI i)))))
def x_whoKnows0 (σ : gM) (topic : Int32) (byHand : Int32) : Int32 := (x_whoKnows0_L5 σ topic byHand (nN (σ 8 0)) 0 0)
def rm_yX0_whoKnows : Room := { frames := 1, cells := 0, slots := 0, locals := 21 }
set_option maxHeartbeats 4000000 in
set_option maxRecDepth 100000 in
theorem c_yX0_whoKnows (l : Launch) (G : gG) (ad : Nat → Nat) (hI : gI G.2.2.1 12 ad) (σ : gM) (topic : Int32) (byHand : Int32) (N : Nat) (hN : N ≤ 8) (hs : σ 8 0 = nI N) : gRead l yX0_whoKnows cX0_whoKnows 5 (some .int) rm_yX0_whoKnows G [.ref (ad 8), .int topic, .int byHand] 12 ad (gE (shC G ad) σ) (x_whoKnows0 σ topic byHand) := by
  refine g_start [.ref (ad 8), .int topic, .int byHand] (by decide +kernel) (Nat.le_of_ble_eq_true rfl) ?_
  intro p e s m below meth c ls B Z hl
  obtain ⟨C, hr, hlk⟩ := B
  have hx := C.1
  have hb := C.2.1
  obtain ⟨hX, hP⟩ := Z
  have hS : va_S (gA 12 ad) s.heap s.heap [] := va_S.rf
  have hl : lv_has ls 5 [(0, .ref (ad 8)), (1, .int topic), (2, .int byHand)] := hl
  refine lv_iconst (v := 0) hx hb dX0_whoKnows_0 (by decide) ?_
  refine lv_istore_n (lv' := [(3, .int 0), (0, .ref (ad 8)), (1, .int topic), (2, .int byHand)]) hx hb dX0_whoKnows_1 rfl hl (by decide) rfl (fun ls hl => ?_)
  refine lv_iconst (v := 0) hx hb dX0_whoKnows_2 (by decide) ?_
  refine lv_istore (lv' := [(4, .int 0), (3, .int 0), (0, .ref (ad 8)), (1, .int topic), (2, .int byHand)]) hx hb dX0_whoKnows_3 hl (by decide) rfl (fun ls hl => ?_)
  suffices loop5 : ∀ (n5 : Nat) (i : Nat) (acc : Int32) (ls : Array Slot), (i + n5 = N) → x_whoKnows0 σ topic byHand = (x_whoKnows0_L5 σ topic byHand n5 i acc) → lv_has ls 5 [(4, .int (nI i)), (3, .int acc), (0, .ref (ad 8)), (1, .int topic), (2, .int byHand)] → W p l e rm_yX0_whoKnows s m ([.ref (ad 8), .int topic, .int byHand] : List Value).toArray below meth c s.heap [] 0 0 (MQ below (vp_Si (fun x => x = x_whoKnows0 σ topic byHand)) ([.ref (ad 8), .int topic, .int byHand] : List Value).toArray s 0 0 (fun _ => False)) (F0 m 5 ls []) by
    exact loop5 N 0 0 _ (by omega) (by rw [x_whoKnows0, hs, nN_nI (by omega)]) (lv_sub hl [0, 1, 2, 3, 4] rfl)
  intro n5
  induction n5 with
  | zero =>
    intro i acc ls hi5 hres5 hl
    refine lv_iload hx hb dX0_whoKnows_5 (lv_at hl 0 rfl) ?_
    refine lv_aload_n hx hb dX0_whoKnows_7 rfl (lv_at hl 2 rfl) ?_
    refine g_get fd_RX0_29 C hX hP 8 (by decide) (shC_8 G ad _) (v := .int (σ 8 0)) rfl dX0_whoKnows_8 ?_
    refine lv_as (y := (nI N)) hs ?_
    refine lv_icmp_ge (tgt := 61) hx hb dX0_whoKnows_11 (by decide) (fun c1 => ?_) (fun c1 => ?_)
    · refine lv_iload_n hx hb dX0_whoKnows_61 rfl (lv_at hl 1 rfl) ?_
      exact g_iret C hr hlk rfl (by rw [hres5, x_whoKnows0_L5]) rfl rfl dX0_whoKnows_62
    · exact absurd (show nI (N) ≤ nI i from nI_le (by omega) (by omega)) c1
  | succ n5 ih5 =>
    intro i acc ls hi5 hres5 hl
    refine lv_iload hx hb dX0_whoKnows_5 (lv_at hl 0 rfl) ?_
    refine lv_aload_n hx hb dX0_whoKnows_7 rfl (lv_at hl 2 rfl) ?_
    refine g_get fd_RX0_29 C hX hP 8 (by decide) (shC_8 G ad _) (v := .int (σ 8 0)) rfl dX0_whoKnows_8 ?_
    refine lv_as (y := (nI N)) hs ?_
    refine lv_icmp_ge (tgt := 61) hx hb dX0_whoKnows_11 (by decide) (fun c2 => ?_) (fun c2 => ?_)
    · exact absurd (show nI (N) ≤ nI i from c2) (nI_ge (by omega) (by omega))
    · refine lv_iload_n hx hb dX0_whoKnows_14 rfl (lv_at hl 3 rfl) ?_
      refine lv_iload_n hx hb dX0_whoKnows_15 rfl (lv_at hl 4 rfl) ?_
      refine lv_if_eq (tgt := 32) hx hb dX0_whoKnows_16 (by decide) (fun c3 => ?_) (fun c3 => ?_)
      · refine lv_aload_n hx hb dX0_whoKnows_32 rfl (lv_at hl 2 rfl) ?_
        refine g_get fd_RX0_11 C hX hP 8 (by decide) (shC_8 G ad _) (v := .ref (ad 11)) rfl dX0_whoKnows_33 ?_
        refine lv_iload hx hb dX0_whoKnows_36 (lv_at hl 0 rfl) ?_
        refine g_aald (t0 := 2) C hX hP 11 (by decide) (shC_11 G ad _) rfl i (by omega) (by decide) rfl dX0_whoKnows_38 ?_
        refine g_get fd_RX0_67 C hX hP i (by omega) (shC_g G ad (by omega) _) (v := .int (σ i 3)) rfl dX0_whoKnows_39 ?_
        refine g_rd (g_runSN (As := [.int topic, .int (σ i 3)]) (rest := []) ky_yX6_isIn ln_RX0_60 hX C (c_yX6_isIn l topic (σ i 3)) ⟨rfl, rfl, by decide, by decide⟩ rfl hl.1 rfl (Nat.le_of_ble_eq_true rfl) ⟨Nat.zero_le _, Nat.zero_le _⟩ dX0_whoKnows_42) ?_
        refine lv_if_eq (tgt := 55) hx hb dX0_whoKnows_45 (by decide) (fun c4 => ?_) (fun c4 => ?_)
        · refine lv_iinc (v := (nI (i + 1))) (lv' := [(4, .int (nI (i + 1))), (3, .int acc), (0, .ref (ad 8)), (1, .int topic), (2, .int byHand)]) hx hb dX0_whoKnows_55 hl (k := 0) rfl (by exact nI_1 _) (by decide) rfl (fun ls hl => ?_)
          refine lv_goto (tgt := 5) hx hb dX0_whoKnows_58 (by decide) ?_
          exact ih5 (i + 1) acc _ (by omega) (by rw [hres5, x_whoKnows0_L5, if_pos c3, if_pos c4]) (lv_sub hl [0, 1, 2, 3, 4] rfl)
        · refine lv_iload_n hx hb dX0_whoKnows_48 rfl (lv_at hl 1 rfl) ?_
          refine lv_iconst (v := 1) hx hb dX0_whoKnows_49 (by decide) ?_
          refine lv_iload hx hb dX0_whoKnows_50 (lv_at hl 0 rfl) ?_
          refine g_ishl hx hb dX0_whoKnows_52 ?_
          refine lv_ior hx hb dX0_whoKnows_53 ?_
          refine lv_istore_n (lv' := [(3, .int (acc ||| (jshl 1 (nI i)))), (4, .int (nI i)), (0, .ref (ad 8)), (1, .int topic), (2, .int byHand)]) hx hb dX0_whoKnows_54 rfl hl (by decide) rfl (fun ls hl => ?_)
          refine lv_iinc (v := (nI (i + 1))) (lv' := [(4, .int (nI (i + 1))), (3, .int (acc ||| (jshl 1 (nI i)))), (0, .ref (ad 8)), (1, .int topic), (2, .int byHand)]) hx hb dX0_whoKnows_55 hl (k := 1) rfl (by exact nI_1 _) (by decide) rfl (fun ls hl => ?_)
          refine lv_goto (tgt := 5) hx hb dX0_whoKnows_58 (by decide) ?_
          exact ih5 (i + 1) (acc ||| (jshl 1 (nI i))) _ (by omega) (by rw [hres5, x_whoKnows0_L5, if_pos c3, if_neg c4]) (lv_sub hl [0, 1, 2, 3, 4] rfl)
      · refine lv_aload_n hx hb dX0_whoKnows_19 rfl (lv_at hl 2 rfl) ?_
        refine g_get fd_RX0_11 C hX hP 8 (by decide) (shC_8 G ad _) (v := .ref (ad 11)) rfl dX0_whoKnows_20 ?_
        refine lv_iload hx hb dX0_whoKnows_23 (lv_at hl 0 rfl) ?_
        refine g_aald (t0 := 2) C hX hP 11 (by decide) (shC_11 G ad _) rfl i (by omega) (by decide) rfl dX0_whoKnows_25 ?_
        refine g_get fd_RX0_70 C hX hP i (by omega) (shC_g G ad (by omega) _) (v := .int (σ i 5)) rfl dX0_whoKnows_26 ?_
        refine lv_goto (tgt := 42) hx hb dX0_whoKnows_29 (by decide) ?_
        refine g_rd (g_runSN (As := [.int topic, .int (σ i 5)]) (rest := []) ky_yX6_isIn ln_RX0_60 hX C (c_yX6_isIn l topic (σ i 5)) ⟨rfl, rfl, by decide, by decide⟩ rfl hl.1 rfl (Nat.le_of_ble_eq_true rfl) ⟨Nat.zero_le _, Nat.zero_le _⟩ dX0_whoKnows_42) ?_
        refine lv_if_eq (tgt := 55) hx hb dX0_whoKnows_45 (by decide) (fun c5 => ?_) (fun c5 => ?_)
        · refine lv_iinc (v := (nI (i + 1))) (lv' := [(4, .int (nI (i + 1))), (3, .int acc), (0, .ref (ad 8)), (1, .int topic), (2, .int byHand)]) hx hb dX0_whoKnows_55 hl (k := 0) rfl (by exact nI_1 _) (by decide) rfl (fun ls hl => ?_)
          refine lv_goto (tgt := 5) hx hb dX0_whoKnows_58 (by decide) ?_
          exact ih5 (i + 1) acc _ (by omega) (by rw [hres5, x_whoKnows0_L5, if_neg c3, if_pos c5]) (lv_sub hl [0, 1, 2, 3, 4] rfl)
        · refine lv_iload_n hx hb dX0_whoKnows_48 rfl (lv_at hl 1 rfl) ?_
          refine lv_iconst (v := 1) hx hb dX0_whoKnows_49 (by decide) ?_
          refine lv_iload hx hb dX0_whoKnows_50 (lv_at hl 0 rfl) ?_
          refine g_ishl hx hb dX0_whoKnows_52 ?_
          refine lv_ior hx hb dX0_whoKnows_53 ?_
          refine lv_istore_n (lv' := [(3, .int (acc ||| (jshl 1 (nI i)))), (4, .int (nI i)), (0, .ref (ad 8)), (1, .int topic), (2, .int byHand)]) hx hb dX0_whoKnows_54 rfl hl (by decide) rfl (fun ls hl => ?_)
          refine lv_iinc (v := (nI (i + 1))) (lv' := [(4, .int (nI (i + 1))), (3, .int (acc ||| (jshl 1 (nI i)))), (0, .ref (ad 8)), (1, .int topic), (2, .int byHand)]) hx hb dX0_whoKnows_55 hl (k := 1) rfl (by exact nI_1 _) (by decide) rfl (fun ls hl => ?_)
          refine lv_goto (tgt := 5) hx hb dX0_whoKnows_58 (by decide) ?_
          exact ih5 (i + 1) (acc ||| (jshl 1 (nI i))) _ (by omega) (by rw [hres5, x_whoKnows0_L5, if_neg c3, if_neg c5]) (lv_sub hl [0, 1, 2, 3, 4] rfl)

def x_saidIn0_L4 (σ : gM) (room : Int32) : Nat → Nat → Int32 → Int32
  | 0, i, acc => acc
  | n4 + 1, i, acc => if (x_roomOf (σ 9 i)) = room then (x_saidIn0_L4 σ room n4 (i + 1) (acc ||| (jshl 1 (x_topicOf (σ 9 i))))) else (x_saidIn0_L4 σ room n4 (i + 1) acc)
def x_saidIn0 (σ : gM) (room : Int32) : Int32 := (x_saidIn0_L4 σ room 6 0 0)
def rm_yX0_saidIn : Room := { frames := 1, cells := 0, slots := 0, locals := 20 }
set_option maxHeartbeats 4000000 in
set_option maxRecDepth 100000 in
theorem c_yX0_saidIn (l : Launch) (G : gG) (ad : Nat → Nat) (hI : gI G.2.2.1 12 ad) (σ : gM) (room : Int32) : gRead l yX0_saidIn cX0_saidIn 4 (some .int) rm_yX0_saidIn G [.ref (ad 8), .int room] 12 ad (gE (shC G ad) σ) (x_saidIn0 σ room) := by
  refine g_start [.ref (ad 8), .int room] (by decide +kernel) (Nat.le_of_ble_eq_true rfl) ?_
  intro p e s m below meth c ls B Z hl
  obtain ⟨C, hr, hlk⟩ := B
  have hx := C.1
  have hb := C.2.1
  obtain ⟨hX, hP⟩ := Z
  have hS : va_S (gA 12 ad) s.heap s.heap [] := va_S.rf
  have hl : lv_has ls 4 [(0, .ref (ad 8)), (1, .int room)] := hl
  refine lv_iconst (v := 0) hx hb dX0_saidIn_0 (by decide) ?_
  refine lv_istore_n (lv' := [(2, .int 0), (0, .ref (ad 8)), (1, .int room)]) hx hb dX0_saidIn_1 rfl hl (by decide) rfl (fun ls hl => ?_)
  refine lv_iconst (v := 0) hx hb dX0_saidIn_2 (by decide) ?_
  refine lv_istore_n (lv' := [(3, .int 0), (2, .int 0), (0, .ref (ad 8)), (1, .int room)]) hx hb dX0_saidIn_3 rfl hl (by decide) rfl (fun ls hl => ?_)
  suffices loop4 : ∀ (n4 : Nat) (i : Nat) (acc : Int32) (ls : Array Slot), (i + n4 = 6) → x_saidIn0 σ room = (x_saidIn0_L4 σ room n4 i acc) → lv_has ls 4 [(3, .int (nI i)), (2, .int acc), (0, .ref (ad 8)), (1, .int room)] → W p l e rm_yX0_saidIn s m ([.ref (ad 8), .int room] : List Value).toArray below meth c s.heap [] 0 0 (MQ below (vp_Si (fun x => x = x_saidIn0 σ room)) ([.ref (ad 8), .int room] : List Value).toArray s 0 0 (fun _ => False)) (F0 m 4 ls []) by
    exact loop4 6 0 0 _ (by omega) (by rw [x_saidIn0]) (lv_sub hl [0, 1, 2, 3] rfl)
  intro n4
  induction n4 with
  | zero =>
    intro i acc ls hi4 hres4 hl
    refine lv_iload_n hx hb dX0_saidIn_4 rfl (lv_at hl 0 rfl) ?_
    refine lv_bipush (v := 6) hx hb dX0_saidIn_5 (by decide) ?_
    refine lv_icmp_ge (tgt := 43) hx hb dX0_saidIn_7 (by decide) (fun c1 => ?_) (fun c1 => ?_)
    · refine lv_iload_n hx hb dX0_saidIn_43 rfl (lv_at hl 1 rfl) ?_
      exact g_iret C hr hlk rfl (by rw [hres4, x_saidIn0_L4]) rfl rfl dX0_saidIn_44
    · exact absurd (show nI (6) ≤ nI i from nI_le (by omega) (by omega)) c1
  | succ n4 ih4 =>
    intro i acc ls hi4 hres4 hl
    refine lv_iload_n hx hb dX0_saidIn_4 rfl (lv_at hl 0 rfl) ?_
    refine lv_bipush (v := 6) hx hb dX0_saidIn_5 (by decide) ?_
    refine lv_icmp_ge (tgt := 43) hx hb dX0_saidIn_7 (by decide) (fun c2 => ?_) (fun c2 => ?_)
    · exact absurd (show nI (6) ≤ nI i from c2) (nI_ge (by omega) (by omega))
    · refine lv_aload_n hx hb dX0_saidIn_10 rfl (lv_at hl 2 rfl) ?_
      refine g_get fd_RX0_18 C hX hP 8 (by decide) (shC_8 G ad _) (v := .ref (ad 9)) rfl dX0_saidIn_11 ?_
      refine lv_iload_n hx hb dX0_saidIn_14 rfl (lv_at hl 0 rfl) ?_
      refine g_iald C hX hP 9 (by decide) (shC_9 G ad _) i (by omega) (by decide) dX0_saidIn_15 ?_
      refine g_rd (g_runSN (As := [.int (σ 9 i)]) (rest := []) ky_yX6_roomOf ln_RX0_89 hX C (c_yX6_roomOf l (σ 9 i)) ⟨rfl, rfl, by decide, by decide⟩ rfl hl.1 rfl (Nat.le_of_ble_eq_true rfl) ⟨Nat.zero_le _, Nat.zero_le _⟩ dX0_saidIn_16) ?_
      refine lv_iload_n hx hb dX0_saidIn_19 rfl (lv_at hl 3 rfl) ?_
      refine lv_icmp_ne (tgt := 37) hx hb dX0_saidIn_20 (by decide) (fun c3 => ?_) (fun c3 => ?_)
      · refine lv_iinc (v := (nI (i + 1))) (lv' := [(3, .int (nI (i + 1))), (2, .int acc), (0, .ref (ad 8)), (1, .int room)]) hx hb dX0_saidIn_37 hl (k := 0) rfl (by exact nI_1 _) (by decide) rfl (fun ls hl => ?_)
        refine lv_goto (tgt := 4) hx hb dX0_saidIn_40 (by decide) ?_
        exact ih4 (i + 1) acc _ (by omega) (by rw [hres4, x_saidIn0_L4, if_neg c3]) (lv_sub hl [0, 1, 2, 3] rfl)
      · refine lv_iload_n hx hb dX0_saidIn_23 rfl (lv_at hl 1 rfl) ?_
        refine lv_iconst (v := 1) hx hb dX0_saidIn_24 (by decide) ?_
        refine lv_aload_n hx hb dX0_saidIn_25 rfl (lv_at hl 2 rfl) ?_
        refine g_get fd_RX0_18 C hX hP 8 (by decide) (shC_8 G ad _) (v := .ref (ad 9)) rfl dX0_saidIn_26 ?_
        refine lv_iload_n hx hb dX0_saidIn_29 rfl (lv_at hl 0 rfl) ?_
        refine g_iald C hX hP 9 (by decide) (shC_9 G ad _) i (by omega) (by decide) dX0_saidIn_30 ?_
        refine g_rd (g_runSN (As := [.int (σ 9 i)]) (rest := [.int 1, .int acc]) ky_yX6_topicOf ln_RX0_92 hX C (c_yX6_topicOf l (σ 9 i)) ⟨rfl, rfl, by decide, by decide⟩ rfl hl.1 rfl (Nat.le_of_ble_eq_true rfl) ⟨Nat.zero_le _, Nat.zero_le _⟩ dX0_saidIn_31) ?_
        refine g_ishl hx hb dX0_saidIn_34 ?_
        refine lv_ior hx hb dX0_saidIn_35 ?_
        refine lv_istore_n (lv' := [(2, .int (acc ||| (jshl 1 (x_topicOf (σ 9 i))))), (3, .int (nI i)), (0, .ref (ad 8)), (1, .int room)]) hx hb dX0_saidIn_36 rfl hl (by decide) rfl (fun ls hl => ?_)
        refine lv_iinc (v := (nI (i + 1))) (lv' := [(3, .int (nI (i + 1))), (2, .int (acc ||| (jshl 1 (x_topicOf (σ 9 i))))), (0, .ref (ad 8)), (1, .int room)]) hx hb dX0_saidIn_37 hl (k := 1) rfl (by exact nI_1 _) (by decide) rfl (fun ls hl => ?_)
        refine lv_goto (tgt := 4) hx hb dX0_saidIn_40 (by decide) ?_
        exact ih4 (i + 1) (acc ||| (jshl 1 (x_topicOf (σ 9 i)))) _ (by omega) (by rw [hres4, x_saidIn0_L4, if_pos c3]) (lv_sub hl [0, 1, 2, 3] rfl)

def x_drawnInAll0_L4 (σ : gM) : Nat → Nat → Int32 → Int32
  | 0, i, acc => acc
  | n4 + 1, i, acc => (x_drawnInAll0_L4 σ n4 (i + 1) (acc + (σ i 6)))
def x_drawnInAll0 (σ : gM) : Int32 := (x_drawnInAll0_L4 σ (nN (σ 8 0)) 0 0)
def rm_yX0_drawnInAll : Room := { frames := 0, cells := 0, slots := 0, locals := 0 }
set_option maxHeartbeats 4000000 in
set_option maxRecDepth 100000 in
theorem c_yX0_drawnInAll (l : Launch) (G : gG) (ad : Nat → Nat) (hI : gI G.2.2.1 12 ad) (σ : gM) (N : Nat) (hN : N ≤ 8) (hs : σ 8 0 = nI N) : gRead l yX0_drawnInAll cX0_drawnInAll 3 (some .int) rm_yX0_drawnInAll G [.ref (ad 8)] 12 ad (gE (shC G ad) σ) (x_drawnInAll0 σ) := by
  refine g_start [.ref (ad 8)] (by decide +kernel) (Nat.le_of_ble_eq_true rfl) ?_
  intro p e s m below meth c ls B Z hl
  obtain ⟨C, hr, hlk⟩ := B
  have hx := C.1
  have hb := C.2.1
  obtain ⟨hX, hP⟩ := Z
  have hS : va_S (gA 12 ad) s.heap s.heap [] := va_S.rf
  have hl : lv_has ls 3 [(0, .ref (ad 8))] := hl
  refine lv_iconst (v := 0) hx hb dX0_drawnInAll_0 (by decide) ?_
  refine lv_istore_n (lv' := [(1, .int 0), (0, .ref (ad 8))]) hx hb dX0_drawnInAll_1 rfl hl (by decide) rfl (fun ls hl => ?_)
  refine lv_iconst (v := 0) hx hb dX0_drawnInAll_2 (by decide) ?_
  refine lv_istore_n (lv' := [(2, .int 0), (1, .int 0), (0, .ref (ad 8))]) hx hb dX0_drawnInAll_3 rfl hl (by decide) rfl (fun ls hl => ?_)
  suffices loop4 : ∀ (n4 : Nat) (i : Nat) (acc : Int32) (ls : Array Slot), (i + n4 = N) → x_drawnInAll0 σ = (x_drawnInAll0_L4 σ n4 i acc) → lv_has ls 3 [(2, .int (nI i)), (1, .int acc), (0, .ref (ad 8))] → W p l e rm_yX0_drawnInAll s m ([.ref (ad 8)] : List Value).toArray below meth c s.heap [] 0 0 (MQ below (vp_Si (fun x => x = x_drawnInAll0 σ)) ([.ref (ad 8)] : List Value).toArray s 0 0 (fun _ => False)) (F0 m 4 ls []) by
    exact loop4 N 0 0 _ (by omega) (by rw [x_drawnInAll0, hs, nN_nI (by omega)]) (lv_sub hl [0, 1, 2] rfl)
  intro n4
  induction n4 with
  | zero =>
    intro i acc ls hi4 hres4 hl
    refine lv_iload_n hx hb dX0_drawnInAll_4 rfl (lv_at hl 0 rfl) ?_
    refine lv_aload_n hx hb dX0_drawnInAll_5 rfl (lv_at hl 2 rfl) ?_
    refine g_get fd_RX0_29 C hX hP 8 (by decide) (shC_8 G ad _) (v := .int (σ 8 0)) rfl dX0_drawnInAll_6 ?_
    refine lv_as (y := (nI N)) hs ?_
    refine lv_icmp_ge (tgt := 30) hx hb dX0_drawnInAll_9 (by decide) (fun c1 => ?_) (fun c1 => ?_)
    · refine lv_iload_n hx hb dX0_drawnInAll_30 rfl (lv_at hl 1 rfl) ?_
      exact g_iret C hr hlk rfl (by rw [hres4, x_drawnInAll0_L4]) rfl rfl dX0_drawnInAll_31
    · exact absurd (show nI (N) ≤ nI i from nI_le (by omega) (by omega)) c1
  | succ n4 ih4 =>
    intro i acc ls hi4 hres4 hl
    refine lv_iload_n hx hb dX0_drawnInAll_4 rfl (lv_at hl 0 rfl) ?_
    refine lv_aload_n hx hb dX0_drawnInAll_5 rfl (lv_at hl 2 rfl) ?_
    refine g_get fd_RX0_29 C hX hP 8 (by decide) (shC_8 G ad _) (v := .int (σ 8 0)) rfl dX0_drawnInAll_6 ?_
    refine lv_as (y := (nI N)) hs ?_
    refine lv_icmp_ge (tgt := 30) hx hb dX0_drawnInAll_9 (by decide) (fun c2 => ?_) (fun c2 => ?_)
    · exact absurd (show nI (N) ≤ nI i from c2) (nI_ge (by omega) (by omega))
    · refine lv_iload_n hx hb dX0_drawnInAll_12 rfl (lv_at hl 1 rfl) ?_
      refine lv_aload_n hx hb dX0_drawnInAll_13 rfl (lv_at hl 2 rfl) ?_
      refine g_get fd_RX0_11 C hX hP 8 (by decide) (shC_8 G ad _) (v := .ref (ad 11)) rfl dX0_drawnInAll_14 ?_
      refine lv_iload_n hx hb dX0_drawnInAll_17 rfl (lv_at hl 0 rfl) ?_
      refine g_aald (t0 := 2) C hX hP 11 (by decide) (shC_11 G ad _) rfl i (by omega) (by decide) rfl dX0_drawnInAll_18 ?_
      refine g_get fd_RX0_95 C hX hP i (by omega) (shC_g G ad (by omega) _) (v := .int (σ i 6)) rfl dX0_drawnInAll_19 ?_
      refine lv_iadd hx hb dX0_drawnInAll_22 ?_
      refine lv_istore_n (lv' := [(1, .int (acc + (σ i 6))), (2, .int (nI i)), (0, .ref (ad 8))]) hx hb dX0_drawnInAll_23 rfl hl (by decide) rfl (fun ls hl => ?_)
      refine lv_iinc (v := (nI (i + 1))) (lv' := [(2, .int (nI (i + 1))), (1, .int (acc + (σ i 6))), (0, .ref (ad 8))]) hx hb dX0_drawnInAll_24 hl (k := 1) rfl (by exact nI_1 _) (by decide) rfl (fun ls hl => ?_)
      refine lv_goto (tgt := 4) hx hb dX0_drawnInAll_27 (by decide) ?_
      exact ih4 (i + 1) (acc + (σ i 6)) _ (by omega) (by rw [hres4, x_drawnInAll0_L4]) (lv_sub hl [0, 1, 2] rfl)

def x_topicsInHand0 (σ : gM) (g : Nat) : Int32 := (j_bitCount (σ g 5))
def rm_yX0_topicsInHand : Room := { frames := 1, cells := 0, slots := 0, locals := 20 }
set_option maxHeartbeats 4000000 in
set_option maxRecDepth 100000 in
theorem c_yX0_topicsInHand (l : Launch) (G : gG) (ad : Nat → Nat) (hI : gI G.2.2.1 12 ad) (σ : gM) (g : Nat) (hg : g < 8) : gRead l yX0_topicsInHand cX0_topicsInHand 2 (some .int) rm_yX0_topicsInHand G [.ref (ad 8), .int (nI g)] 12 ad (gE (shC G ad) σ) (x_topicsInHand0 σ g) := by
  refine g_start [.ref (ad 8), .int (nI g)] (by decide +kernel) (Nat.le_of_ble_eq_true rfl) ?_
  intro p e s m below meth c ls B Z hl
  obtain ⟨C, hr, hlk⟩ := B
  have hx := C.1
  have hb := C.2.1
  obtain ⟨hX, hP⟩ := Z
  have hS : va_S (gA 12 ad) s.heap s.heap [] := va_S.rf
  have hl : lv_has ls 2 [(0, .ref (ad 8)), (1, .int (nI g))] := hl
  refine lv_aload_n hx hb dX0_topicsInHand_0 rfl (lv_at hl 0 rfl) ?_
  refine g_get fd_RX0_11 C hX hP 8 (by decide) (shC_8 G ad _) (v := .ref (ad 11)) rfl dX0_topicsInHand_1 ?_
  refine lv_iload_n hx hb dX0_topicsInHand_4 rfl (lv_at hl 1 rfl) ?_
  refine g_aald (t0 := 2) C hX hP 11 (by decide) (shC_11 G ad _) rfl g (by omega) (by decide) rfl dX0_topicsInHand_5 ?_
  refine g_get fd_RX0_70 C hX hP g (by omega) (shC_g G ad (by omega) _) (v := .int (σ g 5)) rfl dX0_topicsInHand_6 ?_
  refine g_rd (g_runS (As := [.int (σ g 5)]) (rest := []) ky_yJ6_bitCount_0f7a4 lk_RX0_98 C (c_yJ6_bitCount_0f7a4 l (σ g 5)) ⟨rfl, rfl, by decide, by decide⟩ rfl hl.1 rfl (Nat.le_of_ble_eq_true rfl) ⟨Nat.zero_le _, Nat.zero_le _⟩ dX0_topicsInHand_9) ?_
  exact g_iret C hr hlk rfl (by rw [x_topicsInHand0]) rfl rfl dX0_topicsInHand_12

def x_wisest0_L6 (σ : gM) : Nat → Nat → Int32 → Int32 → Int32
  | 0, i, best, most => best
  | n6 + 1, i, best, most => if (x_topicsInHand0 σ i) ≤ most then (x_wisest0_L6 σ n6 (i + 1) best most) else (x_wisest0_L6 σ n6 (i + 1) (nI i) (x_topicsInHand0 σ i))
def x_wisest0 (σ : gM) : Int32 := (x_wisest0_L6 σ (nN (σ 8 0)) 0 (-1) (-1))
def rm_yX0_wisest : Room := { frames := 2, cells := 0, slots := 0, locals := 41 }
set_option maxHeartbeats 4000000 in
set_option maxRecDepth 100000 in
theorem c_yX0_wisest (l : Launch) (G : gG) (ad : Nat → Nat) (hI : gI G.2.2.1 12 ad) (σ : gM) (N : Nat) (hN : N ≤ 8) (hs : σ 8 0 = nI N) : gRead l yX0_wisest cX0_wisest 5 (some .int) rm_yX0_wisest G [.ref (ad 8)] 12 ad (gE (shC G ad) σ) (x_wisest0 σ) := by
  refine g_start [.ref (ad 8)] (by decide +kernel) (Nat.le_of_ble_eq_true rfl) ?_
  intro p e s m below meth c ls B Z hl
  obtain ⟨C, hr, hlk⟩ := B
  have hx := C.1
  have hb := C.2.1
  obtain ⟨hX, hP⟩ := Z
  have hS : va_S (gA 12 ad) s.heap s.heap [] := va_S.rf
  have hl : lv_has ls 5 [(0, .ref (ad 8))] := hl
  refine lv_iconst (v := (-1)) hx hb dX0_wisest_0 (by decide) ?_
  refine lv_istore_n (lv' := [(1, .int (-1)), (0, .ref (ad 8))]) hx hb dX0_wisest_1 rfl hl (by decide) rfl (fun ls hl => ?_)
  refine lv_iconst (v := (-1)) hx hb dX0_wisest_2 (by decide) ?_
  refine lv_istore_n (lv' := [(2, .int (-1)), (1, .int (-1)), (0, .ref (ad 8))]) hx hb dX0_wisest_3 rfl hl (by decide) rfl (fun ls hl => ?_)
  refine lv_iconst (v := 0) hx hb dX0_wisest_4 (by decide) ?_
  refine lv_istore_n (lv' := [(3, .int 0), (2, .int (-1)), (1, .int (-1)), (0, .ref (ad 8))]) hx hb dX0_wisest_5 rfl hl (by decide) rfl (fun ls hl => ?_)
  suffices loop6 : ∀ (n6 : Nat) (i : Nat) (best : Int32) (most : Int32) (ls : Array Slot), (i + n6 = N) → x_wisest0 σ = (x_wisest0_L6 σ n6 i best most) → lv_has ls 5 [(3, .int (nI i)), (2, .int most), (1, .int best), (0, .ref (ad 8))] → W p l e rm_yX0_wisest s m ([.ref (ad 8)] : List Value).toArray below meth c s.heap [] 0 0 (MQ below (vp_Si (fun x => x = x_wisest0 σ)) ([.ref (ad 8)] : List Value).toArray s 0 0 (fun _ => False)) (F0 m 6 ls []) by
    exact loop6 N 0 (-1) (-1) _ (by omega) (by rw [x_wisest0, hs, nN_nI (by omega)]) (lv_sub hl [0, 1, 2, 3] rfl)
  intro n6
  induction n6 with
  | zero =>
    intro i best most ls hi6 hres6 hl
    refine lv_iload_n hx hb dX0_wisest_6 rfl (lv_at hl 0 rfl) ?_
    refine lv_aload_n hx hb dX0_wisest_7 rfl (lv_at hl 3 rfl) ?_
    refine g_get fd_RX0_29 C hX hP 8 (by decide) (shC_8 G ad _) (v := .int (σ 8 0)) rfl dX0_wisest_8 ?_
    refine lv_as (y := (nI N)) hs ?_
    refine lv_icmp_ge (tgt := 38) hx hb dX0_wisest_11 (by decide) (fun c1 => ?_) (fun c1 => ?_)
    · refine lv_iload_n hx hb dX0_wisest_38 rfl (lv_at hl 2 rfl) ?_
      exact g_iret C hr hlk rfl (by rw [hres6, x_wisest0_L6]) rfl rfl dX0_wisest_39
    · exact absurd (show nI (N) ≤ nI i from nI_le (by omega) (by omega)) c1
  | succ n6 ih6 =>
    intro i best most ls hi6 hres6 hl
    refine lv_iload_n hx hb dX0_wisest_6 rfl (lv_at hl 0 rfl) ?_
    refine lv_aload_n hx hb dX0_wisest_7 rfl (lv_at hl 3 rfl) ?_
    refine g_get fd_RX0_29 C hX hP 8 (by decide) (shC_8 G ad _) (v := .int (σ 8 0)) rfl dX0_wisest_8 ?_
    refine lv_as (y := (nI N)) hs ?_
    refine lv_icmp_ge (tgt := 38) hx hb dX0_wisest_11 (by decide) (fun c2 => ?_) (fun c2 => ?_)
    · exact absurd (show nI (N) ≤ nI i from c2) (nI_ge (by omega) (by omega))
    · refine lv_aload_n hx hb dX0_wisest_14 rfl (lv_at hl 3 rfl) ?_
      refine lv_iload_n hx hb dX0_wisest_15 rfl (lv_at hl 0 rfl) ?_
      refine g_rd (g_runV (As := [.int (nI i)]) (rest := []) ky_yX0_topicsInHand lk_RX0_103 C hX (gS_b0 hI hS) hP 8 (c_yX0_topicsInHand l G ad hI σ i (by omega)) (by decide) (shC_8 G ad _) ⟨rfl, rfl, by decide, by decide⟩ rfl hl.1 rfl (Nat.le_of_ble_eq_true rfl) ⟨Nat.zero_le _, Nat.zero_le _⟩ dX0_wisest_16) ?_
      refine lv_istore (lv' := [(4, .int (x_topicsInHand0 σ i)), (3, .int (nI i)), (2, .int most), (1, .int best), (0, .ref (ad 8))]) hx hb dX0_wisest_19 hl (by decide) rfl (fun ls hl => ?_)
      refine lv_iload hx hb dX0_wisest_21 (lv_at hl 0 rfl) ?_
      refine lv_iload_n hx hb dX0_wisest_23 rfl (lv_at hl 2 rfl) ?_
      refine lv_icmp_le (tgt := 32) hx hb dX0_wisest_24 (by decide) (fun c3 => ?_) (fun c3 => ?_)
      · refine lv_iinc (v := (nI (i + 1))) (lv' := [(3, .int (nI (i + 1))), (4, .int (x_topicsInHand0 σ i)), (2, .int most), (1, .int best), (0, .ref (ad 8))]) hx hb dX0_wisest_32 hl (k := 1) rfl (by exact nI_1 _) (by decide) rfl (fun ls hl => ?_)
        refine lv_goto (tgt := 6) hx hb dX0_wisest_35 (by decide) ?_
        exact ih6 (i + 1) best most _ (by omega) (by rw [hres6, x_wisest0_L6, if_pos c3]) (lv_sub hl [0, 2, 3, 4] rfl)
      · refine lv_iload_n hx hb dX0_wisest_27 rfl (lv_at hl 1 rfl) ?_
        refine lv_istore_n (lv' := [(1, .int (nI i)), (4, .int (x_topicsInHand0 σ i)), (3, .int (nI i)), (2, .int most), (0, .ref (ad 8))]) hx hb dX0_wisest_28 rfl hl (by decide) rfl (fun ls hl => ?_)
        refine lv_iload hx hb dX0_wisest_29 (lv_at hl 1 rfl) ?_
        refine lv_istore_n (lv' := [(2, .int (x_topicsInHand0 σ i)), (1, .int (nI i)), (4, .int (x_topicsInHand0 σ i)), (3, .int (nI i)), (0, .ref (ad 8))]) hx hb dX0_wisest_31 rfl hl (by decide) rfl (fun ls hl => ?_)
        refine lv_iinc (v := (nI (i + 1))) (lv' := [(3, .int (nI (i + 1))), (2, .int (x_topicsInHand0 σ i)), (1, .int (nI i)), (4, .int (x_topicsInHand0 σ i)), (0, .ref (ad 8))]) hx hb dX0_wisest_32 hl (k := 3) rfl (by exact nI_1 _) (by decide) rfl (fun ls hl => ?_)
        refine lv_goto (tgt := 6) hx hb dX0_wisest_35 (by decide) ?_
        exact ih6 (i + 1) (nI i) (x_topicsInHand0 σ i) _ (by omega) (by rw [hres6, x_wisest0_L6, if_neg c3]) (lv_sub hl [0, 1, 2, 4] rfl)

def x_spotsThatHold0_L4 (σ : gM) : Nat → Nat → Int32 → Int32
  | 0, i, acc => acc
  | n4 + 1, i, acc => if (σ 10 i) = (-1) then (x_spotsThatHold0_L4 σ n4 (i + 1) acc) else (x_spotsThatHold0_L4 σ n4 (i + 1) (acc + 1))
def x_spotsThatHold0 (σ : gM) : Int32 := (x_spotsThatHold0_L4 σ 10 0 0)
def rm_yX0_spotsThatHold : Room := { frames := 0, cells := 0, slots := 0, locals := 0 }
set_option maxHeartbeats 4000000 in
set_option maxRecDepth 100000 in
theorem c_yX0_spotsThatHold (l : Launch) (G : gG) (ad : Nat → Nat) (hI : gI G.2.2.1 12 ad) (σ : gM) : gRead l yX0_spotsThatHold cX0_spotsThatHold 3 (some .int) rm_yX0_spotsThatHold G [.ref (ad 8)] 12 ad (gE (shC G ad) σ) (x_spotsThatHold0 σ) := by
  refine g_start [.ref (ad 8)] (by decide +kernel) (Nat.le_of_ble_eq_true rfl) ?_
  intro p e s m below meth c ls B Z hl
  obtain ⟨C, hr, hlk⟩ := B
  have hx := C.1
  have hb := C.2.1
  obtain ⟨hX, hP⟩ := Z
  have hS : va_S (gA 12 ad) s.heap s.heap [] := va_S.rf
  have hl : lv_has ls 3 [(0, .ref (ad 8))] := hl
  refine lv_iconst (v := 0) hx hb dX0_spotsThatHold_0 (by decide) ?_
  refine lv_istore_n (lv' := [(1, .int 0), (0, .ref (ad 8))]) hx hb dX0_spotsThatHold_1 rfl hl (by decide) rfl (fun ls hl => ?_)
  refine lv_iconst (v := 0) hx hb dX0_spotsThatHold_2 (by decide) ?_
  refine lv_istore_n (lv' := [(2, .int 0), (1, .int 0), (0, .ref (ad 8))]) hx hb dX0_spotsThatHold_3 rfl hl (by decide) rfl (fun ls hl => ?_)
  suffices loop4 : ∀ (n4 : Nat) (i : Nat) (acc : Int32) (ls : Array Slot), (i + n4 = 10) → x_spotsThatHold0 σ = (x_spotsThatHold0_L4 σ n4 i acc) → lv_has ls 3 [(2, .int (nI i)), (1, .int acc), (0, .ref (ad 8))] → W p l e rm_yX0_spotsThatHold s m ([.ref (ad 8)] : List Value).toArray below meth c s.heap [] 0 0 (MQ below (vp_Si (fun x => x = x_spotsThatHold0 σ)) ([.ref (ad 8)] : List Value).toArray s 0 0 (fun _ => False)) (F0 m 4 ls []) by
    exact loop4 10 0 0 _ (by omega) (by rw [x_spotsThatHold0]) (lv_sub hl [0, 1, 2] rfl)
  intro n4
  induction n4 with
  | zero =>
    intro i acc ls hi4 hres4 hl
    refine lv_iload_n hx hb dX0_spotsThatHold_4 rfl (lv_at hl 0 rfl) ?_
    refine lv_bipush (v := 10) hx hb dX0_spotsThatHold_5 (by decide) ?_
    refine lv_icmp_ge (tgt := 29) hx hb dX0_spotsThatHold_7 (by decide) (fun c1 => ?_) (fun c1 => ?_)
    · refine lv_iload_n hx hb dX0_spotsThatHold_29 rfl (lv_at hl 1 rfl) ?_
      exact g_iret C hr hlk rfl (by rw [hres4, x_spotsThatHold0_L4]) rfl rfl dX0_spotsThatHold_30
    · exact absurd (show nI (10) ≤ nI i from nI_le (by omega) (by omega)) c1
  | succ n4 ih4 =>
    intro i acc ls hi4 hres4 hl
    refine lv_iload_n hx hb dX0_spotsThatHold_4 rfl (lv_at hl 0 rfl) ?_
    refine lv_bipush (v := 10) hx hb dX0_spotsThatHold_5 (by decide) ?_
    refine lv_icmp_ge (tgt := 29) hx hb dX0_spotsThatHold_7 (by decide) (fun c2 => ?_) (fun c2 => ?_)
    · exact absurd (show nI (10) ≤ nI i from c2) (nI_ge (by omega) (by omega))
    · refine lv_aload_n hx hb dX0_spotsThatHold_10 rfl (lv_at hl 2 rfl) ?_
      refine g_get fd_RX0_26 C hX hP 8 (by decide) (shC_8 G ad _) (v := .ref (ad 10)) rfl dX0_spotsThatHold_11 ?_
      refine lv_iload_n hx hb dX0_spotsThatHold_14 rfl (lv_at hl 0 rfl) ?_
      refine g_iald C hX hP 10 (by decide) (shC_10 G ad _) i (by omega) (by decide) dX0_spotsThatHold_15 ?_
      refine lv_iconst (v := (-1)) hx hb dX0_spotsThatHold_16 (by decide) ?_
      refine lv_icmp_eq (tgt := 23) hx hb dX0_spotsThatHold_17 (by decide) (fun c3 => ?_) (fun c3 => ?_)
      · refine lv_iinc (v := (nI (i + 1))) (lv' := [(2, .int (nI (i + 1))), (1, .int acc), (0, .ref (ad 8))]) hx hb dX0_spotsThatHold_23 hl (k := 0) rfl (by exact nI_1 _) (by decide) rfl (fun ls hl => ?_)
        refine lv_goto (tgt := 4) hx hb dX0_spotsThatHold_26 (by decide) ?_
        exact ih4 (i + 1) acc _ (by omega) (by rw [hres4, x_spotsThatHold0_L4, if_pos c3]) (lv_sub hl [0, 1, 2] rfl)
      · refine lv_iinc (v := (acc + 1)) (lv' := [(1, .int (acc + 1)), (2, .int (nI i)), (0, .ref (ad 8))]) hx hb dX0_spotsThatHold_20 hl (k := 1) rfl rfl (by decide) rfl (fun ls hl => ?_)
        refine lv_iinc (v := (nI (i + 1))) (lv' := [(2, .int (nI (i + 1))), (1, .int (acc + 1)), (0, .ref (ad 8))]) hx hb dX0_spotsThatHold_23 hl (k := 1) rfl (by exact nI_1 _) (by decide) rfl (fun ls hl => ?_)
        refine lv_goto (tgt := 4) hx hb dX0_spotsThatHold_26 (by decide) ?_
        exact ih4 (i + 1) (acc + 1) _ (by omega) (by rw [hres4, x_spotsThatHold0_L4, if_neg c3]) (lv_sub hl [0, 1, 2] rfl)

def x_needOf0 (σ : gM) (g : Nat) : Int32 := if ((x_lyingIn0 σ (σ g 1) 0) &&& ((jshl 1 (nI g)) ^^^ (-1))) = 0 then (x_needs1 (mget σ g) 0) else (x_needs1 (mget σ g) 1)
def rm_yX0_needOf : Room := { frames := 2, cells := 0, slots := 0, locals := 45 }
set_option maxHeartbeats 4000000 in
set_option maxRecDepth 100000 in
theorem c_yX0_needOf (l : Launch) (G : gG) (ad : Nat → Nat) (hI : gI G.2.2.1 12 ad) (σ : gM) (g : Nat) (N : Nat) (hN : N ≤ 8) (hs : σ 8 0 = nI N) (hg : g < 8) : gRead l yX0_needOf cX0_needOf 3 (some .int) rm_yX0_needOf G [.ref (ad 8), .int (nI g)] 12 ad (gE (shC G ad) σ) (x_needOf0 σ g) := by
  refine g_start [.ref (ad 8), .int (nI g)] (by decide +kernel) (Nat.le_of_ble_eq_true rfl) ?_
  intro p e s m below meth c ls B Z hl
  obtain ⟨C, hr, hlk⟩ := B
  have hx := C.1
  have hb := C.2.1
  obtain ⟨hX, hP⟩ := Z
  have hS : va_S (gA 12 ad) s.heap s.heap [] := va_S.rf
  have hl : lv_has ls 3 [(0, .ref (ad 8)), (1, .int (nI g))] := hl
  refine lv_aload_n hx hb dX0_needOf_0 rfl (lv_at hl 0 rfl) ?_
  refine lv_aload_n hx hb dX0_needOf_1 rfl (lv_at hl 0 rfl) ?_
  refine g_get fd_RX0_11 C hX hP 8 (by decide) (shC_8 G ad _) (v := .ref (ad 11)) rfl dX0_needOf_2 ?_
  refine lv_iload_n hx hb dX0_needOf_5 rfl (lv_at hl 1 rfl) ?_
  refine g_aald (t0 := 2) C hX hP 11 (by decide) (shC_11 G ad _) rfl g (by omega) (by decide) rfl dX0_needOf_6 ?_
  refine g_get fd_RX0_57 C hX hP g (by omega) (shC_g G ad (by omega) _) (v := .int (σ g 1)) rfl dX0_needOf_7 ?_
  refine lv_iconst (v := 0) hx hb dX0_needOf_10 (by decide) ?_
  refine g_rd (g_runV (As := [.int (σ g 1), .int 0]) (rest := []) ky_yX0_lyingIn lk_RX0_106 C hX (gS_b0 hI hS) hP 8 (c_yX0_lyingIn l G ad hI σ (σ g 1) 0 N hN hs) (by decide) (shC_8 G ad _) ⟨rfl, rfl, by decide, by decide⟩ rfl hl.1 rfl (Nat.le_of_ble_eq_true rfl) ⟨Nat.zero_le _, Nat.zero_le _⟩ dX0_needOf_11) ?_
  refine lv_iconst (v := 1) hx hb dX0_needOf_14 (by decide) ?_
  refine lv_iload_n hx hb dX0_needOf_15 rfl (lv_at hl 1 rfl) ?_
  refine g_ishl hx hb dX0_needOf_16 ?_
  refine lv_iconst (v := (-1)) hx hb dX0_needOf_17 (by decide) ?_
  refine lv_ixor hx hb dX0_needOf_18 ?_
  refine lv_iand hx hb dX0_needOf_19 ?_
  refine lv_istore_n (lv' := [(2, .int ((x_lyingIn0 σ (σ g 1) 0) &&& ((jshl 1 (nI g)) ^^^ (-1)))), (0, .ref (ad 8)), (1, .int (nI g))]) hx hb dX0_needOf_20 rfl hl (by decide) rfl (fun ls hl => ?_)
  refine lv_aload_n hx hb dX0_needOf_21 rfl (lv_at hl 1 rfl) ?_
  refine g_get fd_RX0_11 C hX hP 8 (by decide) (shC_8 G ad _) (v := .ref (ad 11)) rfl dX0_needOf_22 ?_
  refine lv_iload_n hx hb dX0_needOf_25 rfl (lv_at hl 2 rfl) ?_
  refine g_aald (t0 := 2) C hX hP 11 (by decide) (shC_11 G ad _) rfl g (by omega) (by decide) rfl dX0_needOf_26 ?_
  refine lv_iload_n hx hb dX0_needOf_27 rfl (lv_at hl 0 rfl) ?_
  refine lv_if_eq (tgt := 35) hx hb dX0_needOf_28 (by decide) (fun c1 => ?_) (fun c1 => ?_)
  · refine lv_iconst (v := 0) hx hb dX0_needOf_35 (by decide) ?_
    refine g_rd (g_runV (As := [.int 0]) (rest := []) ky_yX1_needs lk_RX0_110 C hX (gS_b0 hI hS) (hP.sub (sh1 := shG) g 1 (by omega) (shC_sub G ad (by omega))) 0 (c_yX1_needs l G (fun q_ => ad (g + q_)) (hI.sub (m := 1) g (by omega)) (mget σ g) 0) (by decide) (shG_g _) ⟨rfl, rfl, by decide, by decide⟩ rfl hl.1 rfl (Nat.le_of_ble_eq_true rfl) ⟨Nat.zero_le _, Nat.zero_le _⟩ dX0_needOf_36) ?_
    exact g_iret C hr hlk rfl (by rw [x_needOf0, if_pos c1]) rfl rfl dX0_needOf_39
  · refine lv_iconst (v := 1) hx hb dX0_needOf_31 (by decide) ?_
    refine lv_goto (tgt := 36) hx hb dX0_needOf_32 (by decide) ?_
    refine g_rd (g_runV (As := [.int 1]) (rest := []) ky_yX1_needs lk_RX0_110 C hX (gS_b0 hI hS) (hP.sub (sh1 := shG) g 1 (by omega) (shC_sub G ad (by omega))) 0 (c_yX1_needs l G (fun q_ => ad (g + q_)) (hI.sub (m := 1) g (by omega)) (mget σ g) 1) (by decide) (shG_g _) ⟨rfl, rfl, by decide, by decide⟩ rfl hl.1 rfl (Nat.le_of_ble_eq_true rfl) ⟨Nat.zero_le _, Nat.zero_le _⟩ dX0_needOf_36) ?_
    exact g_iret C hr hlk rfl (by rw [x_needOf0, if_neg c1]) rfl rfl dX0_needOf_39

def x_hearersOf0_L32 (σ : gM) (saying : Int32) (away : Int32) : Nat → Nat → Int32 → Int32
  | 0, i, acc => acc
  | n32 + 1, i, acc => if (x_isIn (nI i) (x_lyingIn0 σ (x_roomOf saying) away)) = 0 then (x_hearersOf0_L32 σ saying away n32 (i + 1) acc) else (if ((x_lyingIn0 σ (x_roomOf saying) away) &&& ((jshl 1 (nI i)) ^^^ (-1))) = 0 then (if (j_max 0 ((x_loudOf saying) - (x_hushOf0 σ (x_lyingIn0 σ (x_roomOf saying) away)))) < (x_needs1 (mget σ i) 0) then (x_hearersOf0_L32 σ saying away n32 (i + 1) acc) else (x_hearersOf0_L32 σ saying away n32 (i + 1) (acc ||| (jshl 1 (nI i))))) else (if (j_max 0 ((x_loudOf saying) - (x_hushOf0 σ (x_lyingIn0 σ (x_roomOf saying) away)))) < (x_needs1 (mget σ i) 1) then (x_hearersOf0_L32 σ saying away n32 (i + 1) acc) else (x_hearersOf0_L32 σ saying away n32 (i + 1) (acc ||| (jshl 1 (nI i))))))
def x_hearersOf0 (σ : gM) (saying : Int32) (away : Int32) : Int32 := (x_hearersOf0_L32 σ saying away (nN (σ 8 0)) 0 0)
def rm_yX0_hearersOf : Room := { frames := 2, cells := 0, slots := 0, locals := 45 }
set_option maxHeartbeats 4000000 in
set_option maxRecDepth 100000 in
theorem c_yX0_hearersOf (l : Launch) (G : gG) (ad : Nat → Nat) (hI : gI G.2.2.1 12 ad) (σ : gM) (saying : Int32) (away : Int32) (N : Nat) (hN : N ≤ 8) (hs : σ 8 0 = nI N) : gRead l yX0_hearersOf cX0_hearersOf 8 (some .int) rm_yX0_hearersOf G [.ref (ad 8), .int saying, .int away] 12 ad (gE (shC G ad) σ) (x_hearersOf0 σ saying away) := by
  refine g_start [.ref (ad 8), .int saying, .int away] (by decide +kernel) (Nat.le_of_ble_eq_true rfl) ?_
  intro p e s m below meth c ls B Z hl
  obtain ⟨C, hr, hlk⟩ := B
  have hx := C.1
  have hb := C.2.1
  obtain ⟨hX, hP⟩ := Z
  have hS : va_S (gA 12 ad) s.heap s.heap [] := va_S.rf
  have hl : lv_has ls 8 [(0, .ref (ad 8)), (1, .int saying), (2, .int away)] := hl
  refine lv_aload_n hx hb dX0_hearersOf_0 rfl (lv_at hl 0 rfl) ?_
  refine lv_iload_n hx hb dX0_hearersOf_1 rfl (lv_at hl 1 rfl) ?_
  refine g_rd (g_runSN (As := [.int saying]) (rest := [.ref (ad 8)]) ky_yX6_roomOf ln_RX0_89 hX C (c_yX6_roomOf l saying) ⟨rfl, rfl, by decide, by decide⟩ rfl hl.1 rfl (Nat.le_of_ble_eq_true rfl) ⟨Nat.zero_le _, Nat.zero_le _⟩ dX0_hearersOf_2) ?_
  refine lv_iload_n hx hb dX0_hearersOf_5 rfl (lv_at hl 2 rfl) ?_
  refine g_rd (g_runV (As := [.int (x_roomOf saying), .int away]) (rest := []) ky_yX0_lyingIn lk_RX0_106 C hX (gS_b0 hI hS) hP 8 (c_yX0_lyingIn l G ad hI σ (x_roomOf saying) away N hN hs) (by decide) (shC_8 G ad _) ⟨rfl, rfl, by decide, by decide⟩ rfl hl.1 rfl (Nat.le_of_ble_eq_true rfl) ⟨Nat.zero_le _, Nat.zero_le _⟩ dX0_hearersOf_6) ?_
  refine lv_istore_n (lv' := [(3, .int (x_lyingIn0 σ (x_roomOf saying) away)), (0, .ref (ad 8)), (1, .int saying), (2, .int away)]) hx hb dX0_hearersOf_9 rfl hl (by decide) rfl (fun ls hl => ?_)
  refine lv_iconst (v := 0) hx hb dX0_hearersOf_10 (by decide) ?_
  refine lv_iload_n hx hb dX0_hearersOf_11 rfl (lv_at hl 2 rfl) ?_
  refine g_rd (g_runSN (As := [.int saying]) (rest := [.int 0]) ky_yX6_loudOf ln_RX0_114 hX C (c_yX6_loudOf l saying) ⟨rfl, rfl, by decide, by decide⟩ rfl hl.1 rfl (Nat.le_of_ble_eq_true rfl) ⟨Nat.zero_le _, Nat.zero_le _⟩ dX0_hearersOf_12) ?_
  refine lv_aload_n hx hb dX0_hearersOf_15 rfl (lv_at hl 1 rfl) ?_
  refine lv_iload_n hx hb dX0_hearersOf_16 rfl (lv_at hl 0 rfl) ?_
  refine g_rd (g_runV (As := [.int (x_lyingIn0 σ (x_roomOf saying) away)]) (rest := [.int (x_loudOf saying), .int 0]) ky_yX0_hushOf lk_RX0_117 C hX (gS_b0 hI hS) hP 8 (c_yX0_hushOf l G ad hI σ (x_lyingIn0 σ (x_roomOf saying) away) N hN hs) (by decide) (shC_8 G ad _) ⟨rfl, rfl, by decide, by decide⟩ rfl hl.1 rfl (Nat.le_of_ble_eq_true rfl) ⟨Nat.zero_le _, Nat.zero_le _⟩ dX0_hearersOf_17) ?_
  refine lv_isub hx hb dX0_hearersOf_20 ?_
  refine g_rd (g_runS (As := [.int 0, .int ((x_loudOf saying) - (x_hushOf0 σ (x_lyingIn0 σ (x_roomOf saying) away)))]) (rest := []) ky_yJ9_max_7cf53 lk_RX0_120 C (c_yJ9_max_7cf53 l 0 ((x_loudOf saying) - (x_hushOf0 σ (x_lyingIn0 σ (x_roomOf saying) away)))) ⟨rfl, rfl, by decide, by decide⟩ rfl hl.1 rfl (Nat.le_of_ble_eq_true rfl) ⟨Nat.zero_le _, Nat.zero_le _⟩ dX0_hearersOf_21) ?_
  refine lv_istore (lv' := [(4, .int (j_max 0 ((x_loudOf saying) - (x_hushOf0 σ (x_lyingIn0 σ (x_roomOf saying) away))))), (3, .int (x_lyingIn0 σ (x_roomOf saying) away)), (0, .ref (ad 8)), (1, .int saying), (2, .int away)]) hx hb dX0_hearersOf_24 hl (by decide) rfl (fun ls hl => ?_)
  refine lv_iconst (v := 0) hx hb dX0_hearersOf_26 (by decide) ?_
  refine lv_istore (lv' := [(5, .int 0), (4, .int (j_max 0 ((x_loudOf saying) - (x_hushOf0 σ (x_lyingIn0 σ (x_roomOf saying) away))))), (3, .int (x_lyingIn0 σ (x_roomOf saying) away)), (0, .ref (ad 8)), (1, .int saying), (2, .int away)]) hx hb dX0_hearersOf_27 hl (by decide) rfl (fun ls hl => ?_)
  refine lv_iconst (v := 0) hx hb dX0_hearersOf_29 (by decide) ?_
  refine lv_istore (lv' := [(6, .int 0), (5, .int 0), (4, .int (j_max 0 ((x_loudOf saying) - (x_hushOf0 σ (x_lyingIn0 σ (x_roomOf saying) away))))), (3, .int (x_lyingIn0 σ (x_roomOf saying) away)), (0, .ref (ad 8)), (1, .int saying), (2, .int away)]) hx hb dX0_hearersOf_30 hl (by decide) rfl (fun ls hl => ?_)
  suffices loop32 : ∀ (n32 : Nat) (i : Nat) (acc : Int32) (ls : Array Slot), (i + n32 = N) → x_hearersOf0 σ saying away = (x_hearersOf0_L32 σ saying away n32 i acc) → lv_has ls 8 [(6, .int (nI i)), (5, .int acc), (4, .int (j_max 0 ((x_loudOf saying) - (x_hushOf0 σ (x_lyingIn0 σ (x_roomOf saying) away))))), (3, .int (x_lyingIn0 σ (x_roomOf saying) away)), (0, .ref (ad 8)), (1, .int saying), (2, .int away)] → W p l e rm_yX0_hearersOf s m ([.ref (ad 8), .int saying, .int away] : List Value).toArray below meth c s.heap [] 0 0 (MQ below (vp_Si (fun x => x = x_hearersOf0 σ saying away)) ([.ref (ad 8), .int saying, .int away] : List Value).toArray s 0 0 (fun _ => False)) (F0 m 32 ls []) by
    exact loop32 N 0 0 _ (by omega) (by rw [x_hearersOf0, hs, nN_nI (by omega)]) (lv_sub hl [0, 1, 2, 3, 4, 5, 6] rfl)
  intro n32
  induction n32 with
  | zero =>
    intro i acc ls hi32 hres32 hl
    refine lv_iload hx hb dX0_hearersOf_32 (lv_at hl 0 rfl) ?_
    refine lv_aload_n hx hb dX0_hearersOf_34 rfl (lv_at hl 4 rfl) ?_
    refine g_get fd_RX0_29 C hX hP 8 (by decide) (shC_8 G ad _) (v := .int (σ 8 0)) rfl dX0_hearersOf_35 ?_
    refine lv_as (y := (nI N)) hs ?_
    refine lv_icmp_ge (tgt := 98) hx hb dX0_hearersOf_38 (by decide) (fun c1 => ?_) (fun c1 => ?_)
    · refine lv_iload hx hb dX0_hearersOf_98 (lv_at hl 1 rfl) ?_
      exact g_iret C hr hlk rfl (by rw [hres32, x_hearersOf0_L32]) rfl rfl dX0_hearersOf_100
    · exact absurd (show nI (N) ≤ nI i from nI_le (by omega) (by omega)) c1
  | succ n32 ih32 =>
    intro i acc ls hi32 hres32 hl
    refine lv_iload hx hb dX0_hearersOf_32 (lv_at hl 0 rfl) ?_
    refine lv_aload_n hx hb dX0_hearersOf_34 rfl (lv_at hl 4 rfl) ?_
    refine g_get fd_RX0_29 C hX hP 8 (by decide) (shC_8 G ad _) (v := .int (σ 8 0)) rfl dX0_hearersOf_35 ?_
    refine lv_as (y := (nI N)) hs ?_
    refine lv_icmp_ge (tgt := 98) hx hb dX0_hearersOf_38 (by decide) (fun c2 => ?_) (fun c2 => ?_)
    · exact absurd (show nI (N) ≤ nI i from c2) (nI_ge (by omega) (by omega))
    · refine lv_iconst (v := 1) hx hb dX0_hearersOf_41 (by decide) ?_
      refine lv_iload hx hb dX0_hearersOf_42 (lv_at hl 0 rfl) ?_
      refine g_ishl hx hb dX0_hearersOf_44 ?_
      refine lv_istore (lv' := [(7, .int (jshl 1 (nI i))), (6, .int (nI i)), (5, .int acc), (4, .int (j_max 0 ((x_loudOf saying) - (x_hushOf0 σ (x_lyingIn0 σ (x_roomOf saying) away))))), (3, .int (x_lyingIn0 σ (x_roomOf saying) away)), (0, .ref (ad 8)), (1, .int saying), (2, .int away)]) hx hb dX0_hearersOf_45 hl (by decide) rfl (fun ls hl => ?_)
      refine lv_iload hx hb dX0_hearersOf_47 (lv_at hl 1 rfl) ?_
      refine lv_iload_n hx hb dX0_hearersOf_49 rfl (lv_at hl 4 rfl) ?_
      refine g_rd (g_runSN (As := [.int (nI i), .int (x_lyingIn0 σ (x_roomOf saying) away)]) (rest := []) ky_yX6_isIn ln_RX0_60 hX C (c_yX6_isIn l (nI i) (x_lyingIn0 σ (x_roomOf saying) away)) ⟨rfl, rfl, by decide, by decide⟩ rfl hl.1 rfl (Nat.le_of_ble_eq_true rfl) ⟨Nat.zero_le _, Nat.zero_le _⟩ dX0_hearersOf_50) ?_
      refine lv_if_eq (tgt := 92) hx hb dX0_hearersOf_53 (by decide) (fun c3 => ?_) (fun c3 => ?_)
      · refine lv_iinc (v := (nI (i + 1))) (lv' := [(6, .int (nI (i + 1))), (7, .int (jshl 1 (nI i))), (5, .int acc), (4, .int (j_max 0 ((x_loudOf saying) - (x_hushOf0 σ (x_lyingIn0 σ (x_roomOf saying) away))))), (3, .int (x_lyingIn0 σ (x_roomOf saying) away)), (0, .ref (ad 8)), (1, .int saying), (2, .int away)]) hx hb dX0_hearersOf_92 hl (k := 1) rfl (by exact nI_1 _) (by decide) rfl (fun ls hl => ?_)
        refine lv_goto (tgt := 32) hx hb dX0_hearersOf_95 (by decide) ?_
        exact ih32 (i + 1) acc _ (by omega) (by rw [hres32, x_hearersOf0_L32, if_pos c3]) (lv_sub hl [0, 2, 3, 4, 5, 6, 7] rfl)
      · refine lv_aload_n hx hb dX0_hearersOf_56 rfl (lv_at hl 5 rfl) ?_
        refine g_get fd_RX0_11 C hX hP 8 (by decide) (shC_8 G ad _) (v := .ref (ad 11)) rfl dX0_hearersOf_57 ?_
        refine lv_iload hx hb dX0_hearersOf_60 (lv_at hl 1 rfl) ?_
        refine g_aald (t0 := 2) C hX hP 11 (by decide) (shC_11 G ad _) rfl i (by omega) (by decide) rfl dX0_hearersOf_62 ?_
        refine lv_iload_n hx hb dX0_hearersOf_63 rfl (lv_at hl 4 rfl) ?_
        refine lv_iload hx hb dX0_hearersOf_64 (lv_at hl 0 rfl) ?_
        refine lv_iconst (v := (-1)) hx hb dX0_hearersOf_66 (by decide) ?_
        refine lv_ixor hx hb dX0_hearersOf_67 ?_
        refine lv_iand hx hb dX0_hearersOf_68 ?_
        refine lv_if_eq (tgt := 76) hx hb dX0_hearersOf_69 (by decide) (fun c4 => ?_) (fun c4 => ?_)
        · refine lv_iconst (v := 0) hx hb dX0_hearersOf_76 (by decide) ?_
          refine g_rd (g_runV (As := [.int 0]) (rest := []) ky_yX1_needs lk_RX0_110 C hX (gS_b0 hI hS) (hP.sub (sh1 := shG) i 1 (by omega) (shC_sub G ad (by omega))) 0 (c_yX1_needs l G (fun q_ => ad (i + q_)) (hI.sub (m := 1) i (by omega)) (mget σ i) 0) (by decide) (shG_g _) ⟨rfl, rfl, by decide, by decide⟩ rfl hl.1 rfl (Nat.le_of_ble_eq_true rfl) ⟨Nat.zero_le _, Nat.zero_le _⟩ dX0_hearersOf_77) ?_
          refine lv_iload hx hb dX0_hearersOf_80 (lv_at hl 3 rfl) ?_
          refine lv_icmp_gt (tgt := 92) hx hb dX0_hearersOf_82 (by decide) (fun c5 => ?_) (fun c5 => ?_)
          · refine lv_iinc (v := (nI (i + 1))) (lv' := [(6, .int (nI (i + 1))), (7, .int (jshl 1 (nI i))), (5, .int acc), (4, .int (j_max 0 ((x_loudOf saying) - (x_hushOf0 σ (x_lyingIn0 σ (x_roomOf saying) away))))), (3, .int (x_lyingIn0 σ (x_roomOf saying) away)), (0, .ref (ad 8)), (1, .int saying), (2, .int away)]) hx hb dX0_hearersOf_92 hl (k := 1) rfl (by exact nI_1 _) (by decide) rfl (fun ls hl => ?_)
            refine lv_goto (tgt := 32) hx hb dX0_hearersOf_95 (by decide) ?_
            exact ih32 (i + 1) acc _ (by omega) (by rw [hres32, x_hearersOf0_L32, if_neg c3, if_pos c4, if_pos c5]) (lv_sub hl [0, 2, 3, 4, 5, 6, 7] rfl)
          · refine lv_iload hx hb dX0_hearersOf_85 (lv_at hl 2 rfl) ?_
            refine lv_iload hx hb dX0_hearersOf_87 (lv_at hl 0 rfl) ?_
            refine lv_ior hx hb dX0_hearersOf_89 ?_
            refine lv_istore (lv' := [(5, .int (acc ||| (jshl 1 (nI i)))), (7, .int (jshl 1 (nI i))), (6, .int (nI i)), (4, .int (j_max 0 ((x_loudOf saying) - (x_hushOf0 σ (x_lyingIn0 σ (x_roomOf saying) away))))), (3, .int (x_lyingIn0 σ (x_roomOf saying) away)), (0, .ref (ad 8)), (1, .int saying), (2, .int away)]) hx hb dX0_hearersOf_90 hl (by decide) rfl (fun ls hl => ?_)
            refine lv_iinc (v := (nI (i + 1))) (lv' := [(6, .int (nI (i + 1))), (5, .int (acc ||| (jshl 1 (nI i)))), (7, .int (jshl 1 (nI i))), (4, .int (j_max 0 ((x_loudOf saying) - (x_hushOf0 σ (x_lyingIn0 σ (x_roomOf saying) away))))), (3, .int (x_lyingIn0 σ (x_roomOf saying) away)), (0, .ref (ad 8)), (1, .int saying), (2, .int away)]) hx hb dX0_hearersOf_92 hl (k := 2) rfl (by exact nI_1 _) (by decide) rfl (fun ls hl => ?_)
            refine lv_goto (tgt := 32) hx hb dX0_hearersOf_95 (by decide) ?_
            exact ih32 (i + 1) (acc ||| (jshl 1 (nI i))) _ (by omega) (by rw [hres32, x_hearersOf0_L32, if_neg c3, if_pos c4, if_neg c5]) (lv_sub hl [0, 1, 3, 4, 5, 6, 7] rfl)
        · refine lv_iconst (v := 1) hx hb dX0_hearersOf_72 (by decide) ?_
          refine lv_goto (tgt := 77) hx hb dX0_hearersOf_73 (by decide) ?_
          refine g_rd (g_runV (As := [.int 1]) (rest := []) ky_yX1_needs lk_RX0_110 C hX (gS_b0 hI hS) (hP.sub (sh1 := shG) i 1 (by omega) (shC_sub G ad (by omega))) 0 (c_yX1_needs l G (fun q_ => ad (i + q_)) (hI.sub (m := 1) i (by omega)) (mget σ i) 1) (by decide) (shG_g _) ⟨rfl, rfl, by decide, by decide⟩ rfl hl.1 rfl (Nat.le_of_ble_eq_true rfl) ⟨Nat.zero_le _, Nat.zero_le _⟩ dX0_hearersOf_77) ?_
          refine lv_iload hx hb dX0_hearersOf_80 (lv_at hl 3 rfl) ?_
          refine lv_icmp_gt (tgt := 92) hx hb dX0_hearersOf_82 (by decide) (fun c6 => ?_) (fun c6 => ?_)
          · refine lv_iinc (v := (nI (i + 1))) (lv' := [(6, .int (nI (i + 1))), (7, .int (jshl 1 (nI i))), (5, .int acc), (4, .int (j_max 0 ((x_loudOf saying) - (x_hushOf0 σ (x_lyingIn0 σ (x_roomOf saying) away))))), (3, .int (x_lyingIn0 σ (x_roomOf saying) away)), (0, .ref (ad 8)), (1, .int saying), (2, .int away)]) hx hb dX0_hearersOf_92 hl (k := 1) rfl (by exact nI_1 _) (by decide) rfl (fun ls hl => ?_)
            refine lv_goto (tgt := 32) hx hb dX0_hearersOf_95 (by decide) ?_
            exact ih32 (i + 1) acc _ (by omega) (by rw [hres32, x_hearersOf0_L32, if_neg c3, if_neg c4, if_pos c6]) (lv_sub hl [0, 2, 3, 4, 5, 6, 7] rfl)
          · refine lv_iload hx hb dX0_hearersOf_85 (lv_at hl 2 rfl) ?_
            refine lv_iload hx hb dX0_hearersOf_87 (lv_at hl 0 rfl) ?_
            refine lv_ior hx hb dX0_hearersOf_89 ?_
            refine lv_istore (lv' := [(5, .int (acc ||| (jshl 1 (nI i)))), (7, .int (jshl 1 (nI i))), (6, .int (nI i)), (4, .int (j_max 0 ((x_loudOf saying) - (x_hushOf0 σ (x_lyingIn0 σ (x_roomOf saying) away))))), (3, .int (x_lyingIn0 σ (x_roomOf saying) away)), (0, .ref (ad 8)), (1, .int saying), (2, .int away)]) hx hb dX0_hearersOf_90 hl (by decide) rfl (fun ls hl => ?_)
            refine lv_iinc (v := (nI (i + 1))) (lv' := [(6, .int (nI (i + 1))), (5, .int (acc ||| (jshl 1 (nI i)))), (7, .int (jshl 1 (nI i))), (4, .int (j_max 0 ((x_loudOf saying) - (x_hushOf0 σ (x_lyingIn0 σ (x_roomOf saying) away))))), (3, .int (x_lyingIn0 σ (x_roomOf saying) away)), (0, .ref (ad 8)), (1, .int saying), (2, .int away)]) hx hb dX0_hearersOf_92 hl (k := 2) rfl (by exact nI_1 _) (by decide) rfl (fun ls hl => ?_)
            refine lv_goto (tgt := 32) hx hb dX0_hearersOf_95 (by decide) ?_
            exact ih32 (i + 1) (acc ||| (jshl 1 (nI i))) _ (by omega) (by rw [hres32, x_hearersOf0_L32, if_neg c3, if_neg c4, if_neg c6]) (lv_sub hl [0, 1, 3, 4, 5, 6, 7] rfl)

def x_nextDraw0 (σ : gM) : Int32 × gM := ((jushr (((σ 8 2) * 1103515245) + 12345) 8), (mset σ 8 2 (((σ 8 2) * 1103515245) + 12345)))
def rm_yX0_nextDraw : Room := { frames := 0, cells := 0, slots := 0, locals := 0 }
set_option maxHeartbeats 4000000 in
set_option maxRecDepth 100000 in
theorem c_yX0_nextDraw (l : Launch) (G : gG) (ad : Nat → Nat) (hI : gI G.2.2.1 12 ad) (σ : gM) : gMutI l yX0_nextDraw cX0_nextDraw 1 (some .int) rm_yX0_nextDraw G [.ref (ad 8)] 12 ad (shC G ad) σ (x_nextDraw0 σ) := by
  refine g_start [.ref (ad 8)] (by decide +kernel) (Nat.le_of_ble_eq_true rfl) ?_
  intro p e s m below meth c ls B Z hl
  obtain ⟨C, hr, hlk⟩ := B
  have hx := C.1
  have hb := C.2.1
  obtain ⟨hX, hP⟩ := Z
  have hS : va_S (gA 12 ad) s.heap s.heap [] := va_S.rf
  revert hP hS
  intro hP hS
  have hl : lv_has ls 1 [(0, .ref (ad 8))] := hl
  refine lv_aload_n hx hb dX0_nextDraw_0 rfl (lv_at hl 0 rfl) ?_
  refine lv_aload_n hx hb dX0_nextDraw_1 rfl (lv_at hl 0 rfl) ?_
  refine g_get fd_RX0_36 C hX hP 8 (by decide) (shC_8 G ad _) (v := .int (σ 8 2)) rfl dX0_nextDraw_2 ?_
  refine lv_ldc hx hb C.2.2.2.1 (C.2.2.2.2 _ kc_RX0_151) dX0_nextDraw_5 ?_
  refine lv_imul hx hb dX0_nextDraw_7 ?_
  refine lv_sipush (v := 12345) hx hb dX0_nextDraw_8 (by decide) ?_
  refine lv_iadd hx hb dX0_nextDraw_11 ?_
  refine g_put fd_RX0_36 C hX hI hP hS 8 (by decide) (shC_8 G ad _) rfl rfl (Nat.le_of_ble_eq_true rfl) (upd (σ 8) 2 (((σ 8 2) * 1103515245) + 12345)) rfl dX0_nextDraw_12 (fun H locs hP hS => ?_)
  have hP : gP G.1 12 ad (gE (shC G ad) (mset σ 8 2 (((σ 8 2) * 1103515245) + 12345))) H := hP
  refine lv_aload_n hx hb dX0_nextDraw_15 rfl (lv_at hl 0 rfl) ?_
  refine g_get fd_RX0_36 C hX hP 8 (by decide) (shC_8 G ad _) (v := .int (((σ 8 2) * 1103515245) + 12345)) rfl dX0_nextDraw_16 ?_
  refine lv_bipush (v := 8) hx hb dX0_nextDraw_19 (by decide) ?_
  refine g_iushr hx hb dX0_nextDraw_21 ?_
  exact g_iretM C hr hlk rfl (by rw [x_nextDraw0]) hP hS dX0_nextDraw_22

def x_putDown0 (σ : gM) (kind : Int32) (room : Int32) : Int32 × gM := if (σ 8 0) < 8 then ((((σ 8 0) + 1) - 1), (mset (mput σ (nN (σ 8 0)) 1 (x_beNew1 (mget σ (nN (σ 8 0))) kind room)) 8 0 ((σ 8 0) + 1))) else ((-1), σ)
def rm_yX0_putDown : Room := { frames := 1, cells := 0, slots := 0, locals := 22 }
set_option maxHeartbeats 4000000 in
set_option maxRecDepth 100000 in
theorem c_yX0_putDown (l : Launch) (G : gG) (ad : Nat → Nat) (hI : gI G.2.2.1 12 ad) (σ : gM) (kind : Int32) (room : Int32) (N : Nat) (hN : N ≤ 8) (hs : σ 8 0 = nI N) : gMutI l yX0_putDown cX0_putDown 3 (some .int) rm_yX0_putDown G [.ref (ad 8), .int kind, .int room] 12 ad (shC G ad) σ (x_putDown0 σ kind room) := by
  refine g_start [.ref (ad 8), .int kind, .int room] (by decide +kernel) (Nat.le_of_ble_eq_true rfl) ?_
  intro p e s m below meth c ls B Z hl
  obtain ⟨C, hr, hlk⟩ := B
  have hx := C.1
  have hb := C.2.1
  obtain ⟨hX, hP⟩ := Z
  have hS : va_S (gA 12 ad) s.heap s.heap [] := va_S.rf
  revert hP hS
  intro hP hS
  have hl : lv_has ls 3 [(0, .ref (ad 8)), (1, .int kind), (2, .int room)] := hl
  obtain ⟨hz1, hz2⟩ := sz_of hN hs
  refine lv_aload_n hx hb dX0_putDown_0 rfl (lv_at hl 0 rfl) ?_
  refine g_get fd_RX0_29 C hX hP 8 (by decide) (shC_8 G ad _) (v := .int (σ 8 0)) rfl dX0_putDown_1 ?_
  refine lv_bipush (v := 8) hx hb dX0_putDown_4 (by decide) ?_
  refine lv_icmp_lt (tgt := 11) hx hb dX0_putDown_6 (by decide) (fun c1 => ?_) (fun c1 => ?_)
  · have hlt : N < 8 := Nat.not_le.mp (fun q => by rw [hs] at c1; exact absurd c1 (show ¬ nI N < nI 8 from nI_nlt q (by omega)))
    refine lv_aload_n hx hb dX0_putDown_11 rfl (lv_at hl 0 rfl) ?_
    refine g_get fd_RX0_11 C hX hP 8 (by decide) (shC_8 G ad _) (v := .ref (ad 11)) rfl dX0_putDown_12 ?_
    refine lv_aload_n hx hb dX0_putDown_15 rfl (lv_at hl 0 rfl) ?_
    refine g_get fd_RX0_29 C hX hP 8 (by decide) (shC_8 G ad _) (v := .int (σ 8 0)) rfl dX0_putDown_16 ?_
    refine lv_as (y := (nI (nN (σ 8 0)))) hz1 ?_
    refine g_aald (t0 := 2) C hX hP 11 (by decide) (shC_11 G ad _) rfl (nN (σ 8 0)) (by omega) (by decide) rfl dX0_putDown_19 ?_
    refine lv_iload_n hx hb dX0_putDown_20 rfl (lv_at hl 1 rfl) ?_
    refine lv_iload_n hx hb dX0_putDown_21 rfl (lv_at hl 2 rfl) ?_
    refine g_wrV (o := (nN (σ 8 0))) (m1 := 1) (by omega) (shC_sub G ad (by omega)) hI hP hS (g_runV (As := [.int kind, .int room]) (rest := []) ky_yX1_beNew lk_RX0_53 C hX (gS_b0 hI hS) (hP.sub (sh1 := shG) (nN (σ 8 0)) 1 (by omega) (shC_sub G ad (by omega))) 0 (c_yX1_beNew l G (fun q_ => ad ((nN (σ 8 0)) + q_)) (hI.sub (m := 1) (nN (σ 8 0)) (by omega)) (mget σ (nN (σ 8 0))) kind room) (by decide) (shG_g _) ⟨rfl, rfl, by decide, by decide⟩ rfl hl.1 rfl (Nat.le_of_ble_eq_true rfl) ⟨Nat.zero_le _, Nat.zero_le _⟩ dX0_putDown_22) (fun H locs hP hS => ?_)
    refine lv_aload_n hx hb dX0_putDown_25 rfl (lv_at hl 0 rfl) ?_
    refine lv_dup hx hb dX0_putDown_26 rfl ?_
    refine g_get fd_RX0_29 C hX hP 8 (by decide) (shC_8 G ad _) (v := .int ((mput σ (nN (σ 8 0)) 1 (x_beNew1 (mget σ (nN (σ 8 0))) kind room)) 8 0)) rfl dX0_putDown_27 ?_
    refine lv_as (y := (σ 8 0)) (by rw [mput_g (by omega)]) ?_
    refine lv_iconst (v := 1) hx hb dX0_putDown_30 (by decide) ?_
    refine lv_iadd hx hb dX0_putDown_31 ?_
    refine g_put fd_RX0_29 C hX hI hP hS 8 (by decide) (shC_8 G ad _) rfl rfl (Nat.le_of_ble_eq_true rfl) (upd ((mput σ (nN (σ 8 0)) 1 (x_beNew1 (mget σ (nN (σ 8 0))) kind room)) 8) 0 ((σ 8 0) + 1)) rfl dX0_putDown_32 (fun H locs hP hS => ?_)
    have hP : gP G.1 12 ad (gE (shC G ad) (mset (mput σ (nN (σ 8 0)) 1 (x_beNew1 (mget σ (nN (σ 8 0))) kind room)) 8 0 ((σ 8 0) + 1))) H := hP
    refine lv_aload_n hx hb dX0_putDown_35 rfl (lv_at hl 0 rfl) ?_
    refine g_get fd_RX0_29 C hX hP 8 (by decide) (shC_8 G ad _) (v := .int ((σ 8 0) + 1)) rfl dX0_putDown_36 ?_
    refine lv_iconst (v := 1) hx hb dX0_putDown_39 (by decide) ?_
    refine lv_isub hx hb dX0_putDown_40 ?_
    exact g_iretM C hr hlk rfl (by rw [x_putDown0, if_pos c1]) hP hS dX0_putDown_41
  · refine lv_iconst (v := (-1)) hx hb dX0_putDown_9 (by decide) ?_
    exact g_iretM C hr hlk rfl (by rw [x_putDown0, if_neg c1]) hP hS dX0_putDown_10

def x_drawSaying0 (σ : gM) : gM := (mset (x_nextDraw0 (x_nextDraw0 (x_nextDraw0 σ).2).2).2 9 (nN (x_placeOfToday0 (x_nextDraw0 (x_nextDraw0 (x_nextDraw0 σ).2).2).2)) (x_sayingOf (jrem (x_nextDraw0 σ).1 6) (jrem (x_nextDraw0 (x_nextDraw0 σ).2).1 16) (jrem (x_nextDraw0 (x_nextDraw0 (x_nextDraw0 σ).2).2).1 10)))
def rm_yX0_drawSaying : Room := { frames := 2, cells := 0, slots := 0, locals := 42 }
set_option maxHeartbeats 4000000 in
set_option maxRecDepth 100000 in
theorem c_yX0_drawSaying (l : Launch) (G : gG) (ad : Nat → Nat) (hI : gI G.2.2.1 12 ad) (σ : gM) : gMutV l yX0_drawSaying cX0_drawSaying 4 none rm_yX0_drawSaying G [.ref (ad 8)] 12 ad (shC G ad) σ (x_drawSaying0 σ) := by
  refine g_start [.ref (ad 8)] (by decide +kernel) (Nat.le_of_ble_eq_true rfl) ?_
  intro p e s m below meth c ls B Z hl
  obtain ⟨C, hr, hlk⟩ := B
  have hx := C.1
  have hb := C.2.1
  obtain ⟨hX, hP⟩ := Z
  have hS : va_S (gA 12 ad) s.heap s.heap [] := va_S.rf
  revert hP hS
  intro hP hS
  have hl : lv_has ls 4 [(0, .ref (ad 8))] := hl
  refine lv_aload_n hx hb dX0_drawSaying_0 rfl (lv_at hl 0 rfl) ?_
  refine g_wrI0 hS (g_runV (As := []) (rest := []) ky_yX0_nextDraw lk_RX0_148 C hX (gS_b0 hI hS) hP 8 (c_yX0_nextDraw l G ad hI σ ) (by decide) (shC_8 G ad _) ⟨rfl, rfl, by decide, by decide⟩ rfl hl.1 rfl (Nat.le_of_ble_eq_true rfl) ⟨Nat.zero_le _, Nat.zero_le _⟩ dX0_drawSaying_1) (fun H locs hP hS => ?_)
  refine lv_bipush (v := 6) hx hb dX0_drawSaying_4 (by decide) ?_
  refine g_irem hx hb dX0_drawSaying_6 (by decide) ?_
  refine lv_istore_n (lv' := [(1, .int (jrem (x_nextDraw0 σ).1 6)), (0, .ref (ad 8))]) hx hb dX0_drawSaying_7 rfl hl (by decide) rfl (fun ls hl => ?_)
  refine lv_aload_n hx hb dX0_drawSaying_8 rfl (lv_at hl 1 rfl) ?_
  refine g_wrI0 hS (g_runV (As := []) (rest := []) ky_yX0_nextDraw lk_RX0_148 C hX (gS_b0 hI hS) hP 8 (c_yX0_nextDraw l G ad hI (x_nextDraw0 σ).2 ) (by decide) (shC_8 G ad _) ⟨rfl, rfl, by decide, by decide⟩ rfl hl.1 rfl (Nat.le_of_ble_eq_true rfl) ⟨Nat.zero_le _, Nat.zero_le _⟩ dX0_drawSaying_9) (fun H locs hP hS => ?_)
  refine lv_bipush (v := 16) hx hb dX0_drawSaying_12 (by decide) ?_
  refine g_irem hx hb dX0_drawSaying_14 (by decide) ?_
  refine lv_istore_n (lv' := [(2, .int (jrem (x_nextDraw0 (x_nextDraw0 σ).2).1 16)), (1, .int (jrem (x_nextDraw0 σ).1 6)), (0, .ref (ad 8))]) hx hb dX0_drawSaying_15 rfl hl (by decide) rfl (fun ls hl => ?_)
  refine lv_aload_n hx hb dX0_drawSaying_16 rfl (lv_at hl 2 rfl) ?_
  refine g_wrI0 hS (g_runV (As := []) (rest := []) ky_yX0_nextDraw lk_RX0_148 C hX (gS_b0 hI hS) hP 8 (c_yX0_nextDraw l G ad hI (x_nextDraw0 (x_nextDraw0 σ).2).2 ) (by decide) (shC_8 G ad _) ⟨rfl, rfl, by decide, by decide⟩ rfl hl.1 rfl (Nat.le_of_ble_eq_true rfl) ⟨Nat.zero_le _, Nat.zero_le _⟩ dX0_drawSaying_17) (fun H locs hP hS => ?_)
  refine lv_bipush (v := 10) hx hb dX0_drawSaying_20 (by decide) ?_
  refine g_irem hx hb dX0_drawSaying_22 (by decide) ?_
  refine lv_istore_n (lv' := [(3, .int (jrem (x_nextDraw0 (x_nextDraw0 (x_nextDraw0 σ).2).2).1 10)), (2, .int (jrem (x_nextDraw0 (x_nextDraw0 σ).2).1 16)), (1, .int (jrem (x_nextDraw0 σ).1 6)), (0, .ref (ad 8))]) hx hb dX0_drawSaying_23 rfl hl (by decide) rfl (fun ls hl => ?_)
  refine lv_aload_n hx hb dX0_drawSaying_24 rfl (lv_at hl 3 rfl) ?_
  refine g_get fd_RX0_18 C hX hP 8 (by decide) (shC_8 G ad _) (v := .ref (ad 9)) rfl dX0_drawSaying_25 ?_
  refine lv_aload_n hx hb dX0_drawSaying_28 rfl (lv_at hl 3 rfl) ?_
  refine g_rd (g_runV (As := []) (rest := [.ref (ad 9)]) ky_yX0_placeOfToday lk_RX0_132 C hX (gS_b0 hI hS) hP 8 (c_yX0_placeOfToday l G ad hI (x_nextDraw0 (x_nextDraw0 (x_nextDraw0 σ).2).2).2 ) (by decide) (shC_8 G ad _) ⟨rfl, rfl, by decide, by decide⟩ rfl hl.1 rfl (Nat.le_of_ble_eq_true rfl) ⟨Nat.zero_le _, Nat.zero_le _⟩ dX0_drawSaying_29) ?_
  refine lv_as (y := (nI (nN (x_placeOfToday0 (x_nextDraw0 (x_nextDraw0 (x_nextDraw0 σ).2).2).2)))) (pot _).1 ?_
  refine lv_iload_n hx hb dX0_drawSaying_32 rfl (lv_at hl 2 rfl) ?_
  refine lv_iload_n hx hb dX0_drawSaying_33 rfl (lv_at hl 1 rfl) ?_
  refine lv_iload_n hx hb dX0_drawSaying_34 rfl (lv_at hl 0 rfl) ?_
  refine g_rd (g_runSN (As := [.int (jrem (x_nextDraw0 σ).1 6), .int (jrem (x_nextDraw0 (x_nextDraw0 σ).2).1 16), .int (jrem (x_nextDraw0 (x_nextDraw0 (x_nextDraw0 σ).2).2).1 10)]) (rest := [.int (nI (nN (x_placeOfToday0 (x_nextDraw0 (x_nextDraw0 (x_nextDraw0 σ).2).2).2))), .ref (ad 9)]) ky_yX6_sayingOf ln_RX0_22 hX C (c_yX6_sayingOf l (jrem (x_nextDraw0 σ).1 6) (jrem (x_nextDraw0 (x_nextDraw0 σ).2).1 16) (jrem (x_nextDraw0 (x_nextDraw0 (x_nextDraw0 σ).2).2).1 10)) ⟨rfl, rfl, by decide, by decide⟩ rfl hl.1 rfl (Nat.le_of_ble_eq_true rfl) ⟨Nat.zero_le _, Nat.zero_le _⟩ dX0_drawSaying_35) ?_
  refine g_iast C hX hI hP hS 9 (by decide) (shC_9 G ad _) (nN (x_placeOfToday0 (x_nextDraw0 (x_nextDraw0 (x_nextDraw0 σ).2).2).2)) (pot _).2 (by decide) (upd ((x_nextDraw0 (x_nextDraw0 (x_nextDraw0 σ).2).2).2 9) (nN (x_placeOfToday0 (x_nextDraw0 (x_nextDraw0 (x_nextDraw0 σ).2).2).2)) (x_sayingOf (jrem (x_nextDraw0 σ).1 6) (jrem (x_nextDraw0 (x_nextDraw0 σ).2).1 16) (jrem (x_nextDraw0 (x_nextDraw0 (x_nextDraw0 σ).2).2).1 10))) rfl dX0_drawSaying_38 (fun H locs hP hS => ?_)
  have hP : gP G.1 12 ad (gE (shC G ad) (mset (x_nextDraw0 (x_nextDraw0 (x_nextDraw0 σ).2).2).2 9 (nN (x_placeOfToday0 (x_nextDraw0 (x_nextDraw0 (x_nextDraw0 σ).2).2).2)) (x_sayingOf (jrem (x_nextDraw0 σ).1 6) (jrem (x_nextDraw0 (x_nextDraw0 σ).2).1 16) (jrem (x_nextDraw0 (x_nextDraw0 (x_nextDraw0 σ).2).2).1 10)))) H := hP
  exact g_vretM C hr hlk (by rw [x_drawSaying0]) hP hS dX0_drawSaying_39

def x_passDay0_L20 (σ : gM) (away : Int32) : Nat → Nat → gM → gM
  | 0, i, τ => (mset τ 8 1 (j_min 99999 ((τ 8 1) + 1)))
  | n20 + 1, i, τ => if (x_isIn (nI i) (x_hearersOf0 σ (σ 9 (nN (x_placeOfToday0 σ))) away)) = 0 then (if (x_isIn (nI i) away) = 0 then (x_passDay0_L20 σ away n20 (i + 1) (mput τ i 1 (x_lieOneDay1 (mget τ i)))) else (x_passDay0_L20 σ away n20 (i + 1) τ)) else (if (x_isIn (nI i) away) = 0 then (x_passDay0_L20 σ away n20 (i + 1) ((mput (mput τ i 1 (x_takeIn1 (mget τ i) (x_topicOf (σ 9 (nN (x_placeOfToday0 σ)))))) i 1 (x_lieOneDay1 (mget (mput τ i 1 (x_takeIn1 (mget τ i) (x_topicOf (σ 9 (nN (x_placeOfToday0 σ)))))) i))))) else (x_passDay0_L20 σ away n20 (i + 1) ((mput τ i 1 (x_takeIn1 (mget τ i) (x_topicOf (σ 9 (nN (x_placeOfToday0 σ)))))))))
def x_passDay0 (σ : gM) (away : Int32) : gM := (x_passDay0_L20 σ away (nN (σ 8 0)) 0 σ)
def rm_yX0_passDay : Room := { frames := 3, cells := 0, slots := 0, locals := 72 }
set_option maxHeartbeats 4000000 in
set_option maxRecDepth 100000 in
theorem c_yX0_passDay (l : Launch) (G : gG) (ad : Nat → Nat) (hI : gI G.2.2.1 12 ad) (σ : gM) (away : Int32) (N : Nat) (hN : N ≤ 8) (hs : σ 8 0 = nI N) : gMutV l yX0_passDay cX0_passDay 5 none rm_yX0_passDay G [.ref (ad 8), .int away] 12 ad (shC G ad) σ (x_passDay0 σ away) := by
  refine g_start [.ref (ad 8), .int away] (by decide +kernel) (Nat.le_of_ble_eq_true rfl) ?_
  intro p e s m below meth c ls B Z hl
  obtain ⟨C, hr, hlk⟩ := B
  have hx := C.1
  have hb := C.2.1
  obtain ⟨hX, hP⟩ := Z
  have hS : va_S (gA 12 ad) s.heap s.heap [] := va_S.rf
  revert hP hS
  intro hP hS
  have hl : lv_has ls 5 [(0, .ref (ad 8)), (1, .int away)] := hl
  refine lv_aload_n hx hb dX0_passDay_0 rfl (lv_at hl 0 rfl) ?_
  refine g_get fd_RX0_18 C hX hP 8 (by decide) (shC_8 G ad _) (v := .ref (ad 9)) rfl dX0_passDay_1 ?_
  refine lv_aload_n hx hb dX0_passDay_4 rfl (lv_at hl 0 rfl) ?_
  refine g_rd (g_runV (As := []) (rest := [.ref (ad 9)]) ky_yX0_placeOfToday lk_RX0_132 C hX (gS_b0 hI hS) hP 8 (c_yX0_placeOfToday l G ad hI σ ) (by decide) (shC_8 G ad _) ⟨rfl, rfl, by decide, by decide⟩ rfl hl.1 rfl (Nat.le_of_ble_eq_true rfl) ⟨Nat.zero_le _, Nat.zero_le _⟩ dX0_passDay_5) ?_
  refine lv_as (y := (nI (nN (x_placeOfToday0 σ)))) (pot σ).1 ?_
  refine g_iald C hX hP 9 (by decide) (shC_9 G ad _) (nN (x_placeOfToday0 σ)) (pot σ).2 (by decide) dX0_passDay_8 ?_
  refine lv_istore_n (lv' := [(2, .int (σ 9 (nN (x_placeOfToday0 σ)))), (0, .ref (ad 8)), (1, .int away)]) hx hb dX0_passDay_9 rfl hl (by decide) rfl (fun ls hl => ?_)
  refine lv_aload_n hx hb dX0_passDay_10 rfl (lv_at hl 1 rfl) ?_
  refine lv_iload_n hx hb dX0_passDay_11 rfl (lv_at hl 0 rfl) ?_
  refine lv_iload_n hx hb dX0_passDay_12 rfl (lv_at hl 2 rfl) ?_
  refine g_rd (g_runV (As := [.int (σ 9 (nN (x_placeOfToday0 σ))), .int away]) (rest := []) ky_yX0_hearersOf lk_RX0_135 C hX (gS_b0 hI hS) hP 8 (c_yX0_hearersOf l G ad hI σ (σ 9 (nN (x_placeOfToday0 σ))) away N hN hs) (by decide) (shC_8 G ad _) ⟨rfl, rfl, by decide, by decide⟩ rfl hl.1 rfl (Nat.le_of_ble_eq_true rfl) ⟨Nat.zero_le _, Nat.zero_le _⟩ dX0_passDay_13) ?_
  refine lv_istore_n (lv' := [(3, .int (x_hearersOf0 σ (σ 9 (nN (x_placeOfToday0 σ))) away)), (2, .int (σ 9 (nN (x_placeOfToday0 σ)))), (0, .ref (ad 8)), (1, .int away)]) hx hb dX0_passDay_16 rfl hl (by decide) rfl (fun ls hl => ?_)
  refine lv_iconst (v := 0) hx hb dX0_passDay_17 (by decide) ?_
  refine lv_istore (lv' := [(4, .int 0), (3, .int (x_hearersOf0 σ (σ 9 (nN (x_placeOfToday0 σ))) away)), (2, .int (σ 9 (nN (x_placeOfToday0 σ)))), (0, .ref (ad 8)), (1, .int away)]) hx hb dX0_passDay_18 hl (by decide) rfl (fun ls hl => ?_)
  suffices loop20 : ∀ (n20 : Nat) (i : Nat) (τ : gM) (H : Heap) (locs : List Loc) (ls : Array Slot), (i + n20 = N) → (τ 8 0 = nI N) → x_passDay0 σ away = (x_passDay0_L20 σ away n20 i τ) → gP G.1 12 ad (gE (shC G ad) τ) H → va_S (gA 12 ad) s.heap H locs → lv_has ls 5 [(4, .int (nI i)), (3, .int (x_hearersOf0 σ (σ 9 (nN (x_placeOfToday0 σ))) away)), (2, .int (σ 9 (nN (x_placeOfToday0 σ)))), (0, .ref (ad 8)), (1, .int away)] → W p l e rm_yX0_passDay s m ([.ref (ad 8), .int away] : List Value).toArray below meth c H locs 0 0 (MQ below (va_Qv (fun τ : gM => τ = x_passDay0 σ away) (fun τ t => gP G.1 12 ad (gE (shC G ad) τ) t.heap) (gA 12 ad)) ([.ref (ad 8), .int away] : List Value).toArray s 0 0 (gA 12 ad)) (F0 m 20 ls []) by
    exact loop20 N 0 σ _ _ _ (by omega) hs (by rw [x_passDay0, hs, nN_nI (by omega)]) hP hS (lv_sub hl [0, 1, 2, 3, 4] rfl)
  intro n20
  induction n20 with
  | zero =>
    intro i τ H locs ls hi20 ht hres20 hP hS hl
    refine lv_iload hx hb dX0_passDay_20 (lv_at hl 0 rfl) ?_
    refine lv_aload_n hx hb dX0_passDay_22 rfl (lv_at hl 3 rfl) ?_
    refine g_get fd_RX0_29 C hX hP 8 (by decide) (shC_8 G ad _) (v := .int (τ 8 0)) rfl dX0_passDay_23 ?_
    refine lv_as (y := (nI N)) ht ?_
    refine lv_icmp_ge (tgt := 77) hx hb dX0_passDay_26 (by decide) (fun c1 => ?_) (fun c1 => ?_)
    · refine lv_aload_n hx hb dX0_passDay_77 rfl (lv_at hl 3 rfl) ?_
      refine lv_ldc hx hb C.2.2.2.1 (C.2.2.2.2 _ kc_RX0_144) dX0_passDay_78 ?_
      refine lv_aload_n hx hb dX0_passDay_80 rfl (lv_at hl 3 rfl) ?_
      refine g_get fd_RX0_33 C hX hP 8 (by decide) (shC_8 G ad _) (v := .int (τ 8 1)) rfl dX0_passDay_81 ?_
      refine lv_iconst (v := 1) hx hb dX0_passDay_84 (by decide) ?_
      refine lv_iadd hx hb dX0_passDay_85 ?_
      refine g_rd (g_runS (As := [.int 99999, .int ((τ 8 1) + 1)]) (rest := [.ref (ad 8)]) ky_yJ9_min_7cf53 lk_RX0_145 C (c_yJ9_min_7cf53 l 99999 ((τ 8 1) + 1)) ⟨rfl, rfl, by decide, by decide⟩ rfl hl.1 rfl (Nat.le_of_ble_eq_true rfl) ⟨Nat.zero_le _, Nat.zero_le _⟩ dX0_passDay_86) ?_
      refine g_put fd_RX0_33 C hX hI hP hS 8 (by decide) (shC_8 G ad _) rfl rfl (Nat.le_of_ble_eq_true rfl) (upd (τ 8) 1 (j_min 99999 ((τ 8 1) + 1))) rfl dX0_passDay_89 (fun H locs hP hS => ?_)
      have hP : gP G.1 12 ad (gE (shC G ad) (mset τ 8 1 (j_min 99999 ((τ 8 1) + 1)))) H := hP
      exact g_vretM C hr hlk (by rw [hres20, x_passDay0_L20]) hP hS dX0_passDay_92
    · exact absurd (show nI (N) ≤ nI i from nI_le (by omega) (by omega)) c1
  | succ n20 ih20 =>
    intro i τ H locs ls hi20 ht hres20 hP hS hl
    refine lv_iload hx hb dX0_passDay_20 (lv_at hl 0 rfl) ?_
    refine lv_aload_n hx hb dX0_passDay_22 rfl (lv_at hl 3 rfl) ?_
    refine g_get fd_RX0_29 C hX hP 8 (by decide) (shC_8 G ad _) (v := .int (τ 8 0)) rfl dX0_passDay_23 ?_
    refine lv_as (y := (nI N)) ht ?_
    refine lv_icmp_ge (tgt := 77) hx hb dX0_passDay_26 (by decide) (fun c2 => ?_) (fun c2 => ?_)
    · exact absurd (show nI (N) ≤ nI i from c2) (nI_ge (by omega) (by omega))
    · refine lv_iload hx hb dX0_passDay_29 (lv_at hl 0 rfl) ?_
      refine lv_iload_n hx hb dX0_passDay_31 rfl (lv_at hl 1 rfl) ?_
      refine g_rd (g_runSN (As := [.int (nI i), .int (x_hearersOf0 σ (σ 9 (nN (x_placeOfToday0 σ))) away)]) (rest := []) ky_yX6_isIn ln_RX0_60 hX C (c_yX6_isIn l (nI i) (x_hearersOf0 σ (σ 9 (nN (x_placeOfToday0 σ))) away)) ⟨rfl, rfl, by decide, by decide⟩ rfl hl.1 rfl (Nat.le_of_ble_eq_true rfl) ⟨Nat.zero_le _, Nat.zero_le _⟩ dX0_passDay_32) ?_
      refine lv_if_eq (tgt := 52) hx hb dX0_passDay_35 (by decide) (fun c3 => ?_) (fun c3 => ?_)
      · refine lv_iload hx hb dX0_passDay_52 (lv_at hl 0 rfl) ?_
        refine lv_iload_n hx hb dX0_passDay_54 rfl (lv_at hl 4 rfl) ?_
        refine g_rd (g_runSN (As := [.int (nI i), .int away]) (rest := []) ky_yX6_isIn ln_RX0_60 hX C (c_yX6_isIn l (nI i) away) ⟨rfl, rfl, by decide, by decide⟩ rfl hl.1 rfl (Nat.le_of_ble_eq_true rfl) ⟨Nat.zero_le _, Nat.zero_le _⟩ dX0_passDay_55) ?_
        refine lv_if_ne (tgt := 71) hx hb dX0_passDay_58 (by decide) (fun c4 => ?_) (fun c4 => ?_)
        · refine lv_iinc (v := (nI (i + 1))) (lv' := [(4, .int (nI (i + 1))), (3, .int (x_hearersOf0 σ (σ 9 (nN (x_placeOfToday0 σ))) away)), (2, .int (σ 9 (nN (x_placeOfToday0 σ)))), (0, .ref (ad 8)), (1, .int away)]) hx hb dX0_passDay_71 hl (k := 0) rfl (by exact nI_1 _) (by decide) rfl (fun ls hl => ?_)
          refine lv_goto (tgt := 20) hx hb dX0_passDay_74 (by decide) ?_
          exact ih20 (i + 1) τ _ _ _ (by omega) (by first | exact ht | (rw [mput_g (by omega)]; exact ht) | (rw [mput_g (by omega), mput_g (by omega)]; exact ht)) (by rw [hres20, x_passDay0_L20, if_pos c3, if_neg c4]) hP hS (lv_sub hl [0, 1, 2, 3, 4] rfl)
        · refine lv_aload_n hx hb dX0_passDay_61 rfl (lv_at hl 3 rfl) ?_
          refine g_get fd_RX0_11 C hX hP 8 (by decide) (shC_8 G ad _) (v := .ref (ad 11)) rfl dX0_passDay_62 ?_
          refine lv_iload hx hb dX0_passDay_65 (lv_at hl 0 rfl) ?_
          refine g_aald (t0 := 2) C hX hP 11 (by decide) (shC_11 G ad _) rfl i (by omega) (by decide) rfl dX0_passDay_67 ?_
          refine g_wrV (o := i) (m1 := 1) (by omega) (shC_sub G ad (by omega)) hI hP hS (g_runV (As := []) (rest := []) ky_yX1_lieOneDay lk_RX0_141 C hX (gS_b0 hI hS) (hP.sub (sh1 := shG) i 1 (by omega) (shC_sub G ad (by omega))) 0 (c_yX1_lieOneDay l G (fun q_ => ad (i + q_)) (hI.sub (m := 1) i (by omega)) (mget τ i) ) (by decide) (shG_g _) ⟨rfl, rfl, by decide, by decide⟩ rfl hl.1 rfl (Nat.le_of_ble_eq_true rfl) ⟨Nat.zero_le _, Nat.zero_le _⟩ dX0_passDay_68) (fun H locs hP hS => ?_)
          refine lv_iinc (v := (nI (i + 1))) (lv' := [(4, .int (nI (i + 1))), (3, .int (x_hearersOf0 σ (σ 9 (nN (x_placeOfToday0 σ))) away)), (2, .int (σ 9 (nN (x_placeOfToday0 σ)))), (0, .ref (ad 8)), (1, .int away)]) hx hb dX0_passDay_71 hl (k := 0) rfl (by exact nI_1 _) (by decide) rfl (fun ls hl => ?_)
          refine lv_goto (tgt := 20) hx hb dX0_passDay_74 (by decide) ?_
          exact ih20 (i + 1) (mput τ i 1 (x_lieOneDay1 (mget τ i))) _ _ _ (by omega) (by first | exact ht | (rw [mput_g (by omega)]; exact ht) | (rw [mput_g (by omega), mput_g (by omega)]; exact ht)) (by rw [hres20, x_passDay0_L20, if_pos c3, if_pos c4]) hP hS (lv_sub hl [0, 1, 2, 3, 4] rfl)
      · refine lv_aload_n hx hb dX0_passDay_38 rfl (lv_at hl 3 rfl) ?_
        refine g_get fd_RX0_11 C hX hP 8 (by decide) (shC_8 G ad _) (v := .ref (ad 11)) rfl dX0_passDay_39 ?_
        refine lv_iload hx hb dX0_passDay_42 (lv_at hl 0 rfl) ?_
        refine g_aald (t0 := 2) C hX hP 11 (by decide) (shC_11 G ad _) rfl i (by omega) (by decide) rfl dX0_passDay_44 ?_
        refine lv_iload_n hx hb dX0_passDay_45 rfl (lv_at hl 2 rfl) ?_
        refine g_rd (g_runSN (As := [.int (σ 9 (nN (x_placeOfToday0 σ)))]) (rest := [.ref (ad i)]) ky_yX6_topicOf ln_RX0_92 hX C (c_yX6_topicOf l (σ 9 (nN (x_placeOfToday0 σ)))) ⟨rfl, rfl, by decide, by decide⟩ rfl hl.1 rfl (Nat.le_of_ble_eq_true rfl) ⟨Nat.zero_le _, Nat.zero_le _⟩ dX0_passDay_46) ?_
        refine g_wrV (o := i) (m1 := 1) (by omega) (shC_sub G ad (by omega)) hI hP hS (g_runV (As := [.int (x_topicOf (σ 9 (nN (x_placeOfToday0 σ))))]) (rest := []) ky_yX1_takeIn lk_RX0_138 C hX (gS_b0 hI hS) (hP.sub (sh1 := shG) i 1 (by omega) (shC_sub G ad (by omega))) 0 (c_yX1_takeIn l G (fun q_ => ad (i + q_)) (hI.sub (m := 1) i (by omega)) (mget τ i) (x_topicOf (σ 9 (nN (x_placeOfToday0 σ))))) (by decide) (shG_g _) ⟨rfl, rfl, by decide, by decide⟩ rfl hl.1 rfl (Nat.le_of_ble_eq_true rfl) ⟨Nat.zero_le _, Nat.zero_le _⟩ dX0_passDay_49) (fun H locs hP hS => ?_)
        refine lv_iload hx hb dX0_passDay_52 (lv_at hl 0 rfl) ?_
        refine lv_iload_n hx hb dX0_passDay_54 rfl (lv_at hl 4 rfl) ?_
        refine g_rd (g_runSN (As := [.int (nI i), .int away]) (rest := []) ky_yX6_isIn ln_RX0_60 hX C (c_yX6_isIn l (nI i) away) ⟨rfl, rfl, by decide, by decide⟩ rfl hl.1 rfl (Nat.le_of_ble_eq_true rfl) ⟨Nat.zero_le _, Nat.zero_le _⟩ dX0_passDay_55) ?_
        refine lv_if_ne (tgt := 71) hx hb dX0_passDay_58 (by decide) (fun c5 => ?_) (fun c5 => ?_)
        · refine lv_iinc (v := (nI (i + 1))) (lv' := [(4, .int (nI (i + 1))), (3, .int (x_hearersOf0 σ (σ 9 (nN (x_placeOfToday0 σ))) away)), (2, .int (σ 9 (nN (x_placeOfToday0 σ)))), (0, .ref (ad 8)), (1, .int away)]) hx hb dX0_passDay_71 hl (k := 0) rfl (by exact nI_1 _) (by decide) rfl (fun ls hl => ?_)
          refine lv_goto (tgt := 20) hx hb dX0_passDay_74 (by decide) ?_
          exact ih20 (i + 1) ((mput τ i 1 (x_takeIn1 (mget τ i) (x_topicOf (σ 9 (nN (x_placeOfToday0 σ))))))) _ _ _ (by omega) (by first | exact ht | (rw [mput_g (by omega)]; exact ht) | (rw [mput_g (by omega), mput_g (by omega)]; exact ht)) (by rw [hres20, x_passDay0_L20, if_neg c3, if_neg c5]) hP hS (lv_sub hl [0, 1, 2, 3, 4] rfl)
        · refine lv_aload_n hx hb dX0_passDay_61 rfl (lv_at hl 3 rfl) ?_
          refine g_get fd_RX0_11 C hX hP 8 (by decide) (shC_8 G ad _) (v := .ref (ad 11)) rfl dX0_passDay_62 ?_
          refine lv_iload hx hb dX0_passDay_65 (lv_at hl 0 rfl) ?_
          refine g_aald (t0 := 2) C hX hP 11 (by decide) (shC_11 G ad _) rfl i (by omega) (by decide) rfl dX0_passDay_67 ?_
          refine g_wrV (o := i) (m1 := 1) (by omega) (shC_sub G ad (by omega)) hI hP hS (g_runV (As := []) (rest := []) ky_yX1_lieOneDay lk_RX0_141 C hX (gS_b0 hI hS) (hP.sub (sh1 := shG) i 1 (by omega) (shC_sub G ad (by omega))) 0 (c_yX1_lieOneDay l G (fun q_ => ad (i + q_)) (hI.sub (m := 1) i (by omega)) (mget (mput τ i 1 (x_takeIn1 (mget τ i) (x_topicOf (σ 9 (nN (x_placeOfToday0 σ)))))) i) ) (by decide) (shG_g _) ⟨rfl, rfl, by decide, by decide⟩ rfl hl.1 rfl (Nat.le_of_ble_eq_true rfl) ⟨Nat.zero_le _, Nat.zero_le _⟩ dX0_passDay_68) (fun H locs hP hS => ?_)
          refine lv_iinc (v := (nI (i + 1))) (lv' := [(4, .int (nI (i + 1))), (3, .int (x_hearersOf0 σ (σ 9 (nN (x_placeOfToday0 σ))) away)), (2, .int (σ 9 (nN (x_placeOfToday0 σ)))), (0, .ref (ad 8)), (1, .int away)]) hx hb dX0_passDay_71 hl (k := 0) rfl (by exact nI_1 _) (by decide) rfl (fun ls hl => ?_)
          refine lv_goto (tgt := 20) hx hb dX0_passDay_74 (by decide) ?_
          exact ih20 (i + 1) ((mput (mput τ i 1 (x_takeIn1 (mget τ i) (x_topicOf (σ 9 (nN (x_placeOfToday0 σ)))))) i 1 (x_lieOneDay1 (mget (mput τ i 1 (x_takeIn1 (mget τ i) (x_topicOf (σ 9 (nN (x_placeOfToday0 σ)))))) i)))) _ _ _ (by omega) (by first | exact ht | (rw [mput_g (by omega)]; exact ht) | (rw [mput_g (by omega), mput_g (by omega)]; exact ht)) (by rw [hres20, x_passDay0_L20, if_neg c3, if_pos c5]) hP hS (lv_sub hl [0, 1, 2, 3, 4] rfl)

theorem pd_L8 (σ : gM) (away : Int32) : ∀ (n i : Nat) (τ : gM) (N : Nat), i + n ≤ 8 → τ 8 0 = nI N → (x_passDay0_L20 σ away n i τ) 8 0 = nI N := by
  intro n
  induction n with
  | zero =>
    intro i τ N _ h
    rw [x_passDay0_L20]
    exact h
  | succ n ih =>
    intro i τ N hi h
    rw [x_passDay0_L20]
    repeat' split
    all_goals (apply ih _ _ _ (by omega); first | exact h | (rw [mput_g (by omega)]; exact h) | (rw [mput_g (by omega), mput_g (by omega)]; exact h))
theorem pd_8 {σ : gM} {N : Nat} (hN : N ≤ 8) (hs : σ 8 0 = nI N) (away : Int32) : (x_passDay0 σ away) 8 0 = nI N := by
  rw [x_passDay0]
  exact pd_L8 _ _ _ _ _ _ (by rw [hs, nN_nI (by omega)]; omega) hs

def x_passDays0_L2 (σ : gM) (k : Nat) (away : Int32) : Nat → Nat → gM → gM
  | 0, i, τ => τ
  | n2 + 1, i, τ => (x_passDays0_L2 σ k away n2 (i + 1) (x_passDay0 τ away))
def x_passDays0 (σ : gM) (k : Nat) (away : Int32) : gM := (x_passDays0_L2 σ k away k 0 σ)
def rm_yX0_passDays : Room := { frames := 4, cells := 0, slots := 0, locals := 96 }
set_option maxHeartbeats 4000000 in
set_option maxRecDepth 100000 in
theorem c_yX0_passDays (l : Launch) (G : gG) (ad : Nat → Nat) (hI : gI G.2.2.1 12 ad) (σ : gM) (k : Nat) (away : Int32) (N : Nat) (hN : N ≤ 8) (hs : σ 8 0 = nI N) (hk : k < 1000) : gMutV l yX0_passDays cX0_passDays 4 none rm_yX0_passDays G [.ref (ad 8), .int (nI k), .int away] 12 ad (shC G ad) σ (x_passDays0 σ k away) := by
  refine g_start [.ref (ad 8), .int (nI k), .int away] (by decide +kernel) (Nat.le_of_ble_eq_true rfl) ?_
  intro p e s m below meth c ls B Z hl
  obtain ⟨C, hr, hlk⟩ := B
  have hx := C.1
  have hb := C.2.1
  obtain ⟨hX, hP⟩ := Z
  have hS : va_S (gA 12 ad) s.heap s.heap [] := va_S.rf
  revert hP hS
  intro hP hS
  have hl : lv_has ls 4 [(0, .ref (ad 8)), (1, .int (nI k)), (2, .int away)] := hl
  refine lv_iconst (v := 0) hx hb dX0_passDays_0 (by decide) ?_
  refine lv_istore_n (lv' := [(3, .int 0), (0, .ref (ad 8)), (1, .int (nI k)), (2, .int away)]) hx hb dX0_passDays_1 rfl hl (by decide) rfl (fun ls hl => ?_)
  suffices loop2 : ∀ (n2 : Nat) (i : Nat) (τ : gM) (H : Heap) (locs : List Loc) (ls : Array Slot), (i + n2 = k) → (τ 8 0 = nI N) → x_passDays0 σ k away = (x_passDays0_L2 σ k away n2 i τ) → gP G.1 12 ad (gE (shC G ad) τ) H → va_S (gA 12 ad) s.heap H locs → lv_has ls 4 [(3, .int (nI i)), (0, .ref (ad 8)), (1, .int (nI k)), (2, .int away)] → W p l e rm_yX0_passDays s m ([.ref (ad 8), .int (nI k), .int away] : List Value).toArray below meth c H locs 0 0 (MQ below (va_Qv (fun τ : gM => τ = x_passDays0 σ k away) (fun τ t => gP G.1 12 ad (gE (shC G ad) τ) t.heap) (gA 12 ad)) ([.ref (ad 8), .int (nI k), .int away] : List Value).toArray s 0 0 (gA 12 ad)) (F0 m 2 ls []) by
    exact loop2 k 0 σ _ _ _ (by omega) hs (by rw [x_passDays0]) hP hS (lv_sub hl [0, 1, 2, 3] rfl)
  intro n2
  induction n2 with
  | zero =>
    intro i τ H locs ls hi2 ht hres2 hP hS hl
    refine lv_iload_n hx hb dX0_passDays_2 rfl (lv_at hl 0 rfl) ?_
    refine lv_iload_n hx hb dX0_passDays_3 rfl (lv_at hl 2 rfl) ?_
    refine lv_icmp_ge (tgt := 18) hx hb dX0_passDays_4 (by decide) (fun c1 => ?_) (fun c1 => ?_)
    · exact g_vretM C hr hlk (by rw [hres2, x_passDays0_L2]) hP hS dX0_passDays_18
    · exact absurd (show nI (k) ≤ nI i from nI_le (by omega) (by omega)) c1
  | succ n2 ih2 =>
    intro i τ H locs ls hi2 ht hres2 hP hS hl
    refine lv_iload_n hx hb dX0_passDays_2 rfl (lv_at hl 0 rfl) ?_
    refine lv_iload_n hx hb dX0_passDays_3 rfl (lv_at hl 2 rfl) ?_
    refine lv_icmp_ge (tgt := 18) hx hb dX0_passDays_4 (by decide) (fun c2 => ?_) (fun c2 => ?_)
    · exact absurd (show nI (k) ≤ nI i from c2) (nI_ge (by omega) (by omega))
    · refine lv_aload_n hx hb dX0_passDays_7 rfl (lv_at hl 1 rfl) ?_
      refine lv_iload_n hx hb dX0_passDays_8 rfl (lv_at hl 3 rfl) ?_
      refine g_wrV0 hS (g_runV (As := [.int away]) (rest := []) ky_yX0_passDay lk_RX0_128 C hX (gS_b0 hI hS) hP 8 (c_yX0_passDay l G ad hI τ away N hN ht) (by decide) (shC_8 G ad _) ⟨rfl, rfl, by decide, by decide⟩ rfl hl.1 rfl (Nat.le_of_ble_eq_true rfl) ⟨Nat.zero_le _, Nat.zero_le _⟩ dX0_passDays_9) (fun H locs hP hS => ?_)
      refine lv_iinc (v := (nI (i + 1))) (lv' := [(3, .int (nI (i + 1))), (0, .ref (ad 8)), (1, .int (nI k)), (2, .int away)]) hx hb dX0_passDays_12 hl (k := 0) rfl (by exact nI_1 _) (by decide) rfl (fun ls hl => ?_)
      refine lv_goto (tgt := 2) hx hb dX0_passDays_15 (by decide) ?_
      exact ih2 (i + 1) (x_passDay0 τ away) _ _ _ (by omega) (pd_8 hN ht away) (by rw [hres2, x_passDays0_L2]) hP hS (lv_sub hl [0, 1, 2, 3] rfl)
