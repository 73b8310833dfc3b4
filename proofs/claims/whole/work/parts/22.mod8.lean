theorem lrng (x : Int64) : -9223372036854775808 ≤ x.toInt ∧ x.toInt < 9223372036854775808 := ⟨by have := Int64.le_toInt x; simpa using this, by have := Int64.toInt_lt x; simpa using this⟩
theorem lbm {z : Int} (h1 : -9223372036854775808 ≤ z) (h2 : z < 9223372036854775808) : z.bmod (2 ^ 64) = z := by
  apply Int.bmod_eq_of_le <;> omega
theorem digit_rng {x : Int32} (h : ¬ m_isDigit x = 0) : 48 ≤ x.toInt ∧ x.toInt ≤ 57 := by
  unfold m_isDigit at h
  by_cases h1 : x < 48
  · rw [if_pos h1] at h; exact absurd rfl h
  · rw [if_neg h1] at h
    by_cases h2 : 57 < x
    · rw [if_pos h2] at h; exact absurd rfl h
    · have a := Int32.le_iff_toInt_le.mp (Int32.not_lt.mp h1)
      have b := Int32.le_iff_toInt_le.mp (Int32.not_lt.mp h2)
      have c : (48 : Int32).toInt = 48 := rfl
      have d : (57 : Int32).toInt = 57 := rfl
      omega
theorem letter_rng (x : Int32) : 0 ≤ (m_letter x).toInt ∧ (m_letter x).toInt ≤ 26 := by
  unfold m_letter
  split
  · decide
  · split
    · decide
    · rename_i h1 h2
      have a := Int32.le_iff_toInt_le.mp (Int32.not_lt.mp h1)
      have b := Int32.le_iff_toInt_le.mp (Int32.not_lt.mp h2)
      have c : (97 : Int32).toInt = 97 := rfl
      have d : (122 : Int32).toInt = 122 := rfl
      have e : (x - 97 + 1).toInt = x.toInt - 97 + 1 := by
        rw [Int32.toInt_add, Int32.toInt_sub, c, show (1 : Int32).toInt = 1 from rfl, Int.bmod_eq_of_le (n := x.toInt - 97) (by omega) (by omega)]
        apply Int.bmod_eq_of_le <;> omega
      rw [e]
      omega
theorem stepN {v : Int64} {x : Int32} (h0 : 0 ≤ v.toInt) (h1 : lg_cmp v 99999 ≤ 0) (hx : ¬ m_isDigit x = 0) : (v * 10 + x.toInt64 - 48).toInt = v.toInt * 10 + x.toInt - 48 := by
  have a := Int64.le_iff_toInt_le.mp ((lg_cmp_le _ _).mp h1)
  have b : (99999 : Int64).toInt = 99999 := rfl
  have c : (10 : Int64).toInt = 10 := rfl
  have d : (48 : Int64).toInt = 48 := rfl
  have e := digit_rng hx
  have m1 : (v * 10).toInt = v.toInt * 10 := by rw [Int64.toInt_mul, c]; exact lbm (by omega) (by omega)
  have m2 : (v * 10 + x.toInt64).toInt = v.toInt * 10 + x.toInt := by rw [Int64.toInt_add, m1, Int32.toInt_toInt64]; exact lbm (by omega) (by omega)
  rw [Int64.toInt_sub, m2, d]
  exact lbm (by omega) (by omega)
theorem stepW {v : Int64} (x : Int32) (h0 : 0 ≤ v.toInt) (h1 : lg_cmp v 100000000000000000 ≤ 0) : (v * 27 + (m_letter x).toInt64).toInt = v.toInt * 27 + (m_letter x).toInt := by
  have a := Int64.le_iff_toInt_le.mp ((lg_cmp_le _ _).mp h1)
  have b : (100000000000000000 : Int64).toInt = 100000000000000000 := rfl
  have c : (27 : Int64).toInt = 27 := rfl
  have e := letter_rng x
  have m1 : (v * 27).toInt = v.toInt * 27 := by rw [Int64.toInt_mul, c]; exact lbm (by omega) (by omega)
  rw [Int64.toInt_add, m1, Int32.toInt_toInt64]
  exact lbm (by omega) (by omega)
theorem scN_in {b : Nat → Int32} {T : Nat} (hb : ∀ q, q ≤ T → ¬ m_isDigit (b q) = 0 → q < T) : ∀ (n a : Nat) (v : Int64), a ≤ T → 0 ≤ v.toInt → a ≤ (scN b n a v).1 ∧ (scN b n a v).1 ≤ T ∧ 0 ≤ (scN b n a v).2.toInt := by
  intro n
  induction n with
  | zero => intro a v h h0; exact ⟨Nat.le_refl _, h, h0⟩
  | succ n ih =>
    intro a v h h0
    rw [scN]
    by_cases c : m_isDigit (b a) = 0
    · rw [if_pos c]; exact ⟨Nat.le_refl _, h, h0⟩
    · rw [if_neg c]
      have hl := hb a h c
      have key : 0 ≤ (if lg_cmp v 99999 ≤ 0 then v * 10 + (b a).toInt64 - 48 else v).toInt := by
        by_cases c2 : lg_cmp v 99999 ≤ 0
        · rw [if_pos c2, stepN h0 c2 c]
          have := digit_rng c
          omega
        · rw [if_neg c2]; exact h0
      have q := ih (a + 1) _ (by omega) key
      exact ⟨by omega, q.2⟩
theorem scW_in {b : Nat → Int32} {T : Nat} (hb : ∀ q, q ≤ T → ¬ m_letter (b q) ≤ 0 → q < T) : ∀ (n a : Nat) (v : Int64), a ≤ T → 0 ≤ v.toInt → a ≤ (scW b n a v).1 ∧ (scW b n a v).1 ≤ T ∧ 0 ≤ (scW b n a v).2.toInt := by
  intro n
  induction n with
  | zero => intro a v h h0; exact ⟨Nat.le_refl _, h, h0⟩
  | succ n ih =>
    intro a v h h0
    rw [scW]
    by_cases c : m_letter (b a) ≤ 0
    · rw [if_pos c]; exact ⟨Nat.le_refl _, h, h0⟩
    · rw [if_neg c]
      have hl := hb a h c
      have key : 0 ≤ (if lg_cmp v 100000000000000000 ≤ 0 then v * 27 + (m_letter (b a)).toInt64 else v).toInt := by
        by_cases c2 : lg_cmp v 100000000000000000 ≤ 0
        · rw [if_pos c2, stepW _ h0 c2]
          have := letter_rng (b a)
          omega
        · rw [if_neg c2]; exact h0
      have q := ih (a + 1) _ (by omega) key
      exact ⟨by omega, q.2⟩
theorem tkn_in {b : Nat → Int32} {T a : Nat} (h1 : ∀ q, q ≤ T → b q = 32 → q < T) (h2 : ∀ q, q ≤ T → ¬ m_letter (b q) ≤ 0 → q < T) (h3 : ∀ q, q ≤ T → ¬ m_isDigit (b q) = 0 → q < T) (ha : a ≤ T) : a ≤ (tkn b T a).2.1 ∧ (tkn b T a).2.1 ≤ T ∧ a ≤ (tkn b T a).2.2.1 ∧ (tkn b T a).2.2.1 ≤ T ∧ ((tkn b T a).1 = 3 → a < (tkn b T a).2.2.1) ∧ 0 ≤ (tkn b T a).2.2.2.toInt := by
  have hs := scB_in b T h1 (T + 1 - a) a ha
  unfold tkn
  generalize scB b (T + 1 - a) a = a1 at hs
  by_cases c1 : a1 = T
  · rw [if_pos c1]; exact ⟨ha, Nat.le_refl _, ha, Nat.le_refl _, fun q => absurd (show (0 : Int32) = 3 from q) (by decide), (show (0 : Int) ≤ (0 : Int64).toInt by decide)⟩
  · rw [if_neg c1]
    by_cases c2 : b a1 = 59
    · rw [if_pos c2]; exact ⟨hs.1, hs.2, by show a ≤ a1 + 1; omega, by show a1 + 1 ≤ T; omega, fun _ => by show a < a1 + 1; omega, (show (0 : Int) ≤ (0 : Int64).toInt by decide)⟩
    · rw [if_neg c2]
      by_cases c3 : m_letter (b a1) ≤ 0
      · rw [if_pos c3]
        by_cases c4 : m_isDigit (b a1) = 0
        · rw [if_pos c4]; exact ⟨hs.1, hs.2, hs.1, hs.2, fun q => absurd (show (4 : Int32) = 3 from q) (by decide), (show (0 : Int) ≤ (0 : Int64).toInt by decide)⟩
        · rw [if_neg c4]
          have q := scN_in h3 (T + 1 - a1) a1 0 hs.2 (by decide)
          exact ⟨hs.1, hs.2, by show a ≤ (scN b (T + 1 - a1) a1 0).1; omega, q.2.1, fun z => absurd (show (2 : Int32) = 3 from z) (by decide), q.2.2⟩
      · rw [if_neg c3]
        have q := scW_in h2 (T + 1 - a1) a1 0 hs.2 (by decide)
        exact ⟨hs.1, hs.2, by show a ≤ (scW b (T + 1 - a1) a1 0).1; omega, q.2.1, fun z => absurd (show (1 : Int32) = 3 from z) (by decide), q.2.2⟩
def NX (T : Nat) (σ : gM) : Prop := σ 0 1 = nI T ∧ (∃ a, σ 0 3 = nI a ∧ a ≤ T) ∧ (¬ jl (σ 0 7) (σ 0 8) < 0) ∧ ¬ σ 0 5 < 0
/-- reading goes on from a0: where a sign stands now, something was read -/
def PX (T a0 : Nat) (σ : gM) : Prop := NX T σ ∧ (∃ a, σ 0 3 = nI a ∧ a0 ≤ a ∧ a ≤ T ∧ (σ 0 4 = 3 → a0 < a)) ∧ ∃ N, N ≤ 8 ∧ σ 1 0 = nI N
theorem next_row {σ : gM} {T : Nat} (hT : T ≤ 120) (ht : σ 0 1 = nI T) (tp : ∃ a, σ 0 3 = nI a ∧ a ≤ T) {k : Nat} (hk : k ≠ 0) : (m_next σ) k = σ k := by
  obtain ⟨a, h1, h2⟩ := tp
  exact (next_is hT ht h1 h2).1 k hk
theorem next_px {σ : gM} {T a0 a : Nat} (hT : T ≤ 120) (ht : σ 0 1 = nI T) (h1 : σ 0 3 = nI a) (h2 : a ≤ T) (h0 : a0 ≤ a) (hN : ∃ N, N ≤ 8 ∧ σ 1 0 = nI N) : PX T a0 (m_next σ) := by
  have h := next_is hT ht h1 h2
  have q := tkn_in (b := m_byteAt σ) (T := T) (a := a) (fun q hq c => mb_32 hT ht (by omega) c) (fun q hq c => mb_letter hT ht (by omega) c) (fun q hq c => mb_digit hT ht (by omega) c) h2
  obtain ⟨r1, r2, r3, r4, r5, r6⟩ := h
  refine ⟨⟨?_, ⟨_, r5, q.2.2.2.1⟩, ?_, ?_⟩, ⟨_, r5, by omega, q.2.2.2.1, fun z => ?_⟩, ?_⟩
  · rw [r2 1 (by decide) (by decide) (by decide) (by decide) (by decide)]; exact ht
  · rw [r6]
    intro z
    have := Int64.lt_iff_toInt_lt.mp z
    have z0 : (0 : Int64).toInt = 0 := rfl
    omega
  · rw [r4]; exact nI_pos (by omega)
  · rw [r3] at z
    have := q.2.2.2.2.1 z
    omega
  · obtain ⟨N, h3, h4⟩ := hN
    exact ⟨N, h3, by rw [r1 1 (by decide)]; exact h4⟩
theorem next_nx {σ : gM} {T : Nat} (hT : T ≤ 120) (nx : NX T σ) : NX T (m_next σ) := by
  obtain ⟨a, h1, h2⟩ := nx.2.1
  have h := next_is hT nx.1 h1 h2
  have q := tkn_in (b := m_byteAt σ) (T := T) (a := a) (fun q hq c => mb_32 hT nx.1 (by omega) c) (fun q hq c => mb_letter hT nx.1 (by omega) c) (fun q hq c => mb_digit hT nx.1 (by omega) c) h2
  obtain ⟨r1, r2, r3, r4, r5, r6⟩ := h
  refine ⟨?_, ⟨_, r5, q.2.2.2.1⟩, ?_, ?_⟩
  · rw [r2 1 (by decide) (by decide) (by decide) (by decide) (by decide)]; exact nx.1
  · rw [r6]
    intro z
    have := Int64.lt_iff_toInt_lt.mp z
    have z0 : (0 : Int64).toInt = 0 := rfl
    omega
  · rw [r4]; exact nI_pos (by omega)
theorem px_next {σ : gM} {T a0 : Nat} (hT : T ≤ 120) (px : PX T a0 σ) : PX T a0 (m_next σ) := by
  obtain ⟨a, h1, h2, h3, -⟩ := px.2.1
  exact next_px hT px.1.1 h1 h3 h2 px.2.2
theorem px_of {σ τ : gM} {T a0 : Nat} (px : PX T a0 σ) (h0 : ∀ j, j ≠ 6 → τ 0 j = σ 0 j) (h1 : ∃ N, N ≤ 8 ∧ τ 1 0 = nI N) : PX T a0 τ := by
  obtain ⟨⟨a, b, c, d⟩, q, -⟩ := px
  unfold PX NX
  rw [h0 1 (by decide), h0 3 (by decide), h0 7 (by decide), h0 8 (by decide), h0 5 (by decide), h0 4 (by decide)]
  exact ⟨⟨a, b, c, d⟩, q, h1⟩
theorem nx_of {σ τ : gM} {T : Nat} (nx : NX T σ) (h0 : ∀ j, j ≠ 6 → τ 0 j = σ 0 j) : NX T τ := by
  unfold NX
  rw [h0 1 (by decide), h0 3 (by decide), h0 7 (by decide), h0 8 (by decide), h0 5 (by decide)]
  exact nx
theorem wh_0 {σ : gM} {j : Nat} (h : j ≠ 6) : (m_wrongHere σ) 0 j = σ 0 j := by
  unfold m_wrongHere
  split <;> (rw [mset_at]; exact if_neg h)
theorem wh_row {σ : gM} {k : Nat} (h : k ≠ 0) : (m_wrongHere σ) k = σ k := by
  unfold m_wrongHere
  split <;> exact mset_ne _ _ _ h
theorem px_wrong {σ : gM} {T a0 : Nat} (px : PX T a0 σ) : PX T a0 (m_wrongHere σ) := px_of px (fun j h => wh_0 h) (by rw [wh_row (by decide)]; exact px.2.2)

def m_numberHere (σ : gM) (most : Int32) : Int32 × gM := if (σ 0 4) = 2 then (if (lg_cmp (jl (σ 0 7) (σ 0 8)) ((most).toInt64)) ≤ 0 then ((((jl (σ 0 7) (σ 0 8))).toInt32), (m_next σ)) else (0, (m_wrongHere σ))) else (0, (m_wrongHere σ))
def rm_yX7_numberHere : Room := { frames := 2, cells := 0, slots := 0, locals := 42 }
set_option maxHeartbeats 4000000 in
set_option maxRecDepth 100000 in
theorem c_yX7_numberHere (l : Launch) (G : gG) (ad : Nat → Nat) (hI : gI G.2.2.1 11 ad) (σ : gM) (most : Int32) (T : Nat) (hT : T ≤ 120) (nx : NX T σ) : gMutI l yX7_numberHere cX7_numberHere 3 (some .int) rm_yX7_numberHere G [.ref (ad 0), .int most] 11 ad (shM G ad) σ (m_numberHere σ most) := by
  refine g_start [.ref (ad 0), .int most] (by decide +kernel) (Nat.le_of_ble_eq_true rfl) ?_
  intro p e s m below meth c ls B Z hl
  obtain ⟨C, hr, hlk⟩ := B
  have hx := C.1
  have hb := C.2.1
  obtain ⟨hX, hP⟩ := Z
  have hS : va_S (gA 11 ad) s.heap s.heap [] := va_S.rf
  revert hP hS
  intro hP hS
  have hl : lv_has ls 3 [(0, .ref (ad 0)), (1, .int most)] := hl
  refine lv_aload_n hx hb dX7_numberHere_0 rfl (lv_at hl 0 rfl) ?_
  refine g_get fd_RX7_217 C hX hP 0 (by decide) (shM_0 G ad _) (v := .long (jl (σ 0 7) (σ 0 8))) rfl dX7_numberHere_1 ?_
  refine lv_l2i (v := ((jl (σ 0 7) (σ 0 8))).toInt32) hx hb dX7_numberHere_4 rfl ?_
  refine lv_istore_n (lv' := [(2, .int (((jl (σ 0 7) (σ 0 8))).toInt32)), (0, .ref (ad 0)), (1, .int most)]) hx hb dX7_numberHere_5 rfl hl (by decide) rfl (fun ls hl => ?_)
  refine lv_aload_n hx hb dX7_numberHere_6 rfl (lv_at hl 1 rfl) ?_
  refine g_get fd_RX7_221 C hX hP 0 (by decide) (shM_0 G ad _) (v := .int (σ 0 4)) rfl dX7_numberHere_7 ?_
  refine lv_iconst (v := 2) hx hb dX7_numberHere_10 (by decide) ?_
  refine lv_icmp_ne (tgt := 24) hx hb dX7_numberHere_11 (by decide) (fun c1 => ?_) (fun c1 => ?_)
  · refine lv_aload_n hx hb dX7_numberHere_24 rfl (lv_at hl 1 rfl) ?_
    refine g_wrV0 hS (g_runV (As := []) (rest := []) ky_yX7_wrongHere lk_RX7_259 C hX (gS_b0 hI hS) hP 0 (c_yX7_wrongHere l G ad hI σ ) (by decide) (shM_0 G ad _) ⟨rfl, rfl, by decide, by decide⟩ rfl hl.1 rfl (Nat.le_of_ble_eq_true rfl) ⟨Nat.zero_le _, Nat.zero_le _⟩ dX7_numberHere_25) (fun H locs hP hS => ?_)
    refine lv_iconst (v := 0) hx hb dX7_numberHere_28 (by decide) ?_
    exact g_iretM C hr hlk rfl (by rw [m_numberHere, if_neg c1]) hP hS dX7_numberHere_29
  · refine lv_aload_n hx hb dX7_numberHere_14 rfl (lv_at hl 1 rfl) ?_
    refine g_get fd_RX7_217 C hX hP 0 (by decide) (shM_0 G ad _) (v := .long (jl (σ 0 7) (σ 0 8))) rfl dX7_numberHere_15 ?_
    refine lv_iload_n hx hb dX7_numberHere_18 rfl (lv_at hl 2 rfl) ?_
    refine lv_i2l (v := (most).toInt64) hx hb dX7_numberHere_19 rfl ?_
    refine W.lcmp hx hb dX7_numberHere_20 ?_
    refine lv_if_le (tgt := 30) hx hb dX7_numberHere_21 (by decide) (fun c2 => ?_) (fun c2 => ?_)
    · refine lv_aload_n hx hb dX7_numberHere_30 rfl (lv_at hl 1 rfl) ?_
      refine g_wrV0 hS (g_runV (As := []) (rest := []) ky_yX7_next lk_RX7_262 C hX (gS_b0 hI hS) hP 0 (c_yX7_next l G ad hI σ  T hT nx.1 nx.2.1) (by decide) (shM_0 G ad _) ⟨rfl, rfl, by decide, by decide⟩ rfl hl.1 rfl (Nat.le_of_ble_eq_true rfl) ⟨Nat.zero_le _, Nat.zero_le _⟩ dX7_numberHere_31) (fun H locs hP hS => ?_)
      refine lv_iload_n hx hb dX7_numberHere_34 rfl (lv_at hl 0 rfl) ?_
      exact g_iretM C hr hlk rfl (by rw [m_numberHere, if_pos c1, if_pos c2]) hP hS dX7_numberHere_35
    · refine lv_aload_n hx hb dX7_numberHere_24 rfl (lv_at hl 1 rfl) ?_
      refine g_wrV0 hS (g_runV (As := []) (rest := []) ky_yX7_wrongHere lk_RX7_259 C hX (gS_b0 hI hS) hP 0 (c_yX7_wrongHere l G ad hI σ ) (by decide) (shM_0 G ad _) ⟨rfl, rfl, by decide, by decide⟩ rfl hl.1 rfl (Nat.le_of_ble_eq_true rfl) ⟨Nat.zero_le _, Nat.zero_le _⟩ dX7_numberHere_25) (fun H locs hP hS => ?_)
      refine lv_iconst (v := 0) hx hb dX7_numberHere_28 (by decide) ?_
      exact g_iretM C hr hlk rfl (by rw [m_numberHere, if_pos c1, if_neg c2]) hP hS dX7_numberHere_29

theorem nh_nx {σ : gM} {T : Nat} {most : Int32} (hT : T ≤ 120) (nx : NX T σ) : NX T (m_numberHere σ most).2 := by
  unfold m_numberHere
  repeat' split
  all_goals first | exact next_nx hT nx | exact nx_of nx (fun j h => wh_0 h)
theorem nh_row {σ : gM} {T : Nat} {most : Int32} (hT : T ≤ 120) (nx : NX T σ) {k : Nat} (hk : k ≠ 0) : (m_numberHere σ most).2 k = σ k := by
  unfold m_numberHere
  repeat' split
  all_goals first | exact next_row hT nx.1 nx.2.1 hk | exact wh_row hk
theorem px_number {σ : gM} {T a0 : Nat} {most : Int32} (hT : T ≤ 120) (px : PX T a0 σ) : PX T a0 (m_numberHere σ most).2 := by
  unfold m_numberHere
  repeat' split
  all_goals first | exact px_next hT px | exact px_wrong px
theorem wh_pos {σ : gM} (h : ¬ σ 0 5 < 0) : ¬ (m_wrongHere σ) 0 6 < 0 := by
  unfold m_wrongHere
  split
  · rename_i c
    exact Int32.not_lt.mpr c
  · exact h
theorem nh_ok {σ : gM} {T M : Nat} {most : Int32} (nx : NX T σ) (hm : most.toInt < M) (hM : M < 2 ^ 31) (h : (m_numberHere σ most).2 0 6 < 0) : (m_numberHere σ most).1 = nI (nN (m_numberHere σ most).1) ∧ nN (m_numberHere σ most).1 < M := by
  unfold m_numberHere at h ⊢
  by_cases c1 : σ 0 4 = 2
  · rw [if_pos c1] at h ⊢
    by_cases c2 : lg_cmp (jl (σ 0 7) (σ 0 8)) most.toInt64 ≤ 0
    · rw [if_pos c2] at h ⊢
      have a := Int64.le_iff_toInt_le.mp ((lg_cmp_le _ _).mp c2)
      rw [Int32.toInt_toInt64] at a
      obtain ⟨k, hk, e⟩ := pk_lOf nx.2.2.1
      show (jl (σ 0 7) (σ 0 8)).toInt32 = nI (nN (jl (σ 0 7) (σ 0 8)).toInt32) ∧ nN (jl (σ 0 7) (σ 0 8)).toInt32 < M
      rw [e, pk_lT hk] at a
      rw [e, lN_i, nN_nI (by omega)]
      exact ⟨rfl, by omega⟩
    · rw [if_neg c2] at h
      exact absurd h (wh_pos nx.2.2.2)
  · rw [if_neg c1] at h
    exact absurd h (wh_pos nx.2.2.2)

def m_perhaps_m2 (σ : gM) (w : Int64) (g : Nat) (what : Nat) (σ1 : gM) (σ2 : gM) (v : Int32) : gM := if 0 ≤ (σ2 0 6) then σ2 else (m_sets σ2 g what v)
def m_perhaps_m1 (σ : gM) (w : Int64) (g : Nat) (what : Nat) (σ1 : gM) : gM := (m_perhaps_m2 σ w g what σ1 (m_numberHere σ1 (m_mostOf (nI what))).2 (m_numberHere σ1 (m_mostOf (nI what))).1)
def m_perhaps (σ : gM) (w : Int64) (g : Nat) (what : Nat) : gM := if 0 ≤ (σ 0 6) then σ else (if (m_isWord σ w) = 0 then σ else (m_perhaps_m1 σ w g what (m_next σ)))
def rm_yX7_perhaps : Room := { frames := 3, cells := 0, slots := 0, locals := 64 }
set_option maxHeartbeats 4000000 in
set_option maxRecDepth 100000 in
theorem c_yX7_perhaps (l : Launch) (G : gG) (ad : Nat → Nat) (hI : gI G.2.2.1 11 ad) (σ : gM) (w : Int64) (g : Nat) (what : Nat) (T : Nat) (hT : T ≤ 120) (nx : NX T σ) (hg : g < 8) (hw : what < 7) : gMutV l yX7_perhaps cX7_perhaps 6 none rm_yX7_perhaps G [.ref (ad 0), .long w, .int (nI g), .int (nI what)] 11 ad (shM G ad) σ (m_perhaps σ w g what) := by
  refine g_start [.ref (ad 0), .long w, .int (nI g), .int (nI what)] (by decide +kernel) (Nat.le_of_ble_eq_true rfl) ?_
  intro p e s m below meth c ls B Z hl
  obtain ⟨C, hr, hlk⟩ := B
  have hx := C.1
  have hb := C.2.1
  obtain ⟨hX, hP⟩ := Z
  have hS : va_S (gA 11 ad) s.heap s.heap [] := va_S.rf
  revert hP hS
  intro hP hS
  have hl : lv_has ls 6 [(0, .ref (ad 0)), (1, .long w), (3, .int (nI g)), (4, .int (nI what))] := hl
  refine lv_aload_n hx hb dX7_perhaps_0 rfl (lv_at hl 0 rfl) ?_
  refine g_get fd_RX7_238 C hX hP 0 (by decide) (shM_0 G ad _) (v := .int (σ 0 6)) rfl dX7_perhaps_1 ?_
  refine lv_if_ge (tgt := 46) hx hb dX7_perhaps_4 (by decide) (fun c1 => ?_) (fun c1 => ?_)
  · exact g_vretM C hr hlk (by rw [m_perhaps, if_pos c1]) hP hS dX7_perhaps_46
  · refine lv_aload_n hx hb dX7_perhaps_7 rfl (lv_at hl 0 rfl) ?_
    refine lv_lload_n hx hb dX7_perhaps_8 rfl (lv_at hl 1 rfl) ?_
    refine g_rd (g_runV (As := [.long w]) (rest := []) ky_yX7_isWord lk_RX7_243 C hX (gS_b0 hI hS) hP 0 (c_yX7_isWord l G ad hI σ w) (by decide) (shM_0 G ad _) ⟨rfl, rfl, by decide, by decide⟩ rfl hl.1 rfl (Nat.le_of_ble_eq_true rfl) ⟨Nat.zero_le _, Nat.zero_le _⟩ dX7_perhaps_9) ?_
    refine lv_if_eq (tgt := 46) hx hb dX7_perhaps_12 (by decide) (fun c2 => ?_) (fun c2 => ?_)
    · exact g_vretM C hr hlk (by rw [m_perhaps, if_neg c1, if_pos c2]) hP hS dX7_perhaps_46
    · refine lv_aload_n hx hb dX7_perhaps_15 rfl (lv_at hl 0 rfl) ?_
      refine g_wrV0 hS (g_runV (As := []) (rest := []) ky_yX7_next lk_RX7_262 C hX (gS_b0 hI hS) hP 0 (c_yX7_next l G ad hI σ  T hT nx.1 nx.2.1) (by decide) (shM_0 G ad _) ⟨rfl, rfl, by decide, by decide⟩ rfl hl.1 rfl (Nat.le_of_ble_eq_true rfl) ⟨Nat.zero_le _, Nat.zero_le _⟩ dX7_perhaps_16) (fun H locs hP hS => ?_)
      obtain ⟨σ1, eσ1⟩ : ∃ τ_ : gM, τ_ = (m_next σ) := ⟨_, rfl⟩
      rw [← eσ1] at hP
      have nx1 : NX T σ1 := by rw [eσ1]; exact next_nx hT nx
      refine lv_aload_n hx hb dX7_perhaps_19 rfl (lv_at hl 0 rfl) ?_
      refine lv_iload hx hb dX7_perhaps_20 (lv_at hl 3 rfl) ?_
      refine g_rd (g_runS (As := [.int (nI what)]) (rest := [.ref (ad 0)]) ky_yX7_mostOf lk_RX7_144 C (c_yX7_mostOf l (nI what)) ⟨rfl, rfl, by decide, by decide⟩ rfl hl.1 rfl (Nat.le_of_ble_eq_true rfl) ⟨Nat.zero_le _, Nat.zero_le _⟩ dX7_perhaps_22) ?_
      refine g_wrI0 hS (g_runV (As := [.int (m_mostOf (nI what))]) (rest := []) ky_yX7_numberHere lk_RX7_265 C hX (gS_b0 hI hS) hP 0 (c_yX7_numberHere l G ad hI σ1 (m_mostOf (nI what)) T hT nx1) (by decide) (shM_0 G ad _) ⟨rfl, rfl, by decide, by decide⟩ rfl hl.1 rfl (Nat.le_of_ble_eq_true rfl) ⟨Nat.zero_le _, Nat.zero_le _⟩ dX7_perhaps_25) (fun H locs hP hS => ?_)
      obtain ⟨σ2, eσ2⟩ : ∃ τ_ : gM, τ_ = (m_numberHere σ1 (m_mostOf (nI what))).2 := ⟨_, rfl⟩
      rw [← eσ2] at hP
      obtain ⟨v, ev⟩ : ∃ z : Int32, z = (m_numberHere σ1 (m_mostOf (nI what))).1 := ⟨_, rfl⟩
      refine lv_as (y := v) ev.symm ?_
      refine lv_istore (lv' := [(5, .int v), (0, .ref (ad 0)), (1, .long w), (3, .int (nI g)), (4, .int (nI what))]) hx hb dX7_perhaps_28 hl (by decide) rfl (fun ls hl => ?_)
      refine lv_aload_n hx hb dX7_perhaps_30 rfl (lv_at hl 1 rfl) ?_
      refine g_get fd_RX7_238 C hX hP 0 (by decide) (shM_0 G ad _) (v := .int (σ2 0 6)) rfl dX7_perhaps_31 ?_
      refine lv_if_ge (tgt := 46) hx hb dX7_perhaps_34 (by decide) (fun c3 => ?_) (fun c3 => ?_)
      · exact g_vretM C hr hlk (by rw [m_perhaps, if_neg c1, if_neg c2, ← eσ1, m_perhaps_m1, ← eσ2, ← ev, m_perhaps_m2, if_pos c3]) hP hS dX7_perhaps_46
      · refine lv_aload_n hx hb dX7_perhaps_37 rfl (lv_at hl 1 rfl) ?_
        refine lv_iload_n hx hb dX7_perhaps_38 rfl (lv_at hl 3 rfl) ?_
        refine lv_iload hx hb dX7_perhaps_39 (lv_at hl 4 rfl) ?_
        refine lv_iload hx hb dX7_perhaps_41 (lv_at hl 0 rfl) ?_
        refine g_wrV0 hS (g_runV (As := [.int (nI g), .int (nI what), .int v]) (rest := []) ky_yX7_sets lk_RX7_90 C hX (gS_b0 hI hS) hP 0 (c_yX7_sets l G ad hI σ2 g what v hg hw) (by decide) (shM_0 G ad _) ⟨rfl, rfl, by decide, by decide⟩ rfl hl.1 rfl (Nat.le_of_ble_eq_true rfl) ⟨Nat.zero_le _, Nat.zero_le _⟩ dX7_perhaps_43) (fun H locs hP hS => ?_)
        exact g_vretM C hr hlk (by rw [m_perhaps, if_neg c1, if_neg c2, ← eσ1, m_perhaps_m1, ← eσ2, ← ev, m_perhaps_m2, if_neg c3]) hP hS dX7_perhaps_46

theorem ph_0 {σ : gM} {T a0 : Nat} {w : Int64} {g what : Nat} (hT : T ≤ 120) (px : PX T a0 σ) : PX T a0 (m_perhaps σ w g what) ∧ (m_perhaps σ w g what) 1 0 = σ 1 0 := by
  unfold m_perhaps
  split
  · exact ⟨px, rfl⟩
  · split
    · exact ⟨px, rfl⟩
    · unfold m_perhaps_m1 m_perhaps_m2
      have p1 := px_next hT px
      have p2 := px_number (most := m_mostOf (nI what)) hT p1
      have e : (m_numberHere (m_next σ) (m_mostOf (nI what))).2 1 0 = σ 1 0 := by rw [nh_row hT p1.1 (by decide), next_row hT px.1.1 px.1.2.1 (by decide)]
      split
      · exact ⟨p2, e⟩
      · refine ⟨px_of p2 (fun j _ => by rw [sets_row (by decide)]) ?_, ?_⟩
        · rw [sets_lo (by decide)]
          exact p2.2.2
        · rw [sets_lo (by decide)]
          exact e
