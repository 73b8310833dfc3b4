theorem sets_lo {σ : gM} {g w j : Nat} {v : Int32} (h : j < 9) : (m_sets σ g w v) 1 j = σ 1 j := by
  unfold m_sets
  rw [mset_at]
  exact if_neg (by omega)
theorem sets_row {σ : gM} {g w k : Nat} {v : Int32} (h : k ≠ 1) : (m_sets σ g w v) k = σ k := mset_ne _ _ _ h
theorem keeps_3 (σ : gM) (g : Nat) : 3 ≤ m_keeps σ g := by
  unfold m_keeps
  repeat' split
  all_goals decide
theorem bit01 (x : Int32) : x &&& 1 = 0 ∨ x &&& 1 = 1 := by
  obtain ⟨j, hj, e⟩ := pk_andE x (m := 1) 1 (by decide)
  obtain rfl | rfl : j = 0 ∨ j = 1 := by omega
  · exact Or.inl e
  · exact Or.inr e
theorem ones_A (S : Int32) : ∀ (n i : Nat) (acc : Int32), i + n = 16 → (∀ b, i ≤ b → b < 16 → (jshr S (nI b)) &&& 1 = 0) → m_ones_L4 S n i acc = acc := by
  intro n
  induction n with
  | zero => intro i acc _ _; rw [m_ones_L4]
  | succ n ih =>
    intro i acc hi h
    rw [m_ones_L4, h i (Nat.le_refl _) (by omega), ih (i + 1) _ (by omega) (fun b h1 h2 => h b (by omega) h2)]
    exact Int32.add_zero acc
theorem ones_B (S t : Int32) : ∀ (n i : Nat) (acc : Int32), i + n = 16 → (∀ b, i ≤ b → b < 16 → (jshr S (nI b)) &&& 1 = 0 ∨ nI b = t) → m_ones_L4 S n i acc = acc ∨ m_ones_L4 S n i acc = acc + 1 := by
  intro n
  induction n with
  | zero => intro i acc _ _; exact Or.inl (by rw [m_ones_L4])
  | succ n ih =>
    intro i acc hi h
    rw [m_ones_L4]
    rcases h i (Nat.le_refl _) (by omega) with q | q
    · rw [q, Int32.add_zero]
      exact ih (i + 1) _ (by omega) (fun b h1 h2 => h b (by omega) h2)
    · rw [ones_A S n (i + 1) _ (by omega) (fun b h1 h2 => ?_)]
      · rcases bit01 (jshr S (nI i)) with z | z
        · rw [z, Int32.add_zero]; exact Or.inl rfl
        · rw [z]; exact Or.inr rfl
      · rcases h b (by omega) h2 with z | z
        · exact z
        · have := (nI_eq (a := b) (b := i) (by omega) (by omega)).mp (z.trans q.symm)
          omega
theorem ones_two {S K : Int32} (t : Int32) (hK : 3 ≤ K) (h : ¬ m_ones S ≤ K) : ∃ b, 0 ≤ b ∧ b < 16 ∧ ¬ ((jshr S (nI b)) &&& 1) = 0 ∧ ¬ nI b = t := by
  refine Classical.byContradiction (fun hn => h ?_)
  have hall : ∀ b, 0 ≤ b → b < 16 → (jshr S (nI b)) &&& 1 = 0 ∨ nI b = t := by
    intro b _ hb
    by_cases q : (jshr S (nI b)) &&& 1 = 0
    · exact Or.inl q
    · by_cases z : nI b = t
      · exact Or.inr z
      · exact absurd ⟨b, Nat.zero_le _, hb, q, z⟩ hn
  have hk := Int32.le_iff_toInt_le.mp hK
  have h3 : (3 : Int32).toInt = 3 := rfl
  rw [Int32.le_iff_toInt_le, show m_ones S = m_ones_L4 S 16 0 0 from rfl]
  rcases ones_B S t 16 0 0 rfl hall with e | e
  · rw [e]; have : (0 : Int32).toInt = 0 := rfl; omega
  · rw [e]; have : ((0 : Int32) + 1).toInt = 1 := rfl; omega

def m_learns_L26 (σ : gM) (g : Nat) (topic : Int32) : Nat → Nat → gM
  | 0, i => σ
  | n26 + 1, i => if ((jshr ((m_its σ g 3) ||| (jshl 1 topic)) (nI i)) &&& 1) = 0 then (m_learns_L26 σ g topic n26 (i + 1)) else (if (nI i) = topic then (m_learns_L26 σ g topic n26 (i + 1)) else (m_sets σ g 3 (((m_its σ g 3) ||| (jshl 1 topic)) &&& ((jshl 1 (nI i)) ^^^ (-1)))))
def m_learns (σ : gM) (g : Nat) (topic : Int32) : gM := if (m_ones ((m_its σ g 3) ||| (jshl 1 topic))) ≤ (m_keeps σ g) then (m_sets σ g 3 ((m_its σ g 3) ||| (jshl 1 topic))) else (m_learns_L26 σ g topic 16 0)
def rm_yX7_learns : Room := { frames := 2, cells := 0, slots := 0, locals := 43 }
set_option maxHeartbeats 4000000 in
set_option maxRecDepth 100000 in
theorem c_yX7_learns (l : Launch) (G : gG) (ad : Nat → Nat) (hI : gI G.2.2.1 11 ad) (σ : gM) (g : Nat) (topic : Int32) (hg : g < 8) : gMutV l yX7_learns cX7_learns 5 none rm_yX7_learns G [.ref (ad 0), .int (nI g), .int topic] 11 ad (shM G ad) σ (m_learns σ g topic) := by
  refine g_start [.ref (ad 0), .int (nI g), .int topic] (by decide +kernel) (Nat.le_of_ble_eq_true rfl) ?_
  intro p e s m below meth c ls B Z hl
  obtain ⟨C, hr, hlk⟩ := B
  have hx := C.1
  have hb := C.2.1
  obtain ⟨hX, hP⟩ := Z
  have hS : va_S (gA 11 ad) s.heap s.heap [] := va_S.rf
  revert hP hS
  intro hP hS
  have hl : lv_has ls 5 [(0, .ref (ad 0)), (1, .int (nI g)), (2, .int topic)] := hl
  refine lv_aload_n hx hb dX7_learns_0 rfl (lv_at hl 0 rfl) ?_
  refine lv_iload_n hx hb dX7_learns_1 rfl (lv_at hl 1 rfl) ?_
  refine lv_iconst (v := 3) hx hb dX7_learns_2 (by decide) ?_
  refine g_rd (g_runV (As := [.int (nI g), .int 3]) (rest := []) ky_yX7_its lk_RX7_58 C hX (gS_b0 hI hS) hP 0 (c_yX7_its l G ad hI σ g 3 (by omega) (by decide)) (by decide) (shM_0 G ad _) ⟨rfl, rfl, by decide, by decide⟩ rfl hl.1 rfl (Nat.le_of_ble_eq_true rfl) ⟨Nat.zero_le _, Nat.zero_le _⟩ dX7_learns_3) ?_
  refine lv_iconst (v := 1) hx hb dX7_learns_6 (by decide) ?_
  refine lv_iload_n hx hb dX7_learns_7 rfl (lv_at hl 2 rfl) ?_
  refine g_ishl hx hb dX7_learns_8 ?_
  refine lv_ior hx hb dX7_learns_9 ?_
  refine lv_istore_n (lv' := [(3, .int ((m_its σ g 3) ||| (jshl 1 topic))), (0, .ref (ad 0)), (1, .int (nI g)), (2, .int topic)]) hx hb dX7_learns_10 rfl hl (by decide) rfl (fun ls hl => ?_)
  refine lv_iload_n hx hb dX7_learns_11 rfl (lv_at hl 0 rfl) ?_
  refine g_rd (g_runS (As := [.int ((m_its σ g 3) ||| (jshl 1 topic))]) (rest := []) ky_yX7_ones lk_RX7_84 C (c_yX7_ones l ((m_its σ g 3) ||| (jshl 1 topic))) ⟨rfl, rfl, by decide, by decide⟩ rfl hl.1 rfl (Nat.le_of_ble_eq_true rfl) ⟨Nat.zero_le _, Nat.zero_le _⟩ dX7_learns_12) ?_
  refine lv_aload_n hx hb dX7_learns_15 rfl (lv_at hl 1 rfl) ?_
  refine lv_iload_n hx hb dX7_learns_16 rfl (lv_at hl 2 rfl) ?_
  refine g_rd (g_runV (As := [.int (nI g)]) (rest := [.int (m_ones ((m_its σ g 3) ||| (jshl 1 topic)))]) ky_yX7_keeps lk_RX7_87 C hX (gS_b0 hI hS) hP 0 (c_yX7_keeps l G ad hI σ g hg) (by decide) (shM_0 G ad _) ⟨rfl, rfl, by decide, by decide⟩ rfl hl.1 rfl (Nat.le_of_ble_eq_true rfl) ⟨Nat.zero_le _, Nat.zero_le _⟩ dX7_learns_17) ?_
  refine lv_icmp_le (tgt := 56) hx hb dX7_learns_20 (by decide) (fun c1 => ?_) (fun c1 => ?_)
  · refine lv_aload_n hx hb dX7_learns_56 rfl (lv_at hl 1 rfl) ?_
    refine lv_iload_n hx hb dX7_learns_57 rfl (lv_at hl 2 rfl) ?_
    refine lv_iconst (v := 3) hx hb dX7_learns_58 (by decide) ?_
    refine lv_iload_n hx hb dX7_learns_59 rfl (lv_at hl 0 rfl) ?_
    refine g_wrV0 hS (g_runV (As := [.int (nI g), .int 3, .int ((m_its σ g 3) ||| (jshl 1 topic))]) (rest := []) ky_yX7_sets lk_RX7_90 C hX (gS_b0 hI hS) hP 0 (c_yX7_sets l G ad hI σ g 3 ((m_its σ g 3) ||| (jshl 1 topic)) (by omega) (by decide)) (by decide) (shM_0 G ad _) ⟨rfl, rfl, by decide, by decide⟩ rfl hl.1 rfl (Nat.le_of_ble_eq_true rfl) ⟨Nat.zero_le _, Nat.zero_le _⟩ dX7_learns_60) (fun H locs hP hS => ?_)
    exact g_vretM C hr hlk (by rw [m_learns, if_pos c1]) hP hS dX7_learns_63
  · refine lv_iconst (v := 0) hx hb dX7_learns_23 (by decide) ?_
    refine lv_istore (lv' := [(4, .int 0), (3, .int ((m_its σ g 3) ||| (jshl 1 topic))), (0, .ref (ad 0)), (1, .int (nI g)), (2, .int topic)]) hx hb dX7_learns_24 hl (by decide) rfl (fun ls hl => ?_)
    suffices loop26 : ∀ (n26 : Nat) (i : Nat) (H : Heap) (locs : List Loc) (ls : Array Slot), (i + n26 = 16) → (∃ b, i ≤ b ∧ b < 16 ∧ ¬ ((jshr ((m_its σ g 3) ||| (jshl 1 topic)) (nI b)) &&& 1) = 0 ∧ ¬ nI b = topic) → m_learns σ g topic = (m_learns_L26 σ g topic n26 i) → gP G.1 11 ad (gE (shM G ad) σ) H → va_S (gA 11 ad) s.heap H locs → lv_has ls 5 [(4, .int (nI i)), (3, .int ((m_its σ g 3) ||| (jshl 1 topic))), (0, .ref (ad 0)), (1, .int (nI g)), (2, .int topic)] → W p l e rm_yX7_learns s m ([.ref (ad 0), .int (nI g), .int topic] : List Value).toArray below meth c H locs 0 0 (MQ below (va_Qv (fun τ : gM => τ = m_learns σ g topic) (fun τ t => gP G.1 11 ad (gE (shM G ad) τ) t.heap) (gA 11 ad)) ([.ref (ad 0), .int (nI g), .int topic] : List Value).toArray s 0 0 (gA 11 ad)) (F0 m 26 ls []) by
      exact loop26 16 0 _ _ _ rfl (ones_two topic (keeps_3 _ _) (by assumption)) (by rw [m_learns, if_neg c1]) hP hS (lv_sub hl [0, 1, 2, 3, 4] rfl)
    intro n26
    induction n26 with
    | zero =>
      intro i H locs ls hi26 hb26 hres26 hP hS hl
      obtain ⟨b, q1, q2, -⟩ := hb26
      exact absurd q1 (by omega)
    | succ n26 ih26 =>
      intro i H locs ls hi26 hb26 hres26 hP hS hl
      refine lv_iload_n hx hb dX7_learns_26 rfl (lv_at hl 1 rfl) ?_
      refine lv_iload hx hb dX7_learns_27 (lv_at hl 0 rfl) ?_
      refine g_ishr hx hb dX7_learns_29 ?_
      refine lv_iconst (v := 1) hx hb dX7_learns_30 (by decide) ?_
      refine lv_iand hx hb dX7_learns_31 ?_
      refine lv_if_eq (tgt := 41) hx hb dX7_learns_32 (by decide) (fun c2 => ?_) (fun c2 => ?_)
      · refine lv_iinc (v := (nI (i + 1))) (lv' := [(4, .int (nI (i + 1))), (3, .int ((m_its σ g 3) ||| (jshl 1 topic))), (0, .ref (ad 0)), (1, .int (nI g)), (2, .int topic)]) hx hb dX7_learns_41 hl (k := 0) rfl (by exact nI_1 _) (by decide) rfl (fun ls hl => ?_)
        refine lv_goto (tgt := 26) hx hb dX7_learns_44 (by decide) ?_
        exact ih26 (i + 1) _ _ _ (by omega) (by obtain ⟨b, q1, q2, q3, q4⟩ := hb26; refine ⟨b, Nat.lt_of_le_of_ne q1 (fun e => ?_), q2, q3, q4⟩; subst e; first | exact q3 (by assumption) | exact q4 (by assumption)) (by rw [hres26, m_learns_L26, if_pos c2]) hP hS (lv_sub hl [0, 1, 2, 3, 4] rfl)
      · refine lv_iload hx hb dX7_learns_35 (lv_at hl 0 rfl) ?_
        refine lv_iload_n hx hb dX7_learns_37 rfl (lv_at hl 4 rfl) ?_
        refine lv_icmp_ne (tgt := 47) hx hb dX7_learns_38 (by decide) (fun c3 => ?_) (fun c3 => ?_)
        · refine lv_iload_n hx hb dX7_learns_47 rfl (lv_at hl 1 rfl) ?_
          refine lv_iconst (v := 1) hx hb dX7_learns_48 (by decide) ?_
          refine lv_iload hx hb dX7_learns_49 (lv_at hl 0 rfl) ?_
          refine g_ishl hx hb dX7_learns_51 ?_
          refine lv_iconst (v := (-1)) hx hb dX7_learns_52 (by decide) ?_
          refine lv_ixor hx hb dX7_learns_53 ?_
          refine lv_iand hx hb dX7_learns_54 ?_
          refine lv_istore_n (lv' := [(3, .int (((m_its σ g 3) ||| (jshl 1 topic)) &&& ((jshl 1 (nI i)) ^^^ (-1)))), (4, .int (nI i)), (0, .ref (ad 0)), (1, .int (nI g)), (2, .int topic)]) hx hb dX7_learns_55 rfl hl (by decide) rfl (fun ls hl => ?_)
          refine lv_aload_n hx hb dX7_learns_56 rfl (lv_at hl 2 rfl) ?_
          refine lv_iload_n hx hb dX7_learns_57 rfl (lv_at hl 3 rfl) ?_
          refine lv_iconst (v := 3) hx hb dX7_learns_58 (by decide) ?_
          refine lv_iload_n hx hb dX7_learns_59 rfl (lv_at hl 0 rfl) ?_
          refine g_wrV0 hS (g_runV (As := [.int (nI g), .int 3, .int (((m_its σ g 3) ||| (jshl 1 topic)) &&& ((jshl 1 (nI i)) ^^^ (-1)))]) (rest := []) ky_yX7_sets lk_RX7_90 C hX (gS_b0 hI hS) hP 0 (c_yX7_sets l G ad hI σ g 3 (((m_its σ g 3) ||| (jshl 1 topic)) &&& ((jshl 1 (nI i)) ^^^ (-1))) (by omega) (by decide)) (by decide) (shM_0 G ad _) ⟨rfl, rfl, by decide, by decide⟩ rfl hl.1 rfl (Nat.le_of_ble_eq_true rfl) ⟨Nat.zero_le _, Nat.zero_le _⟩ dX7_learns_60) (fun H locs hP hS => ?_)
          exact g_vretM C hr hlk (by rw [hres26, m_learns_L26, if_neg c2, if_neg c3]) hP hS dX7_learns_63
        · refine lv_iinc (v := (nI (i + 1))) (lv' := [(4, .int (nI (i + 1))), (3, .int ((m_its σ g 3) ||| (jshl 1 topic))), (0, .ref (ad 0)), (1, .int (nI g)), (2, .int topic)]) hx hb dX7_learns_41 hl (k := 0) rfl (by exact nI_1 _) (by decide) rfl (fun ls hl => ?_)
          refine lv_goto (tgt := 26) hx hb dX7_learns_44 (by decide) ?_
          exact ih26 (i + 1) _ _ _ (by omega) (by obtain ⟨b, q1, q2, q3, q4⟩ := hb26; refine ⟨b, Nat.lt_of_le_of_ne q1 (fun e => ?_), q2, q3, q4⟩; subst e; first | exact q3 (by assumption) | exact q4 (by assumption)) (by rw [hres26, m_learns_L26, if_neg c2, if_pos c3]) hP hS (lv_sub hl [0, 1, 2, 3, 4] rfl)

def m_drawnOn (σ : gM) (g : Nat) : gM := (m_sets (m_sets (m_sets (m_sets (m_sets σ g 5 ((m_its σ g 5) ||| (m_its σ g 3))) g 3 0) g 4 0) g 6 (m_held ((m_its (m_sets (m_sets (m_sets σ g 5 ((m_its σ g 5) ||| (m_its σ g 3))) g 3 0) g 4 0) g 6) + 1) 0 9999)) g 1 (jrem ((m_its (m_sets (m_sets (m_sets (m_sets σ g 5 ((m_its σ g 5) ||| (m_its σ g 3))) g 3 0) g 4 0) g 6 (m_held ((m_its (m_sets (m_sets (m_sets σ g 5 ((m_its σ g 5) ||| (m_its σ g 3))) g 3 0) g 4 0) g 6) + 1) 0 9999)) g 1) + 1) 6))
def rm_yX7_drawnOn : Room := { frames := 1, cells := 0, slots := 0, locals := 23 }
set_option maxHeartbeats 4000000 in
set_option maxRecDepth 100000 in
theorem c_yX7_drawnOn (l : Launch) (G : gG) (ad : Nat → Nat) (hI : gI G.2.2.1 11 ad) (σ : gM) (g : Nat) (hg : g < 8) : gMutV l yX7_drawnOn cX7_drawnOn 2 none rm_yX7_drawnOn G [.ref (ad 0), .int (nI g)] 11 ad (shM G ad) σ (m_drawnOn σ g) := by
  refine g_start [.ref (ad 0), .int (nI g)] (by decide +kernel) (Nat.le_of_ble_eq_true rfl) ?_
  intro p e s m below meth c ls B Z hl
  obtain ⟨C, hr, hlk⟩ := B
  have hx := C.1
  have hb := C.2.1
  obtain ⟨hX, hP⟩ := Z
  have hS : va_S (gA 11 ad) s.heap s.heap [] := va_S.rf
  revert hP hS
  intro hP hS
  have hl : lv_has ls 2 [(0, .ref (ad 0)), (1, .int (nI g))] := hl
  refine lv_aload_n hx hb dX7_drawnOn_0 rfl (lv_at hl 0 rfl) ?_
  refine lv_iload_n hx hb dX7_drawnOn_1 rfl (lv_at hl 1 rfl) ?_
  refine lv_iconst (v := 5) hx hb dX7_drawnOn_2 (by decide) ?_
  refine lv_aload_n hx hb dX7_drawnOn_3 rfl (lv_at hl 0 rfl) ?_
  refine lv_iload_n hx hb dX7_drawnOn_4 rfl (lv_at hl 1 rfl) ?_
  refine lv_iconst (v := 5) hx hb dX7_drawnOn_5 (by decide) ?_
  refine g_rd (g_runV (As := [.int (nI g), .int 5]) (rest := [.int 5, .int (nI g), .ref (ad 0)]) ky_yX7_its lk_RX7_58 C hX (gS_b0 hI hS) hP 0 (c_yX7_its l G ad hI σ g 5 (by omega) (by decide)) (by decide) (shM_0 G ad _) ⟨rfl, rfl, by decide, by decide⟩ rfl hl.1 rfl (Nat.le_of_ble_eq_true rfl) ⟨Nat.zero_le _, Nat.zero_le _⟩ dX7_drawnOn_6) ?_
  refine lv_aload_n hx hb dX7_drawnOn_9 rfl (lv_at hl 0 rfl) ?_
  refine lv_iload_n hx hb dX7_drawnOn_10 rfl (lv_at hl 1 rfl) ?_
  refine lv_iconst (v := 3) hx hb dX7_drawnOn_11 (by decide) ?_
  refine g_rd (g_runV (As := [.int (nI g), .int 3]) (rest := [.int (m_its σ g 5), .int 5, .int (nI g), .ref (ad 0)]) ky_yX7_its lk_RX7_58 C hX (gS_b0 hI hS) hP 0 (c_yX7_its l G ad hI σ g 3 (by omega) (by decide)) (by decide) (shM_0 G ad _) ⟨rfl, rfl, by decide, by decide⟩ rfl hl.1 rfl (Nat.le_of_ble_eq_true rfl) ⟨Nat.zero_le _, Nat.zero_le _⟩ dX7_drawnOn_12) ?_
  refine lv_ior hx hb dX7_drawnOn_15 ?_
  refine g_wrV0 hS (g_runV (As := [.int (nI g), .int 5, .int ((m_its σ g 5) ||| (m_its σ g 3))]) (rest := []) ky_yX7_sets lk_RX7_90 C hX (gS_b0 hI hS) hP 0 (c_yX7_sets l G ad hI σ g 5 ((m_its σ g 5) ||| (m_its σ g 3)) (by omega) (by decide)) (by decide) (shM_0 G ad _) ⟨rfl, rfl, by decide, by decide⟩ rfl hl.1 rfl (Nat.le_of_ble_eq_true rfl) ⟨Nat.zero_le _, Nat.zero_le _⟩ dX7_drawnOn_16) (fun H locs hP hS => ?_)
  refine lv_aload_n hx hb dX7_drawnOn_19 rfl (lv_at hl 0 rfl) ?_
  refine lv_iload_n hx hb dX7_drawnOn_20 rfl (lv_at hl 1 rfl) ?_
  refine lv_iconst (v := 3) hx hb dX7_drawnOn_21 (by decide) ?_
  refine lv_iconst (v := 0) hx hb dX7_drawnOn_22 (by decide) ?_
  refine g_wrV0 hS (g_runV (As := [.int (nI g), .int 3, .int 0]) (rest := []) ky_yX7_sets lk_RX7_90 C hX (gS_b0 hI hS) hP 0 (c_yX7_sets l G ad hI (m_sets σ g 5 ((m_its σ g 5) ||| (m_its σ g 3))) g 3 0 (by omega) (by decide)) (by decide) (shM_0 G ad _) ⟨rfl, rfl, by decide, by decide⟩ rfl hl.1 rfl (Nat.le_of_ble_eq_true rfl) ⟨Nat.zero_le _, Nat.zero_le _⟩ dX7_drawnOn_23) (fun H locs hP hS => ?_)
  refine lv_aload_n hx hb dX7_drawnOn_26 rfl (lv_at hl 0 rfl) ?_
  refine lv_iload_n hx hb dX7_drawnOn_27 rfl (lv_at hl 1 rfl) ?_
  refine lv_iconst (v := 4) hx hb dX7_drawnOn_28 (by decide) ?_
  refine lv_iconst (v := 0) hx hb dX7_drawnOn_29 (by decide) ?_
  refine g_wrV0 hS (g_runV (As := [.int (nI g), .int 4, .int 0]) (rest := []) ky_yX7_sets lk_RX7_90 C hX (gS_b0 hI hS) hP 0 (c_yX7_sets l G ad hI (m_sets (m_sets σ g 5 ((m_its σ g 5) ||| (m_its σ g 3))) g 3 0) g 4 0 (by omega) (by decide)) (by decide) (shM_0 G ad _) ⟨rfl, rfl, by decide, by decide⟩ rfl hl.1 rfl (Nat.le_of_ble_eq_true rfl) ⟨Nat.zero_le _, Nat.zero_le _⟩ dX7_drawnOn_30) (fun H locs hP hS => ?_)
  refine lv_aload_n hx hb dX7_drawnOn_33 rfl (lv_at hl 0 rfl) ?_
  refine lv_iload_n hx hb dX7_drawnOn_34 rfl (lv_at hl 1 rfl) ?_
  refine lv_bipush (v := 6) hx hb dX7_drawnOn_35 (by decide) ?_
  refine lv_aload_n hx hb dX7_drawnOn_37 rfl (lv_at hl 0 rfl) ?_
  refine lv_iload_n hx hb dX7_drawnOn_38 rfl (lv_at hl 1 rfl) ?_
  refine lv_bipush (v := 6) hx hb dX7_drawnOn_39 (by decide) ?_
  refine g_rd (g_runV (As := [.int (nI g), .int 6]) (rest := [.int 6, .int (nI g), .ref (ad 0)]) ky_yX7_its lk_RX7_58 C hX (gS_b0 hI hS) hP 0 (c_yX7_its l G ad hI (m_sets (m_sets (m_sets σ g 5 ((m_its σ g 5) ||| (m_its σ g 3))) g 3 0) g 4 0) g 6 (by omega) (by decide)) (by decide) (shM_0 G ad _) ⟨rfl, rfl, by decide, by decide⟩ rfl hl.1 rfl (Nat.le_of_ble_eq_true rfl) ⟨Nat.zero_le _, Nat.zero_le _⟩ dX7_drawnOn_41) ?_
  refine lv_iconst (v := 1) hx hb dX7_drawnOn_44 (by decide) ?_
  refine lv_iadd hx hb dX7_drawnOn_45 ?_
  refine lv_iconst (v := 0) hx hb dX7_drawnOn_46 (by decide) ?_
  refine lv_sipush (v := 9999) hx hb dX7_drawnOn_47 (by decide) ?_
  refine g_rd (g_runS (As := [.int ((m_its (m_sets (m_sets (m_sets σ g 5 ((m_its σ g 5) ||| (m_its σ g 3))) g 3 0) g 4 0) g 6) + 1), .int 0, .int 9999]) (rest := [.int 6, .int (nI g), .ref (ad 0)]) ky_yX7_held lk_RX7_66 C (c_yX7_held l ((m_its (m_sets (m_sets (m_sets σ g 5 ((m_its σ g 5) ||| (m_its σ g 3))) g 3 0) g 4 0) g 6) + 1) 0 9999) ⟨rfl, rfl, by decide, by decide⟩ rfl hl.1 rfl (Nat.le_of_ble_eq_true rfl) ⟨Nat.zero_le _, Nat.zero_le _⟩ dX7_drawnOn_50) ?_
  refine g_wrV0 hS (g_runV (As := [.int (nI g), .int 6, .int (m_held ((m_its (m_sets (m_sets (m_sets σ g 5 ((m_its σ g 5) ||| (m_its σ g 3))) g 3 0) g 4 0) g 6) + 1) 0 9999)]) (rest := []) ky_yX7_sets lk_RX7_90 C hX (gS_b0 hI hS) hP 0 (c_yX7_sets l G ad hI (m_sets (m_sets (m_sets σ g 5 ((m_its σ g 5) ||| (m_its σ g 3))) g 3 0) g 4 0) g 6 (m_held ((m_its (m_sets (m_sets (m_sets σ g 5 ((m_its σ g 5) ||| (m_its σ g 3))) g 3 0) g 4 0) g 6) + 1) 0 9999) (by omega) (by decide)) (by decide) (shM_0 G ad _) ⟨rfl, rfl, by decide, by decide⟩ rfl hl.1 rfl (Nat.le_of_ble_eq_true rfl) ⟨Nat.zero_le _, Nat.zero_le _⟩ dX7_drawnOn_53) (fun H locs hP hS => ?_)
  refine lv_aload_n hx hb dX7_drawnOn_56 rfl (lv_at hl 0 rfl) ?_
  refine lv_iload_n hx hb dX7_drawnOn_57 rfl (lv_at hl 1 rfl) ?_
  refine lv_iconst (v := 1) hx hb dX7_drawnOn_58 (by decide) ?_
  refine lv_aload_n hx hb dX7_drawnOn_59 rfl (lv_at hl 0 rfl) ?_
  refine lv_iload_n hx hb dX7_drawnOn_60 rfl (lv_at hl 1 rfl) ?_
  refine lv_iconst (v := 1) hx hb dX7_drawnOn_61 (by decide) ?_
  refine g_rd (g_runV (As := [.int (nI g), .int 1]) (rest := [.int 1, .int (nI g), .ref (ad 0)]) ky_yX7_its lk_RX7_58 C hX (gS_b0 hI hS) hP 0 (c_yX7_its l G ad hI (m_sets (m_sets (m_sets (m_sets σ g 5 ((m_its σ g 5) ||| (m_its σ g 3))) g 3 0) g 4 0) g 6 (m_held ((m_its (m_sets (m_sets (m_sets σ g 5 ((m_its σ g 5) ||| (m_its σ g 3))) g 3 0) g 4 0) g 6) + 1) 0 9999)) g 1 (by omega) (by decide)) (by decide) (shM_0 G ad _) ⟨rfl, rfl, by decide, by decide⟩ rfl hl.1 rfl (Nat.le_of_ble_eq_true rfl) ⟨Nat.zero_le _, Nat.zero_le _⟩ dX7_drawnOn_62) ?_
  refine lv_iconst (v := 1) hx hb dX7_drawnOn_65 (by decide) ?_
  refine lv_iadd hx hb dX7_drawnOn_66 ?_
  refine lv_bipush (v := 6) hx hb dX7_drawnOn_67 (by decide) ?_
  refine g_irem hx hb dX7_drawnOn_69 (by decide) ?_
  refine g_wrV0 hS (g_runV (As := [.int (nI g), .int 1, .int (jrem ((m_its (m_sets (m_sets (m_sets (m_sets σ g 5 ((m_its σ g 5) ||| (m_its σ g 3))) g 3 0) g 4 0) g 6 (m_held ((m_its (m_sets (m_sets (m_sets σ g 5 ((m_its σ g 5) ||| (m_its σ g 3))) g 3 0) g 4 0) g 6) + 1) 0 9999)) g 1) + 1) 6)]) (rest := []) ky_yX7_sets lk_RX7_90 C hX (gS_b0 hI hS) hP 0 (c_yX7_sets l G ad hI (m_sets (m_sets (m_sets (m_sets σ g 5 ((m_its σ g 5) ||| (m_its σ g 3))) g 3 0) g 4 0) g 6 (m_held ((m_its (m_sets (m_sets (m_sets σ g 5 ((m_its σ g 5) ||| (m_its σ g 3))) g 3 0) g 4 0) g 6) + 1) 0 9999)) g 1 (jrem ((m_its (m_sets (m_sets (m_sets (m_sets σ g 5 ((m_its σ g 5) ||| (m_its σ g 3))) g 3 0) g 4 0) g 6 (m_held ((m_its (m_sets (m_sets (m_sets σ g 5 ((m_its σ g 5) ||| (m_its σ g 3))) g 3 0) g 4 0) g 6) + 1) 0 9999)) g 1) + 1) 6) (by omega) (by decide)) (by decide) (shM_0 G ad _) ⟨rfl, rfl, by decide, by decide⟩ rfl hl.1 rfl (Nat.le_of_ble_eq_true rfl) ⟨Nat.zero_le _, Nat.zero_le _⟩ dX7_drawnOn_70) (fun H locs hP hS => ?_)
  exact g_vretM C hr hlk (by rw [m_drawnOn]) hP hS dX7_drawnOn_73

def m_todays (σ : gM) : Int32 := (σ 1 (3 + (nN (σ 1 1)) % 6))
def rm_yX7_todays : Room := { frames := 0, cells := 0, slots := 0, locals := 0 }
set_option maxHeartbeats 4000000 in
set_option maxRecDepth 100000 in
theorem c_yX7_todays (l : Launch) (G : gG) (ad : Nat → Nat) (hI : gI G.2.2.1 11 ad) (σ : gM) (hd : ¬ σ 1 1 < 0) : gRead l yX7_todays cX7_todays 1 (some .int) rm_yX7_todays G [.ref (ad 0)] 11 ad (gE (shM G ad) σ) (m_todays σ) := by
  refine g_start [.ref (ad 0)] (by decide +kernel) (Nat.le_of_ble_eq_true rfl) ?_
  intro p e s m below meth c ls B Z hl
  obtain ⟨C, hr, hlk⟩ := B
  have hx := C.1
  have hb := C.2.1
  obtain ⟨hX, hP⟩ := Z
  have hS : va_S (gA 11 ad) s.heap s.heap [] := va_S.rf
  have hl : lv_has ls 1 [(0, .ref (ad 0))] := hl
  refine lv_aload_n hx hb dX7_todays_0 rfl (lv_at hl 0 rfl) ?_
  refine g_get fd_RX7_7 C hX hP 0 (by decide) (shM_0 G ad _) (v := .ref (ad 1)) rfl dX7_todays_1 ?_
  refine lv_iconst (v := 3) hx hb dX7_todays_4 (by decide) ?_
  refine lv_aload_n hx hb dX7_todays_5 rfl (lv_at hl 0 rfl) ?_
  refine g_get fd_RX7_7 C hX hP 0 (by decide) (shM_0 G ad _) (v := .ref (ad 1)) rfl dX7_todays_6 ?_
  refine lv_iconst (v := 1) hx hb dX7_todays_9 (by decide) ?_
  refine lv_as (y := nI 1) rfl ?_
  refine g_iald C hX hP 1 (by decide) (shM_1 G ad _) 1 (by omega) (by decide) dX7_todays_10 ?_
  refine lv_bipush (v := 6) hx hb dX7_todays_11 (by decide) ?_
  refine g_irem hx hb dX7_todays_13 (by decide) ?_
  refine lv_iadd hx hb dX7_todays_14 ?_
  refine lv_as (y := (nI (3 + (nN (σ 1 1)) % 6))) (ix_day hd) ?_
  refine g_iald C hX hP 1 (by decide) (shM_1 G ad _) (3 + (nN (σ 1 1)) % 6) (by omega) (by decide) dX7_todays_15 ?_
  exact g_iret C hr hlk rfl (by rw [m_todays]) rfl rfl dX7_todays_16

theorem learns_L_lo {g : Nat} {t : Int32} {σ : gM} : ∀ (n i : Nat), ∀ j, j < 9 → (m_learns_L26 σ g t n i) 1 j = σ 1 j := by
  intro n
  induction n with
  | zero => intro i j _; rw [m_learns_L26]
  | succ n ih =>
    intro i j hj
    rw [m_learns_L26]
    repeat' split
    all_goals first | exact ih _ j hj | exact sets_lo hj
theorem learns_lo {σ : gM} {g j : Nat} {t : Int32} (h : j < 9) : (m_learns σ g t) 1 j = σ 1 j := by
  unfold m_learns
  split
  · exact sets_lo h
  · exact learns_L_lo _ _ j h
theorem learns_L_row {g : Nat} {t : Int32} {σ : gM} {k : Nat} (hk : k ≠ 1) : ∀ (n i : Nat), (m_learns_L26 σ g t n i) k = σ k := by
  intro n
  induction n with
  | zero => intro i; rw [m_learns_L26]
  | succ n ih =>
    intro i
    rw [m_learns_L26]
    repeat' split
    all_goals first | exact ih _ | exact sets_row hk
theorem learns_row {σ : gM} {g k : Nat} {t : Int32} (hk : k ≠ 1) : (m_learns σ g t) k = σ k := by
  unfold m_learns
  split
  · exact sets_row hk
  · exact learns_L_row hk _ _
theorem drawnOn_lo {σ : gM} {g j : Nat} (h : j < 9) : (m_drawnOn σ g) 1 j = σ 1 j := by
  unfold m_drawnOn
  rw [sets_lo h, sets_lo h, sets_lo h, sets_lo h, sets_lo h]
theorem drawnOn_row {σ : gM} {g k : Nat} (hk : k ≠ 1) : (m_drawnOn σ g) k = σ k := by
  unfold m_drawnOn
  rw [sets_row hk, sets_row hk, sets_row hk, sets_row hk, sets_row hk]

def m_dayGoes_L53 (σ : gM) (i : Nat) (τ : gM) : Nat → Nat → gM → gM
  | 0, i2, τ2 => (mset τ2 1 1 (m_held ((τ2 1 1) + 1) 0 99999))
  | n53 + 1, i2, τ2 => if ((jshr (τ2 0 2) (nI i2)) &&& 1) = 0 then (if (m_stays (m_sets τ2 i2 4 (m_held ((m_its τ2 i2 4) + 1) 0 9999)) i2) ≤ 0 then (m_dayGoes_L53 σ i τ n53 (i2 + 1) (m_sets τ2 i2 4 (m_held ((m_its τ2 i2 4) + 1) 0 9999))) else (if (m_its (m_sets τ2 i2 4 (m_held ((m_its τ2 i2 4) + 1) 0 9999)) i2 4) < (m_stays (m_sets τ2 i2 4 (m_held ((m_its τ2 i2 4) + 1) 0 9999)) i2) then (m_dayGoes_L53 σ i τ n53 (i2 + 1) (m_sets τ2 i2 4 (m_held ((m_its τ2 i2 4) + 1) 0 9999))) else (m_dayGoes_L53 σ i τ n53 (i2 + 1) (m_drawnOn (m_sets τ2 i2 4 (m_held ((m_its τ2 i2 4) + 1) 0 9999)) i2)))) else (m_dayGoes_L53 σ i τ n53 (i2 + 1) τ2)
def m_dayGoes_L11 (σ : gM) : Nat → Nat → gM → gM
  | 0, i, τ => (m_dayGoes_L53 σ i τ (nN (σ 1 0)) 0 τ)
  | n11 + 1, i, τ => if ((jshr (m_hearers σ (m_todays σ)) (nI i)) &&& 1) = 1 then (m_dayGoes_L11 σ n11 (i + 1) (m_learns τ i (jrem ((m_todays τ) / 10) 100))) else (m_dayGoes_L11 σ n11 (i + 1) τ)
def m_dayGoes (σ : gM) : gM := (m_dayGoes_L11 σ (nN (σ 1 0)) 0 σ)
def rm_yX7_dayGoes : Room := { frames := 5, cells := 0, slots := 0, locals := 114 }
set_option maxHeartbeats 4000000 in
set_option maxRecDepth 100000 in
theorem c_yX7_dayGoes (l : Launch) (G : gG) (ad : Nat → Nat) (hI : gI G.2.2.1 11 ad) (σ : gM) (N : Nat) (hN : N ≤ 8) (hs : σ 1 0 = nI N) (hd : ¬ σ 1 1 < 0) : gMutV l yX7_dayGoes cX7_dayGoes 3 none rm_yX7_dayGoes G [.ref (ad 0)] 11 ad (shM G ad) σ (m_dayGoes σ) := by
  refine g_start [.ref (ad 0)] (by decide +kernel) (Nat.le_of_ble_eq_true rfl) ?_
  intro p e s m below meth c ls B Z hl
  obtain ⟨C, hr, hlk⟩ := B
  have hx := C.1
  have hb := C.2.1
  obtain ⟨hX, hP⟩ := Z
  have hS : va_S (gA 11 ad) s.heap s.heap [] := va_S.rf
  revert hP hS
  intro hP hS
  have hl : lv_has ls 3 [(0, .ref (ad 0))] := hl
  refine lv_aload_n hx hb dX7_dayGoes_0 rfl (lv_at hl 0 rfl) ?_
  refine lv_aload_n hx hb dX7_dayGoes_1 rfl (lv_at hl 0 rfl) ?_
  refine g_rd (g_runV (As := []) (rest := [.ref (ad 0)]) ky_yX7_todays lk_RX7_94 C hX (gS_b0 hI hS) hP 0 (c_yX7_todays l G ad hI σ  hd) (by decide) (shM_0 G ad _) ⟨rfl, rfl, by decide, by decide⟩ rfl hl.1 rfl (Nat.le_of_ble_eq_true rfl) ⟨Nat.zero_le _, Nat.zero_le _⟩ dX7_dayGoes_2) ?_
  refine g_rd (g_runV (As := [.int (m_todays σ)]) (rest := []) ky_yX7_hearers lk_RX7_98 C hX (gS_b0 hI hS) hP 0 (c_yX7_hearers l G ad hI σ (m_todays σ) N hN hs) (by decide) (shM_0 G ad _) ⟨rfl, rfl, by decide, by decide⟩ rfl hl.1 rfl (Nat.le_of_ble_eq_true rfl) ⟨Nat.zero_le _, Nat.zero_le _⟩ dX7_dayGoes_5) ?_
  refine lv_istore_n (lv' := [(1, .int (m_hearers σ (m_todays σ))), (0, .ref (ad 0))]) hx hb dX7_dayGoes_8 rfl hl (by decide) rfl (fun ls hl => ?_)
  refine lv_iconst (v := 0) hx hb dX7_dayGoes_9 (by decide) ?_
  refine lv_istore_n (lv' := [(2, .int 0), (1, .int (m_hearers σ (m_todays σ))), (0, .ref (ad 0))]) hx hb dX7_dayGoes_10 rfl hl (by decide) rfl (fun ls hl => ?_)
  suffices loop11 : ∀ (n11 : Nat) (i : Nat) (τ : gM) (H : Heap) (locs : List Loc) (ls : Array Slot), (i + n11 = N) → (∀ j, j < 9 → τ 1 j = σ 1 j) → m_dayGoes σ = (m_dayGoes_L11 σ n11 i τ) → gP G.1 11 ad (gE (shM G ad) τ) H → va_S (gA 11 ad) s.heap H locs → lv_has ls 3 [(2, .int (nI i)), (1, .int (m_hearers σ (m_todays σ))), (0, .ref (ad 0))] → W p l e rm_yX7_dayGoes s m ([.ref (ad 0)] : List Value).toArray below meth c H locs 0 0 (MQ below (va_Qv (fun τ : gM => τ = m_dayGoes σ) (fun τ t => gP G.1 11 ad (gE (shM G ad) τ) t.heap) (gA 11 ad)) ([.ref (ad 0)] : List Value).toArray s 0 0 (gA 11 ad)) (F0 m 11 ls []) by
    exact loop11 N 0 σ _ _ _ (by omega) (fun _ _ => rfl) (by rw [m_dayGoes, hs, nN_nI (by omega)]) hP hS (lv_sub hl [0, 1, 2] rfl)
  intro n11
  induction n11 with
  | zero =>
    intro i τ H locs ls hi11 hlo hres11 hP hS hl
    refine lv_iload_n hx hb dX7_dayGoes_11 rfl (lv_at hl 0 rfl) ?_
    refine lv_aload_n hx hb dX7_dayGoes_12 rfl (lv_at hl 2 rfl) ?_
    refine g_get fd_RX7_7 C hX hP 0 (by decide) (shM_0 G ad _) (v := .ref (ad 1)) rfl dX7_dayGoes_13 ?_
    refine lv_iconst (v := 0) hx hb dX7_dayGoes_16 (by decide) ?_
    refine lv_as (y := nI 0) rfl ?_
    refine g_iald C hX hP 1 (by decide) (shM_1 G ad _) 0 (by omega) (by decide) dX7_dayGoes_17 ?_
    refine lv_as (y := (nI N)) ((hlo 0 (by decide)).trans hs) ?_
    refine lv_icmp_ge (tgt := 51) hx hb dX7_dayGoes_18 (by decide) (fun c1 => ?_) (fun c1 => ?_)
    · refine lv_iconst (v := 0) hx hb dX7_dayGoes_51 (by decide) ?_
      refine lv_istore_n (lv' := [(2, .int 0), (1, .int (m_hearers σ (m_todays σ))), (0, .ref (ad 0))]) hx hb dX7_dayGoes_52 rfl hl (by decide) rfl (fun ls hl => ?_)
      suffices loop53 : ∀ (n53 : Nat) (i2 : Nat) (τ2 : gM) (H : Heap) (locs : List Loc) (ls : Array Slot), (i2 + n53 = N) → (∀ j, j < 9 → τ2 1 j = σ 1 j) → m_dayGoes σ = (m_dayGoes_L53 σ i τ n53 i2 τ2) → gP G.1 11 ad (gE (shM G ad) τ2) H → va_S (gA 11 ad) s.heap H locs → lv_has ls 3 [(2, .int (nI i2)), (1, .int (m_hearers σ (m_todays σ))), (0, .ref (ad 0))] → W p l e rm_yX7_dayGoes s m ([.ref (ad 0)] : List Value).toArray below meth c H locs 0 0 (MQ below (va_Qv (fun τ : gM => τ = m_dayGoes σ) (fun τ t => gP G.1 11 ad (gE (shM G ad) τ) t.heap) (gA 11 ad)) ([.ref (ad 0)] : List Value).toArray s 0 0 (gA 11 ad)) (F0 m 53 ls []) by
        exact loop53 N 0 τ _ _ _ (by omega) hlo (by rw [hres11, m_dayGoes_L11, hs, nN_nI (by omega)]) hP hS (lv_sub hl [0, 1, 2] rfl)
      intro n53
      induction n53 with
      | zero =>
        intro i2 τ2 H locs ls hi53 hlo2 hres53 hP hS hl
        refine lv_iload_n hx hb dX7_dayGoes_53 rfl (lv_at hl 0 rfl) ?_
        refine lv_aload_n hx hb dX7_dayGoes_54 rfl (lv_at hl 2 rfl) ?_
        refine g_get fd_RX7_7 C hX hP 0 (by decide) (shM_0 G ad _) (v := .ref (ad 1)) rfl dX7_dayGoes_55 ?_
        refine lv_iconst (v := 0) hx hb dX7_dayGoes_58 (by decide) ?_
        refine lv_as (y := nI 0) rfl ?_
        refine g_iald C hX hP 1 (by decide) (shM_1 G ad _) 0 (by omega) (by decide) dX7_dayGoes_59 ?_
        refine lv_as (y := (nI N)) ((hlo2 0 (by decide)).trans hs) ?_
        refine lv_icmp_ge (tgt := 128) hx hb dX7_dayGoes_60 (by decide) (fun c2 => ?_) (fun c2 => ?_)
        · refine lv_aload_n hx hb dX7_dayGoes_128 rfl (lv_at hl 2 rfl) ?_
          refine g_get fd_RX7_7 C hX hP 0 (by decide) (shM_0 G ad _) (v := .ref (ad 1)) rfl dX7_dayGoes_129 ?_
          refine lv_iconst (v := 1) hx hb dX7_dayGoes_132 (by decide) ?_
          refine lv_aload_n hx hb dX7_dayGoes_133 rfl (lv_at hl 2 rfl) ?_
          refine g_get fd_RX7_7 C hX hP 0 (by decide) (shM_0 G ad _) (v := .ref (ad 1)) rfl dX7_dayGoes_134 ?_
          refine lv_iconst (v := 1) hx hb dX7_dayGoes_137 (by decide) ?_
          refine lv_as (y := nI 1) rfl ?_
          refine g_iald C hX hP 1 (by decide) (shM_1 G ad _) 1 (by omega) (by decide) dX7_dayGoes_138 ?_
          refine lv_iconst (v := 1) hx hb dX7_dayGoes_139 (by decide) ?_
          refine lv_iadd hx hb dX7_dayGoes_140 ?_
          refine lv_iconst (v := 0) hx hb dX7_dayGoes_141 (by decide) ?_
          refine lv_ldc hx hb C.2.2.2.1 (C.2.2.2.2 _ kc_RX7_112) dX7_dayGoes_142 ?_
          refine g_rd (g_runS (As := [.int ((τ2 1 1) + 1), .int 0, .int 99999]) (rest := [.int 1, .ref (ad 1)]) ky_yX7_held lk_RX7_66 C (c_yX7_held l ((τ2 1 1) + 1) 0 99999) ⟨rfl, rfl, by decide, by decide⟩ rfl hl.1 rfl (Nat.le_of_ble_eq_true rfl) ⟨Nat.zero_le _, Nat.zero_le _⟩ dX7_dayGoes_144) ?_
          refine lv_as1 (y := nI 1) rfl ?_
          refine g_iast C hX hI hP hS 1 (by decide) (shM_1 G ad _) 1 (by omega) (by decide) (upd (τ2 1) 1 (m_held ((τ2 1 1) + 1) 0 99999)) rfl dX7_dayGoes_147 (fun H locs hP hS => ?_)
          have hP : gP G.1 11 ad (gE (shM G ad) (mset τ2 1 1 (m_held ((τ2 1 1) + 1) 0 99999))) H := hP
          exact g_vretM C hr hlk (by rw [hres53, m_dayGoes_L53]) hP hS dX7_dayGoes_148
        · exact absurd (show nI (N) ≤ nI i2 from nI_le (by omega) (by omega)) c2
      | succ n53 ih53 =>
        intro i2 τ2 H locs ls hi53 hlo2 hres53 hP hS hl
        refine lv_iload_n hx hb dX7_dayGoes_53 rfl (lv_at hl 0 rfl) ?_
        refine lv_aload_n hx hb dX7_dayGoes_54 rfl (lv_at hl 2 rfl) ?_
        refine g_get fd_RX7_7 C hX hP 0 (by decide) (shM_0 G ad _) (v := .ref (ad 1)) rfl dX7_dayGoes_55 ?_
        refine lv_iconst (v := 0) hx hb dX7_dayGoes_58 (by decide) ?_
        refine lv_as (y := nI 0) rfl ?_
        refine g_iald C hX hP 1 (by decide) (shM_1 G ad _) 0 (by omega) (by decide) dX7_dayGoes_59 ?_
        refine lv_as (y := (nI N)) ((hlo2 0 (by decide)).trans hs) ?_
        refine lv_icmp_ge (tgt := 128) hx hb dX7_dayGoes_60 (by decide) (fun c3 => ?_) (fun c3 => ?_)
        · exact absurd (show nI (N) ≤ nI i2 from c3) (nI_ge (by omega) (by omega))
        · refine lv_aload_n hx hb dX7_dayGoes_63 rfl (lv_at hl 2 rfl) ?_
          refine g_get fd_RX7_54 C hX hP 0 (by decide) (shM_0 G ad _) (v := .int (τ2 0 2)) rfl dX7_dayGoes_64 ?_
          refine lv_iload_n hx hb dX7_dayGoes_67 rfl (lv_at hl 0 rfl) ?_
          refine g_ishr hx hb dX7_dayGoes_68 ?_
          refine lv_iconst (v := 1) hx hb dX7_dayGoes_69 (by decide) ?_
          refine lv_iand hx hb dX7_dayGoes_70 ?_
          refine lv_if_ne (tgt := 122) hx hb dX7_dayGoes_71 (by decide) (fun c4 => ?_) (fun c4 => ?_)
          · refine lv_iinc (v := (nI (i2 + 1))) (lv' := [(2, .int (nI (i2 + 1))), (1, .int (m_hearers σ (m_todays σ))), (0, .ref (ad 0))]) hx hb dX7_dayGoes_122 hl (k := 0) rfl (by exact nI_1 _) (by decide) rfl (fun ls hl => ?_)
            refine lv_goto (tgt := 53) hx hb dX7_dayGoes_125 (by decide) ?_
            exact ih53 (i2 + 1) τ2 _ _ _ (by omega) (fun j hj => by first | exact hlo2 j hj | (rw [sets_lo hj]; exact hlo2 j hj) | (rw [drawnOn_lo hj, sets_lo hj]; exact hlo2 j hj)) (by rw [hres53, m_dayGoes_L53, if_neg c4]) hP hS (lv_sub hl [0, 1, 2] rfl)
          · refine lv_aload_n hx hb dX7_dayGoes_74 rfl (lv_at hl 2 rfl) ?_
            refine lv_iload_n hx hb dX7_dayGoes_75 rfl (lv_at hl 0 rfl) ?_
            refine lv_iconst (v := 4) hx hb dX7_dayGoes_76 (by decide) ?_
            refine lv_aload_n hx hb dX7_dayGoes_77 rfl (lv_at hl 2 rfl) ?_
            refine lv_iload_n hx hb dX7_dayGoes_78 rfl (lv_at hl 0 rfl) ?_
            refine lv_iconst (v := 4) hx hb dX7_dayGoes_79 (by decide) ?_
            refine g_rd (g_runV (As := [.int (nI i2), .int 4]) (rest := [.int 4, .int (nI i2), .ref (ad 0)]) ky_yX7_its lk_RX7_58 C hX (gS_b0 hI hS) hP 0 (c_yX7_its l G ad hI τ2 i2 4 (by omega) (by decide)) (by decide) (shM_0 G ad _) ⟨rfl, rfl, by decide, by decide⟩ rfl hl.1 rfl (Nat.le_of_ble_eq_true rfl) ⟨Nat.zero_le _, Nat.zero_le _⟩ dX7_dayGoes_80) ?_
            refine lv_iconst (v := 1) hx hb dX7_dayGoes_83 (by decide) ?_
            refine lv_iadd hx hb dX7_dayGoes_84 ?_
            refine lv_iconst (v := 0) hx hb dX7_dayGoes_85 (by decide) ?_
            refine lv_sipush (v := 9999) hx hb dX7_dayGoes_86 (by decide) ?_
            refine g_rd (g_runS (As := [.int ((m_its τ2 i2 4) + 1), .int 0, .int 9999]) (rest := [.int 4, .int (nI i2), .ref (ad 0)]) ky_yX7_held lk_RX7_66 C (c_yX7_held l ((m_its τ2 i2 4) + 1) 0 9999) ⟨rfl, rfl, by decide, by decide⟩ rfl hl.1 rfl (Nat.le_of_ble_eq_true rfl) ⟨Nat.zero_le _, Nat.zero_le _⟩ dX7_dayGoes_89) ?_
            refine g_wrV0 hS (g_runV (As := [.int (nI i2), .int 4, .int (m_held ((m_its τ2 i2 4) + 1) 0 9999)]) (rest := []) ky_yX7_sets lk_RX7_90 C hX (gS_b0 hI hS) hP 0 (c_yX7_sets l G ad hI τ2 i2 4 (m_held ((m_its τ2 i2 4) + 1) 0 9999) (by omega) (by decide)) (by decide) (shM_0 G ad _) ⟨rfl, rfl, by decide, by decide⟩ rfl hl.1 rfl (Nat.le_of_ble_eq_true rfl) ⟨Nat.zero_le _, Nat.zero_le _⟩ dX7_dayGoes_92) (fun H locs hP hS => ?_)
            refine lv_aload_n hx hb dX7_dayGoes_95 rfl (lv_at hl 2 rfl) ?_
            refine lv_iload_n hx hb dX7_dayGoes_96 rfl (lv_at hl 0 rfl) ?_
            refine g_rd (g_runV (As := [.int (nI i2)]) (rest := []) ky_yX7_stays lk_RX7_105 C hX (gS_b0 hI hS) hP 0 (c_yX7_stays l G ad hI (m_sets τ2 i2 4 (m_held ((m_its τ2 i2 4) + 1) 0 9999)) i2 (by omega)) (by decide) (shM_0 G ad _) ⟨rfl, rfl, by decide, by decide⟩ rfl hl.1 rfl (Nat.le_of_ble_eq_true rfl) ⟨Nat.zero_le _, Nat.zero_le _⟩ dX7_dayGoes_97) ?_
            refine lv_if_le (tgt := 122) hx hb dX7_dayGoes_100 (by decide) (fun c5 => ?_) (fun c5 => ?_)
            · refine lv_iinc (v := (nI (i2 + 1))) (lv' := [(2, .int (nI (i2 + 1))), (1, .int (m_hearers σ (m_todays σ))), (0, .ref (ad 0))]) hx hb dX7_dayGoes_122 hl (k := 0) rfl (by exact nI_1 _) (by decide) rfl (fun ls hl => ?_)
              refine lv_goto (tgt := 53) hx hb dX7_dayGoes_125 (by decide) ?_
              exact ih53 (i2 + 1) (m_sets τ2 i2 4 (m_held ((m_its τ2 i2 4) + 1) 0 9999)) _ _ _ (by omega) (fun j hj => by first | exact hlo2 j hj | (rw [sets_lo hj]; exact hlo2 j hj) | (rw [drawnOn_lo hj, sets_lo hj]; exact hlo2 j hj)) (by rw [hres53, m_dayGoes_L53, if_pos c4, if_pos c5]) hP hS (lv_sub hl [0, 1, 2] rfl)
            · refine lv_aload_n hx hb dX7_dayGoes_103 rfl (lv_at hl 2 rfl) ?_
              refine lv_iload_n hx hb dX7_dayGoes_104 rfl (lv_at hl 0 rfl) ?_
              refine lv_iconst (v := 4) hx hb dX7_dayGoes_105 (by decide) ?_
              refine g_rd (g_runV (As := [.int (nI i2), .int 4]) (rest := []) ky_yX7_its lk_RX7_58 C hX (gS_b0 hI hS) hP 0 (c_yX7_its l G ad hI (m_sets τ2 i2 4 (m_held ((m_its τ2 i2 4) + 1) 0 9999)) i2 4 (by omega) (by decide)) (by decide) (shM_0 G ad _) ⟨rfl, rfl, by decide, by decide⟩ rfl hl.1 rfl (Nat.le_of_ble_eq_true rfl) ⟨Nat.zero_le _, Nat.zero_le _⟩ dX7_dayGoes_106) ?_
              refine lv_aload_n hx hb dX7_dayGoes_109 rfl (lv_at hl 2 rfl) ?_
              refine lv_iload_n hx hb dX7_dayGoes_110 rfl (lv_at hl 0 rfl) ?_
              refine g_rd (g_runV (As := [.int (nI i2)]) (rest := [.int (m_its (m_sets τ2 i2 4 (m_held ((m_its τ2 i2 4) + 1) 0 9999)) i2 4)]) ky_yX7_stays lk_RX7_105 C hX (gS_b0 hI hS) hP 0 (c_yX7_stays l G ad hI (m_sets τ2 i2 4 (m_held ((m_its τ2 i2 4) + 1) 0 9999)) i2 (by omega)) (by decide) (shM_0 G ad _) ⟨rfl, rfl, by decide, by decide⟩ rfl hl.1 rfl (Nat.le_of_ble_eq_true rfl) ⟨Nat.zero_le _, Nat.zero_le _⟩ dX7_dayGoes_111) ?_
              refine lv_icmp_lt (tgt := 122) hx hb dX7_dayGoes_114 (by decide) (fun c6 => ?_) (fun c6 => ?_)
              · refine lv_iinc (v := (nI (i2 + 1))) (lv' := [(2, .int (nI (i2 + 1))), (1, .int (m_hearers σ (m_todays σ))), (0, .ref (ad 0))]) hx hb dX7_dayGoes_122 hl (k := 0) rfl (by exact nI_1 _) (by decide) rfl (fun ls hl => ?_)
                refine lv_goto (tgt := 53) hx hb dX7_dayGoes_125 (by decide) ?_
                exact ih53 (i2 + 1) (m_sets τ2 i2 4 (m_held ((m_its τ2 i2 4) + 1) 0 9999)) _ _ _ (by omega) (fun j hj => by first | exact hlo2 j hj | (rw [sets_lo hj]; exact hlo2 j hj) | (rw [drawnOn_lo hj, sets_lo hj]; exact hlo2 j hj)) (by rw [hres53, m_dayGoes_L53, if_pos c4, if_neg c5, if_pos c6]) hP hS (lv_sub hl [0, 1, 2] rfl)
              · refine lv_aload_n hx hb dX7_dayGoes_117 rfl (lv_at hl 2 rfl) ?_
                refine lv_iload_n hx hb dX7_dayGoes_118 rfl (lv_at hl 0 rfl) ?_
                refine g_wrV0 hS (g_runV (As := [.int (nI i2)]) (rest := []) ky_yX7_drawnOn lk_RX7_108 C hX (gS_b0 hI hS) hP 0 (c_yX7_drawnOn l G ad hI (m_sets τ2 i2 4 (m_held ((m_its τ2 i2 4) + 1) 0 9999)) i2 (by omega)) (by decide) (shM_0 G ad _) ⟨rfl, rfl, by decide, by decide⟩ rfl hl.1 rfl (Nat.le_of_ble_eq_true rfl) ⟨Nat.zero_le _, Nat.zero_le _⟩ dX7_dayGoes_119) (fun H locs hP hS => ?_)
                refine lv_iinc (v := (nI (i2 + 1))) (lv' := [(2, .int (nI (i2 + 1))), (1, .int (m_hearers σ (m_todays σ))), (0, .ref (ad 0))]) hx hb dX7_dayGoes_122 hl (k := 0) rfl (by exact nI_1 _) (by decide) rfl (fun ls hl => ?_)
                refine lv_goto (tgt := 53) hx hb dX7_dayGoes_125 (by decide) ?_
                exact ih53 (i2 + 1) (m_drawnOn (m_sets τ2 i2 4 (m_held ((m_its τ2 i2 4) + 1) 0 9999)) i2) _ _ _ (by omega) (fun j hj => by first | exact hlo2 j hj | (rw [sets_lo hj]; exact hlo2 j hj) | (rw [drawnOn_lo hj, sets_lo hj]; exact hlo2 j hj)) (by rw [hres53, m_dayGoes_L53, if_pos c4, if_neg c5, if_neg c6]) hP hS (lv_sub hl [0, 1, 2] rfl)
    · exact absurd (show nI (N) ≤ nI i from nI_le (by omega) (by omega)) c1
  | succ n11 ih11 =>
    intro i τ H locs ls hi11 hlo hres11 hP hS hl
    refine lv_iload_n hx hb dX7_dayGoes_11 rfl (lv_at hl 0 rfl) ?_
    refine lv_aload_n hx hb dX7_dayGoes_12 rfl (lv_at hl 2 rfl) ?_
    refine g_get fd_RX7_7 C hX hP 0 (by decide) (shM_0 G ad _) (v := .ref (ad 1)) rfl dX7_dayGoes_13 ?_
    refine lv_iconst (v := 0) hx hb dX7_dayGoes_16 (by decide) ?_
    refine lv_as (y := nI 0) rfl ?_
    refine g_iald C hX hP 1 (by decide) (shM_1 G ad _) 0 (by omega) (by decide) dX7_dayGoes_17 ?_
    refine lv_as (y := (nI N)) ((hlo 0 (by decide)).trans hs) ?_
    refine lv_icmp_ge (tgt := 51) hx hb dX7_dayGoes_18 (by decide) (fun c7 => ?_) (fun c7 => ?_)
    · exact absurd (show nI (N) ≤ nI i from c7) (nI_ge (by omega) (by omega))
    · refine lv_iload_n hx hb dX7_dayGoes_21 rfl (lv_at hl 1 rfl) ?_
      refine lv_iload_n hx hb dX7_dayGoes_22 rfl (lv_at hl 0 rfl) ?_
      refine g_ishr hx hb dX7_dayGoes_23 ?_
      refine lv_iconst (v := 1) hx hb dX7_dayGoes_24 (by decide) ?_
      refine lv_iand hx hb dX7_dayGoes_25 ?_
      refine lv_iconst (v := 1) hx hb dX7_dayGoes_26 (by decide) ?_
      refine lv_icmp_ne (tgt := 45) hx hb dX7_dayGoes_27 (by decide) (fun c8 => ?_) (fun c8 => ?_)
      · refine lv_iinc (v := (nI (i + 1))) (lv' := [(2, .int (nI (i + 1))), (1, .int (m_hearers σ (m_todays σ))), (0, .ref (ad 0))]) hx hb dX7_dayGoes_45 hl (k := 0) rfl (by exact nI_1 _) (by decide) rfl (fun ls hl => ?_)
        refine lv_goto (tgt := 11) hx hb dX7_dayGoes_48 (by decide) ?_
        exact ih11 (i + 1) τ _ _ _ (by omega) (fun j hj => by first | exact hlo j hj | (rw [learns_lo hj]; exact hlo j hj)) (by rw [hres11, m_dayGoes_L11, if_neg c8]) hP hS (lv_sub hl [0, 1, 2] rfl)
      · refine lv_aload_n hx hb dX7_dayGoes_30 rfl (lv_at hl 2 rfl) ?_
        refine lv_iload_n hx hb dX7_dayGoes_31 rfl (lv_at hl 0 rfl) ?_
        refine lv_aload_n hx hb dX7_dayGoes_32 rfl (lv_at hl 2 rfl) ?_
        refine g_rd (g_runV (As := []) (rest := [.int (nI i), .ref (ad 0)]) ky_yX7_todays lk_RX7_94 C hX (gS_b0 hI hS) hP 0 (c_yX7_todays l G ad hI τ  (by rw [hlo 1 (by decide)]; exact hd)) (by decide) (shM_0 G ad _) ⟨rfl, rfl, by decide, by decide⟩ rfl hl.1 rfl (Nat.le_of_ble_eq_true rfl) ⟨Nat.zero_le _, Nat.zero_le _⟩ dX7_dayGoes_33) ?_
        refine lv_bipush (v := 10) hx hb dX7_dayGoes_36 (by decide) ?_
        refine lv_idiv hx hb dX7_dayGoes_38 (by decide) ?_
        refine lv_bipush (v := 100) hx hb dX7_dayGoes_39 (by decide) ?_
        refine g_irem hx hb dX7_dayGoes_41 (by decide) ?_
        refine g_wrV0 hS (g_runV (As := [.int (nI i), .int (jrem ((m_todays τ) / 10) 100)]) (rest := []) ky_yX7_learns lk_RX7_101 C hX (gS_b0 hI hS) hP 0 (c_yX7_learns l G ad hI τ i (jrem ((m_todays τ) / 10) 100) (by omega)) (by decide) (shM_0 G ad _) ⟨rfl, rfl, by decide, by decide⟩ rfl hl.1 rfl (Nat.le_of_ble_eq_true rfl) ⟨Nat.zero_le _, Nat.zero_le _⟩ dX7_dayGoes_42) (fun H locs hP hS => ?_)
        refine lv_iinc (v := (nI (i + 1))) (lv' := [(2, .int (nI (i + 1))), (1, .int (m_hearers σ (m_todays σ))), (0, .ref (ad 0))]) hx hb dX7_dayGoes_45 hl (k := 0) rfl (by exact nI_1 _) (by decide) rfl (fun ls hl => ?_)
        refine lv_goto (tgt := 11) hx hb dX7_dayGoes_48 (by decide) ?_
        exact ih11 (i + 1) (m_learns τ i (jrem ((m_todays τ) / 10) 100)) _ _ _ (by omega) (fun j hj => by first | exact hlo j hj | (rw [learns_lo hj]; exact hlo j hj)) (by rw [hres11, m_dayGoes_L11, if_pos c8]) hP hS (lv_sub hl [0, 1, 2] rfl)

theorem held_day (x : Int32) : ¬ m_held x 0 99999 < 0 := by
  unfold m_held
  split
  · split
    · rename_i h1 h2
      intro q
      have a := Int32.le_iff_toInt_le.mp h1
      have b := Int32.lt_iff_toInt_lt.mp q
      omega
    · decide
  · decide
theorem dgL53 {σ τ : gM} {i : Nat} : ∀ (n i2 : Nat) (τ2 : gM), (m_dayGoes_L53 σ i τ n i2 τ2) 1 0 = τ2 1 0 ∧ (¬ (m_dayGoes_L53 σ i τ n i2 τ2) 1 1 < 0) ∧ (∀ k, k ≠ 1 → (m_dayGoes_L53 σ i τ n i2 τ2) k = τ2 k) ∧ ∀ j, 2 ≤ j → j < 9 → (m_dayGoes_L53 σ i τ n i2 τ2) 1 j = τ2 1 j := by
  intro n
  induction n with
  | zero =>
    intro i2 τ2
    rw [m_dayGoes_L53]
    refine ⟨rfl, held_day _, fun k hk => mset_ne _ _ _ hk, fun j h1 h2 => ?_⟩
    rw [mset_at]
    exact if_neg (by omega)
  | succ n ih =>
    intro i2 τ2
    rw [m_dayGoes_L53]
    repeat' split
    all_goals
      refine ⟨?_, (ih _ _).2.1, fun k hk => ?_, fun j h1 h2 => ?_⟩
      · refine Eq.trans (ih _ _).1 ?_
        first | rfl | rw [sets_lo (by decide)] | rw [drawnOn_lo (by decide), sets_lo (by decide)]
      · refine Eq.trans ((ih _ _).2.2.1 k hk) ?_
        first | rfl | rw [sets_row hk] | rw [drawnOn_row hk, sets_row hk]
      · refine Eq.trans ((ih _ _).2.2.2 j h1 h2) ?_
        first | rfl | rw [sets_lo h2] | rw [drawnOn_lo h2, sets_lo h2]
theorem dgL11 {σ : gM} : ∀ (n i : Nat) (τ : gM), (m_dayGoes_L11 σ n i τ) 1 0 = τ 1 0 ∧ (¬ (m_dayGoes_L11 σ n i τ) 1 1 < 0) ∧ (∀ k, k ≠ 1 → (m_dayGoes_L11 σ n i τ) k = τ k) ∧ ∀ j, 2 ≤ j → j < 9 → (m_dayGoes_L11 σ n i τ) 1 j = τ 1 j := by
  intro n
  induction n with
  | zero =>
    intro i τ
    rw [m_dayGoes_L11]
    exact dgL53 _ _ _
  | succ n ih =>
    intro i τ
    rw [m_dayGoes_L11]
    repeat' split
    all_goals
      refine ⟨?_, (ih _ _).2.1, fun k hk => ?_, fun j h1 h2 => ?_⟩
      · refine Eq.trans (ih _ _).1 ?_
        first | rfl | rw [learns_lo (by decide)]
      · refine Eq.trans ((ih _ _).2.2.1 k hk) ?_
        first | rfl | rw [learns_row hk]
      · refine Eq.trans ((ih _ _).2.2.2 j h1 h2) ?_
        first | rfl | rw [learns_lo h2]
theorem dg_N (σ : gM) : (m_dayGoes σ) 1 0 = σ 1 0 := (dgL11 _ _ _).1
theorem dg_D (σ : gM) : ¬ (m_dayGoes σ) 1 1 < 0 := (dgL11 _ _ _).2.1
theorem dg_row (σ : gM) {k : Nat} (hk : k ≠ 1) : (m_dayGoes σ) k = σ k := (dgL11 _ _ _).2.2.1 k hk
theorem dg_lo (σ : gM) {j : Nat} (h1 : 2 ≤ j) (h2 : j < 9) : (m_dayGoes σ) 1 j = σ 1 j := (dgL11 _ _ _).2.2.2 j h1 h2

def m_daysGo_L2 (σ : gM) (k : Nat) : Nat → Nat → gM → gM
  | 0, i, τ => τ
  | n2 + 1, i, τ => (m_daysGo_L2 σ k n2 (i + 1) (m_dayGoes τ))
def m_daysGo (σ : gM) (k : Nat) : gM := (m_daysGo_L2 σ k k 0 σ)
def rm_yX7_daysGo : Room := { frames := 6, cells := 0, slots := 0, locals := 136 }
set_option maxHeartbeats 4000000 in
set_option maxRecDepth 100000 in
theorem c_yX7_daysGo (l : Launch) (G : gG) (ad : Nat → Nat) (hI : gI G.2.2.1 11 ad) (σ : gM) (k : Nat) (N : Nat) (hN : N ≤ 8) (hs : σ 1 0 = nI N) (hd : ¬ σ 1 1 < 0) (hk : k < 1000) : gMutV l yX7_daysGo cX7_daysGo 3 none rm_yX7_daysGo G [.ref (ad 0), .int (nI k)] 11 ad (shM G ad) σ (m_daysGo σ k) := by
  refine g_start [.ref (ad 0), .int (nI k)] (by decide +kernel) (Nat.le_of_ble_eq_true rfl) ?_
  intro p e s m below meth c ls B Z hl
  obtain ⟨C, hr, hlk⟩ := B
  have hx := C.1
  have hb := C.2.1
  obtain ⟨hX, hP⟩ := Z
  have hS : va_S (gA 11 ad) s.heap s.heap [] := va_S.rf
  revert hP hS
  intro hP hS
  have hl : lv_has ls 3 [(0, .ref (ad 0)), (1, .int (nI k))] := hl
  refine lv_iconst (v := 0) hx hb dX7_daysGo_0 (by decide) ?_
  refine lv_istore_n (lv' := [(2, .int 0), (0, .ref (ad 0)), (1, .int (nI k))]) hx hb dX7_daysGo_1 rfl hl (by decide) rfl (fun ls hl => ?_)
  suffices loop2 : ∀ (n2 : Nat) (i : Nat) (τ : gM) (H : Heap) (locs : List Loc) (ls : Array Slot), (i + n2 = k) → (τ 1 0 = nI N) → (¬ τ 1 1 < 0) → m_daysGo σ k = (m_daysGo_L2 σ k n2 i τ) → gP G.1 11 ad (gE (shM G ad) τ) H → va_S (gA 11 ad) s.heap H locs → lv_has ls 3 [(2, .int (nI i)), (0, .ref (ad 0)), (1, .int (nI k))] → W p l e rm_yX7_daysGo s m ([.ref (ad 0), .int (nI k)] : List Value).toArray below meth c H locs 0 0 (MQ below (va_Qv (fun τ : gM => τ = m_daysGo σ k) (fun τ t => gP G.1 11 ad (gE (shM G ad) τ) t.heap) (gA 11 ad)) ([.ref (ad 0), .int (nI k)] : List Value).toArray s 0 0 (gA 11 ad)) (F0 m 2 ls []) by
    exact loop2 k 0 σ _ _ _ (by omega) hs hd (by rw [m_daysGo]) hP hS (lv_sub hl [0, 1, 2] rfl)
  intro n2
  induction n2 with
  | zero =>
    intro i τ H locs ls hi2 hn hv hres2 hP hS hl
    refine lv_iload_n hx hb dX7_daysGo_2 rfl (lv_at hl 0 rfl) ?_
    refine lv_iload_n hx hb dX7_daysGo_3 rfl (lv_at hl 2 rfl) ?_
    refine lv_icmp_ge (tgt := 17) hx hb dX7_daysGo_4 (by decide) (fun c1 => ?_) (fun c1 => ?_)
    · exact g_vretM C hr hlk (by rw [hres2, m_daysGo_L2]) hP hS dX7_daysGo_17
    · exact absurd (show nI (k) ≤ nI i from nI_le (by omega) (by omega)) c1
  | succ n2 ih2 =>
    intro i τ H locs ls hi2 hn hv hres2 hP hS hl
    refine lv_iload_n hx hb dX7_daysGo_2 rfl (lv_at hl 0 rfl) ?_
    refine lv_iload_n hx hb dX7_daysGo_3 rfl (lv_at hl 2 rfl) ?_
    refine lv_icmp_ge (tgt := 17) hx hb dX7_daysGo_4 (by decide) (fun c2 => ?_) (fun c2 => ?_)
    · exact absurd (show nI (k) ≤ nI i from c2) (nI_ge (by omega) (by omega))
    · refine lv_aload_n hx hb dX7_daysGo_7 rfl (lv_at hl 1 rfl) ?_
      refine g_wrV0 hS (g_runV (As := []) (rest := []) ky_yX7_dayGoes lk_RX7_113 C hX (gS_b0 hI hS) hP 0 (c_yX7_dayGoes l G ad hI τ  N hN hn hv) (by decide) (shM_0 G ad _) ⟨rfl, rfl, by decide, by decide⟩ rfl hl.1 rfl (Nat.le_of_ble_eq_true rfl) ⟨Nat.zero_le _, Nat.zero_le _⟩ dX7_daysGo_8) (fun H locs hP hS => ?_)
      refine lv_iinc (v := (nI (i + 1))) (lv' := [(2, .int (nI (i + 1))), (0, .ref (ad 0)), (1, .int (nI k))]) hx hb dX7_daysGo_11 hl (k := 0) rfl (by exact nI_1 _) (by decide) rfl (fun ls hl => ?_)
      refine lv_goto (tgt := 2) hx hb dX7_daysGo_14 (by decide) ?_
      exact ih2 (i + 1) (m_dayGoes τ) _ _ _ (by omega) ((dg_N _).trans hn) (dg_D _) (by rw [hres2, m_daysGo_L2]) hP hS (lv_sub hl [0, 1, 2] rfl)

def m_known_L5 (σ : gM) (gloves : Int32) (w : Nat) : Nat → Nat → Int32 → Int32
  | 0, i, acc => acc
  | n5 + 1, i, acc => if ((jshr gloves (nI i)) &&& 1) = 1 then (m_known_L5 σ gloves w n5 (i + 1) (acc ||| (m_its σ i w))) else (m_known_L5 σ gloves w n5 (i + 1) (acc ||| 0))
def m_known (σ : gM) (gloves : Int32) (w : Nat) : Int32 := (m_known_L5 σ gloves w (nN (σ 1 0)) 0 0)
def rm_yX7_known : Room := { frames := 1, cells := 0, slots := 0, locals := 22 }
set_option maxHeartbeats 4000000 in
set_option maxRecDepth 100000 in
theorem c_yX7_known (l : Launch) (G : gG) (ad : Nat → Nat) (hI : gI G.2.2.1 11 ad) (σ : gM) (gloves : Int32) (w : Nat) (N : Nat) (hN : N ≤ 8) (hs : σ 1 0 = nI N) (hw : w < 7) : gRead l yX7_known cX7_known 5 (some .int) rm_yX7_known G [.ref (ad 0), .int gloves, .int (nI w)] 11 ad (gE (shM G ad) σ) (m_known σ gloves w) := by
  refine g_start [.ref (ad 0), .int gloves, .int (nI w)] (by decide +kernel) (Nat.le_of_ble_eq_true rfl) ?_
  intro p e s m below meth c ls B Z hl
  obtain ⟨C, hr, hlk⟩ := B
  have hx := C.1
  have hb := C.2.1
  obtain ⟨hX, hP⟩ := Z
  have hS : va_S (gA 11 ad) s.heap s.heap [] := va_S.rf
  have hl : lv_has ls 5 [(0, .ref (ad 0)), (1, .int gloves), (2, .int (nI w))] := hl
  refine lv_iconst (v := 0) hx hb dX7_known_0 (by decide) ?_
  refine lv_istore_n (lv' := [(3, .int 0), (0, .ref (ad 0)), (1, .int gloves), (2, .int (nI w))]) hx hb dX7_known_1 rfl hl (by decide) rfl (fun ls hl => ?_)
  refine lv_iconst (v := 0) hx hb dX7_known_2 (by decide) ?_
  refine lv_istore (lv' := [(4, .int 0), (3, .int 0), (0, .ref (ad 0)), (1, .int gloves), (2, .int (nI w))]) hx hb dX7_known_3 hl (by decide) rfl (fun ls hl => ?_)
  suffices loop5 : ∀ (n5 : Nat) (i : Nat) (acc : Int32) (ls : Array Slot), (i + n5 = N) → m_known σ gloves w = (m_known_L5 σ gloves w n5 i acc) → lv_has ls 5 [(4, .int (nI i)), (3, .int acc), (0, .ref (ad 0)), (1, .int gloves), (2, .int (nI w))] → W p l e rm_yX7_known s m ([.ref (ad 0), .int gloves, .int (nI w)] : List Value).toArray below meth c s.heap [] 0 0 (MQ below (vp_Si (fun x => x = m_known σ gloves w)) ([.ref (ad 0), .int gloves, .int (nI w)] : List Value).toArray s 0 0 (fun _ => False)) (F0 m 5 ls []) by
    exact loop5 N 0 0 _ (by omega) (by rw [m_known, hs, nN_nI (by omega)]) (lv_sub hl [0, 1, 2, 3, 4] rfl)
  intro n5
  induction n5 with
  | zero =>
    intro i acc ls hi5 hres5 hl
    refine lv_iload hx hb dX7_known_5 (lv_at hl 0 rfl) ?_
    refine lv_aload_n hx hb dX7_known_7 rfl (lv_at hl 2 rfl) ?_
    refine g_get fd_RX7_7 C hX hP 0 (by decide) (shM_0 G ad _) (v := .ref (ad 1)) rfl dX7_known_8 ?_
    refine lv_iconst (v := 0) hx hb dX7_known_11 (by decide) ?_
    refine lv_as (y := nI 0) rfl ?_
    refine g_iald C hX hP 1 (by decide) (shM_1 G ad _) 0 (by omega) (by decide) dX7_known_12 ?_
    refine lv_as (y := (nI N)) hs ?_
    refine lv_icmp_ge (tgt := 46) hx hb dX7_known_13 (by decide) (fun c1 => ?_) (fun c1 => ?_)
    · refine lv_iload_n hx hb dX7_known_46 rfl (lv_at hl 1 rfl) ?_
      exact g_iret C hr hlk rfl (by rw [hres5, m_known_L5]) rfl rfl dX7_known_47
    · exact absurd (show nI (N) ≤ nI i from nI_le (by omega) (by omega)) c1
  | succ n5 ih5 =>
    intro i acc ls hi5 hres5 hl
    refine lv_iload hx hb dX7_known_5 (lv_at hl 0 rfl) ?_
    refine lv_aload_n hx hb dX7_known_7 rfl (lv_at hl 2 rfl) ?_
    refine g_get fd_RX7_7 C hX hP 0 (by decide) (shM_0 G ad _) (v := .ref (ad 1)) rfl dX7_known_8 ?_
    refine lv_iconst (v := 0) hx hb dX7_known_11 (by decide) ?_
    refine lv_as (y := nI 0) rfl ?_
    refine g_iald C hX hP 1 (by decide) (shM_1 G ad _) 0 (by omega) (by decide) dX7_known_12 ?_
    refine lv_as (y := (nI N)) hs ?_
    refine lv_icmp_ge (tgt := 46) hx hb dX7_known_13 (by decide) (fun c2 => ?_) (fun c2 => ?_)
    · exact absurd (show nI (N) ≤ nI i from c2) (nI_ge (by omega) (by omega))
    · refine lv_iload_n hx hb dX7_known_16 rfl (lv_at hl 1 rfl) ?_
      refine lv_iload_n hx hb dX7_known_17 rfl (lv_at hl 3 rfl) ?_
      refine lv_iload hx hb dX7_known_18 (lv_at hl 0 rfl) ?_
      refine g_ishr hx hb dX7_known_20 ?_
      refine lv_iconst (v := 1) hx hb dX7_known_21 (by decide) ?_
      refine lv_iand hx hb dX7_known_22 ?_
      refine lv_iconst (v := 1) hx hb dX7_known_23 (by decide) ?_
      refine lv_icmp_ne (tgt := 37) hx hb dX7_known_24 (by decide) (fun c3 => ?_) (fun c3 => ?_)
      · refine lv_iconst (v := 0) hx hb dX7_known_37 (by decide) ?_
        refine lv_ior hx hb dX7_known_38 ?_
        refine lv_istore_n (lv' := [(3, .int (acc ||| 0)), (4, .int (nI i)), (0, .ref (ad 0)), (1, .int gloves), (2, .int (nI w))]) hx hb dX7_known_39 rfl hl (by decide) rfl (fun ls hl => ?_)
        refine lv_iinc (v := (nI (i + 1))) (lv' := [(4, .int (nI (i + 1))), (3, .int (acc ||| 0)), (0, .ref (ad 0)), (1, .int gloves), (2, .int (nI w))]) hx hb dX7_known_40 hl (k := 1) rfl (by exact nI_1 _) (by decide) rfl (fun ls hl => ?_)
        refine lv_goto (tgt := 5) hx hb dX7_known_43 (by decide) ?_
        exact ih5 (i + 1) (acc ||| 0) _ (by omega) (by rw [hres5, m_known_L5, if_neg c3]) (lv_sub hl [0, 1, 2, 3, 4] rfl)
      · refine lv_aload_n hx hb dX7_known_27 rfl (lv_at hl 2 rfl) ?_
        refine lv_iload hx hb dX7_known_28 (lv_at hl 0 rfl) ?_
        refine lv_iload_n hx hb dX7_known_30 rfl (lv_at hl 4 rfl) ?_
        refine g_rd (g_runV (As := [.int (nI i), .int (nI w)]) (rest := [.int acc]) ky_yX7_its lk_RX7_58 C hX (gS_b0 hI hS) hP 0 (c_yX7_its l G ad hI σ i w (by omega) hw) (by decide) (shM_0 G ad _) ⟨rfl, rfl, by decide, by decide⟩ rfl hl.1 rfl (Nat.le_of_ble_eq_true rfl) ⟨Nat.zero_le _, Nat.zero_le _⟩ dX7_known_31) ?_
        refine lv_goto (tgt := 38) hx hb dX7_known_34 (by decide) ?_
        refine lv_ior hx hb dX7_known_38 ?_
        refine lv_istore_n (lv' := [(3, .int (acc ||| (m_its σ i w))), (4, .int (nI i)), (0, .ref (ad 0)), (1, .int gloves), (2, .int (nI w))]) hx hb dX7_known_39 rfl hl (by decide) rfl (fun ls hl => ?_)
        refine lv_iinc (v := (nI (i + 1))) (lv' := [(4, .int (nI (i + 1))), (3, .int (acc ||| (m_its σ i w))), (0, .ref (ad 0)), (1, .int gloves), (2, .int (nI w))]) hx hb dX7_known_40 hl (k := 1) rfl (by exact nI_1 _) (by decide) rfl (fun ls hl => ?_)
        refine lv_goto (tgt := 5) hx hb dX7_known_43 (by decide) ?_
        exact ih5 (i + 1) (acc ||| (m_its σ i w)) _ (by omega) (by rw [hres5, m_known_L5, if_pos c3]) (lv_sub hl [0, 1, 2, 3, 4] rfl)

def m_allKnow (σ : gM) : Int32 := (m_known σ 255 3)
def rm_yX7_allKnow : Room := { frames := 2, cells := 0, slots := 0, locals := 46 }
set_option maxHeartbeats 4000000 in
set_option maxRecDepth 100000 in
theorem c_yX7_allKnow (l : Launch) (G : gG) (ad : Nat → Nat) (hI : gI G.2.2.1 11 ad) (σ : gM) (N : Nat) (hN : N ≤ 8) (hs : σ 1 0 = nI N) : gRead l yX7_allKnow cX7_allKnow 1 (some .int) rm_yX7_allKnow G [.ref (ad 0)] 11 ad (gE (shM G ad) σ) (m_allKnow σ) := by
  refine g_start [.ref (ad 0)] (by decide +kernel) (Nat.le_of_ble_eq_true rfl) ?_
  intro p e s m below meth c ls B Z hl
  obtain ⟨C, hr, hlk⟩ := B
  have hx := C.1
  have hb := C.2.1
  obtain ⟨hX, hP⟩ := Z
  have hS : va_S (gA 11 ad) s.heap s.heap [] := va_S.rf
  have hl : lv_has ls 1 [(0, .ref (ad 0))] := hl
  refine lv_aload_n hx hb dX7_allKnow_0 rfl (lv_at hl 0 rfl) ?_
  refine lv_sipush (v := 255) hx hb dX7_allKnow_1 (by decide) ?_
  refine lv_iconst (v := 3) hx hb dX7_allKnow_4 (by decide) ?_
  refine g_rd (g_runV (As := [.int 255, .int 3]) (rest := []) ky_yX7_known lk_RX7_116 C hX (gS_b0 hI hS) hP 0 (c_yX7_known l G ad hI σ 255 3 N hN hs (by decide)) (by decide) (shM_0 G ad _) ⟨rfl, rfl, by decide, by decide⟩ rfl hl.1 rfl (Nat.le_of_ble_eq_true rfl) ⟨Nat.zero_le _, Nat.zero_le _⟩ dX7_allKnow_5) ?_
  exact g_iret C hr hlk rfl (by rw [m_allKnow]) rfl rfl dX7_allKnow_8

def m_allHands (σ : gM) : Int32 := (m_known σ 255 5)
def rm_yX7_allHands : Room := { frames := 2, cells := 0, slots := 0, locals := 46 }
set_option maxHeartbeats 4000000 in
set_option maxRecDepth 100000 in
theorem c_yX7_allHands (l : Launch) (G : gG) (ad : Nat → Nat) (hI : gI G.2.2.1 11 ad) (σ : gM) (N : Nat) (hN : N ≤ 8) (hs : σ 1 0 = nI N) : gRead l yX7_allHands cX7_allHands 1 (some .int) rm_yX7_allHands G [.ref (ad 0)] 11 ad (gE (shM G ad) σ) (m_allHands σ) := by
  refine g_start [.ref (ad 0)] (by decide +kernel) (Nat.le_of_ble_eq_true rfl) ?_
  intro p e s m below meth c ls B Z hl
  obtain ⟨C, hr, hlk⟩ := B
  have hx := C.1
  have hb := C.2.1
  obtain ⟨hX, hP⟩ := Z
  have hS : va_S (gA 11 ad) s.heap s.heap [] := va_S.rf
  have hl : lv_has ls 1 [(0, .ref (ad 0))] := hl
  refine lv_aload_n hx hb dX7_allHands_0 rfl (lv_at hl 0 rfl) ?_
  refine lv_sipush (v := 255) hx hb dX7_allHands_1 (by decide) ?_
  refine lv_iconst (v := 5) hx hb dX7_allHands_4 (by decide) ?_
  refine g_rd (g_runV (As := [.int 255, .int 5]) (rest := []) ky_yX7_known lk_RX7_116 C hX (gS_b0 hI hS) hP 0 (c_yX7_known l G ad hI σ 255 5 N hN hs (by decide)) (by decide) (shM_0 G ad _) ⟨rfl, rfl, by decide, by decide⟩ rfl hl.1 rfl (Nat.le_of_ble_eq_true rfl) ⟨Nat.zero_le _, Nat.zero_le _⟩ dX7_allHands_5) ?_
  exact g_iret C hr hlk rfl (by rw [m_allHands]) rfl rfl dX7_allHands_8

def m_allDrawn_L4 (σ : gM) : Nat → Nat → Int32 → Int32
  | 0, i, acc => acc
  | n4 + 1, i, acc => (m_allDrawn_L4 σ n4 (i + 1) (acc + (m_its σ i 6)))
def m_allDrawn (σ : gM) : Int32 := (m_allDrawn_L4 σ (nN (σ 1 0)) 0 0)
def rm_yX7_allDrawn : Room := { frames := 1, cells := 0, slots := 0, locals := 22 }
set_option maxHeartbeats 4000000 in
set_option maxRecDepth 100000 in
theorem c_yX7_allDrawn (l : Launch) (G : gG) (ad : Nat → Nat) (hI : gI G.2.2.1 11 ad) (σ : gM) (N : Nat) (hN : N ≤ 8) (hs : σ 1 0 = nI N) : gRead l yX7_allDrawn cX7_allDrawn 3 (some .int) rm_yX7_allDrawn G [.ref (ad 0)] 11 ad (gE (shM G ad) σ) (m_allDrawn σ) := by
  refine g_start [.ref (ad 0)] (by decide +kernel) (Nat.le_of_ble_eq_true rfl) ?_
  intro p e s m below meth c ls B Z hl
  obtain ⟨C, hr, hlk⟩ := B
  have hx := C.1
  have hb := C.2.1
  obtain ⟨hX, hP⟩ := Z
  have hS : va_S (gA 11 ad) s.heap s.heap [] := va_S.rf
  have hl : lv_has ls 3 [(0, .ref (ad 0))] := hl
  refine lv_iconst (v := 0) hx hb dX7_allDrawn_0 (by decide) ?_
  refine lv_istore_n (lv' := [(1, .int 0), (0, .ref (ad 0))]) hx hb dX7_allDrawn_1 rfl hl (by decide) rfl (fun ls hl => ?_)
  refine lv_iconst (v := 0) hx hb dX7_allDrawn_2 (by decide) ?_
  refine lv_istore_n (lv' := [(2, .int 0), (1, .int 0), (0, .ref (ad 0))]) hx hb dX7_allDrawn_3 rfl hl (by decide) rfl (fun ls hl => ?_)
  suffices loop4 : ∀ (n4 : Nat) (i : Nat) (acc : Int32) (ls : Array Slot), (i + n4 = N) → m_allDrawn σ = (m_allDrawn_L4 σ n4 i acc) → lv_has ls 3 [(2, .int (nI i)), (1, .int acc), (0, .ref (ad 0))] → W p l e rm_yX7_allDrawn s m ([.ref (ad 0)] : List Value).toArray below meth c s.heap [] 0 0 (MQ below (vp_Si (fun x => x = m_allDrawn σ)) ([.ref (ad 0)] : List Value).toArray s 0 0 (fun _ => False)) (F0 m 4 ls []) by
    exact loop4 N 0 0 _ (by omega) (by rw [m_allDrawn, hs, nN_nI (by omega)]) (lv_sub hl [0, 1, 2] rfl)
  intro n4
  induction n4 with
  | zero =>
    intro i acc ls hi4 hres4 hl
    refine lv_iload_n hx hb dX7_allDrawn_4 rfl (lv_at hl 0 rfl) ?_
    refine lv_aload_n hx hb dX7_allDrawn_5 rfl (lv_at hl 2 rfl) ?_
    refine g_get fd_RX7_7 C hX hP 0 (by decide) (shM_0 G ad _) (v := .ref (ad 1)) rfl dX7_allDrawn_6 ?_
    refine lv_iconst (v := 0) hx hb dX7_allDrawn_9 (by decide) ?_
    refine lv_as (y := nI 0) rfl ?_
    refine g_iald C hX hP 1 (by decide) (shM_1 G ad _) 0 (by omega) (by decide) dX7_allDrawn_10 ?_
    refine lv_as (y := (nI N)) hs ?_
    refine lv_icmp_ge (tgt := 30) hx hb dX7_allDrawn_11 (by decide) (fun c1 => ?_) (fun c1 => ?_)
    · refine lv_iload_n hx hb dX7_allDrawn_30 rfl (lv_at hl 1 rfl) ?_
      exact g_iret C hr hlk rfl (by rw [hres4, m_allDrawn_L4]) rfl rfl dX7_allDrawn_31
    · exact absurd (show nI (N) ≤ nI i from nI_le (by omega) (by omega)) c1
  | succ n4 ih4 =>
    intro i acc ls hi4 hres4 hl
    refine lv_iload_n hx hb dX7_allDrawn_4 rfl (lv_at hl 0 rfl) ?_
    refine lv_aload_n hx hb dX7_allDrawn_5 rfl (lv_at hl 2 rfl) ?_
    refine g_get fd_RX7_7 C hX hP 0 (by decide) (shM_0 G ad _) (v := .ref (ad 1)) rfl dX7_allDrawn_6 ?_
    refine lv_iconst (v := 0) hx hb dX7_allDrawn_9 (by decide) ?_
    refine lv_as (y := nI 0) rfl ?_
    refine g_iald C hX hP 1 (by decide) (shM_1 G ad _) 0 (by omega) (by decide) dX7_allDrawn_10 ?_
    refine lv_as (y := (nI N)) hs ?_
    refine lv_icmp_ge (tgt := 30) hx hb dX7_allDrawn_11 (by decide) (fun c2 => ?_) (fun c2 => ?_)
    · exact absurd (show nI (N) ≤ nI i from c2) (nI_ge (by omega) (by omega))
    · refine lv_iload_n hx hb dX7_allDrawn_14 rfl (lv_at hl 1 rfl) ?_
      refine lv_aload_n hx hb dX7_allDrawn_15 rfl (lv_at hl 2 rfl) ?_
      refine lv_iload_n hx hb dX7_allDrawn_16 rfl (lv_at hl 0 rfl) ?_
      refine lv_bipush (v := 6) hx hb dX7_allDrawn_17 (by decide) ?_
      refine g_rd (g_runV (As := [.int (nI i), .int 6]) (rest := [.int acc]) ky_yX7_its lk_RX7_58 C hX (gS_b0 hI hS) hP 0 (c_yX7_its l G ad hI σ i 6 (by omega) (by decide)) (by decide) (shM_0 G ad _) ⟨rfl, rfl, by decide, by decide⟩ rfl hl.1 rfl (Nat.le_of_ble_eq_true rfl) ⟨Nat.zero_le _, Nat.zero_le _⟩ dX7_allDrawn_19) ?_
      refine lv_iadd hx hb dX7_allDrawn_22 ?_
      refine lv_istore_n (lv' := [(1, .int (acc + (m_its σ i 6))), (2, .int (nI i)), (0, .ref (ad 0))]) hx hb dX7_allDrawn_23 rfl hl (by decide) rfl (fun ls hl => ?_)
      refine lv_iinc (v := (nI (i + 1))) (lv' := [(2, .int (nI (i + 1))), (1, .int (acc + (m_its σ i 6))), (0, .ref (ad 0))]) hx hb dX7_allDrawn_24 hl (k := 1) rfl (by exact nI_1 _) (by decide) rfl (fun ls hl => ?_)
      refine lv_goto (tgt := 4) hx hb dX7_allDrawn_27 (by decide) ?_
      exact ih4 (i + 1) (acc + (m_its σ i 6)) _ (by omega) (by rw [hres4, m_allDrawn_L4]) (lv_sub hl [0, 1, 2] rfl)
