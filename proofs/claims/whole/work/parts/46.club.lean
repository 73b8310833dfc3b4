/-! clubs and the reference's row: who lies where, hushes, needs, hears, knows -/
theorem RC.n8 {c : gM} {d : Nat → Int32} {N : Nat} (h : RC c d N) : N ≤ 8 := h.1
theorem RC.cN {c : gM} {d : Nat → Int32} {N : Nat} (h : RC c d N) : c 8 0 = nI N := h.2.1
theorem RC.dN {c : gM} {d : Nat → Int32} {N : Nat} (h : RC c d N) : d 0 = nI N := h.2.2.1
theorem RC.cn {c : gM} {d : Nat → Int32} {N : Nat} (h : RC c d N) : nN (c 8 0) = N := by rw [h.cN, nN_nI (by have := h.n8; omega)]
theorem RC.dn {c : gM} {d : Nat → Int32} {N : Nat} (h : RC c d N) : nN (d 0) = N := by rw [h.dN, nN_nI (by have := h.n8; omega)]
theorem RC.day {c : gM} {d : Nat → Int32} {N : Nat} (h : RC c d N) : c 8 1 = d 1 ∧ NB 99999 (d 1) := ⟨h.2.2.2.1, h.2.2.2.2.1⟩
theorem RC.z {c : gM} {d : Nat → Int32} {N : Nat} (h : RC c d N) : c 8 2 = d 2 := h.2.2.2.2.2.1
theorem RC.li {c : gM} {d : Nat → Int32} {N : Nat} (h : RC c d N) {j : Nat} (hj : j < 6) : c 9 j = d (3 + j) ∧ SV (d (3 + j)) := h.2.2.2.2.2.2.1 j hj
theorem RC.gl {c : gM} {d : Nat → Int32} {N : Nat} (h : RC c d N) {g : Nat} (hg : g < N) {w : Nat} (hw : w < 7) : c g w = d (9 + 8 * w + g) ∧ NB (bnd w) (d (9 + 8 * w + g)) := h.2.2.2.2.2.2.2.1 g hg w hw
theorem RC.sp {c : gM} {d : Nat → Int32} {N : Nat} (h : RC c d N) {j : Nat} (hj : j < 10) : c 10 j = d (65 + j) - 1 ∧ NB N (d (65 + j)) := h.2.2.2.2.2.2.2.2 j hj
theorem RC.its {c μ : gM} {N : Nat} (h : RC c (μ 1) N) {g : Nat} (hg : g < N) {w : Nat} (hw : w < 7) : c g w = m_its μ g w := (h.gl hg hw).1
theorem RC.nb {c μ : gM} {N : Nat} (h : RC c (μ 1) N) {g : Nat} (hg : g < N) {w : Nat} (hw : w < 7) : NB (bnd w) (m_its μ g w) := (h.gl hg hw).2
theorem lyL {c : gM} {room away : Int32} {g : Nat} (hg : g < 32) : ∀ (n i : Nat) (acc : Int32), i + n ≤ 8 → bt (x_lyingIn0_L5 c room away n i acc) g = ((bt acc g || (decide (i ≤ g ∧ g < i + n) && decide (c g 1 = room))) && !bt away g) := by
  intro n
  induction n with
  | zero =>
    intro i acc hi
    rw [x_lyingIn0_L5, b_and, bt_not hg, decide_eq_false (show ¬ (i ≤ g ∧ g < i + 0) by omega), Bool.false_and, Bool.or_false]
  | succ n ih =>
    intro i acc hi
    rw [x_lyingIn0_L5]
    by_cases hr : c i 1 = room
    · rw [if_pos hr, ih (i + 1) _ (by omega), b_or, bt_shl1 (by omega) hg]
      congr 1
      by_cases h : g = i
      · subst h
        rw [decide_eq_true rfl, decide_eq_true (show g ≤ g ∧ g < g + (n + 1) by omega), decide_eq_true hr]
        simp
      · rw [decide_eq_false h, Bool.or_false]
        congr 2
        exact decide_eq_decide.mpr (by omega)
    · rw [if_neg hr, ih (i + 1) _ (by omega)]
      congr 1
      by_cases h : g = i
      · subst h
        rw [decide_eq_false hr, Bool.and_false, Bool.and_false]
      · congr 2
        exact decide_eq_decide.mpr (by omega)
theorem ly_bit {c : gM} {N : Nat} (hN : N ≤ 8) (hc : nN (c 8 0) = N) {room away : Int32} {g : Nat} (hg : g < 32) : bt (x_lyingIn0 c room away) g = ((decide (g < N) && decide (c g 1 = room)) && !bt away g) := by
  unfold x_lyingIn0
  rw [hc, lyL hg N 0 0 (by omega), b_0, Bool.false_or]
  congr 2
  exact decide_eq_decide.mpr (by omega)
theorem isIn_iff {μ : gM} {g : Nat} (hg : g < 32) {room : Int32} : (m_isIn μ g room = 0) ↔ ¬ (bt (μ 0 2) g = false ∧ m_its μ g 1 = room) := by
  unfold m_isIn
  by_cases h : (jshr (μ 0 2) (nI g)) &&& 1 = 0
  · rw [if_pos h]
    have hb := (bt_s0 hg).mp h
    by_cases h2 : m_its μ g 1 = room
    · rw [if_pos h2]
      exact ⟨fun q => absurd q (by decide), fun q => absurd ⟨hb, h2⟩ q⟩
    · rw [if_neg h2]
      exact ⟨fun _ q => h2 q.2, fun _ => rfl⟩
  · rw [if_neg h]
    exact ⟨fun _ q => h ((bt_s0 hg).mpr q.1), fun _ => rfl⟩
theorem in_ly {c μ : gM} {N : Nat} (H : RC c (μ 1) N) {room : Int32} {g : Nat} (hg : g < N) : (x_isIn (nI g) (x_lyingIn0 c room (μ 0 2)) = 0) ↔ (m_isIn μ g room = 0) := by
  have h8 := H.n8
  rw [bt_in (by omega), ly_bit h8 H.cn (by omega), isIn_iff (by omega), H.its hg (by decide), decide_eq_true hg, Bool.true_and]
  by_cases h1 : m_its μ g 1 = room
  · rw [decide_eq_true h1, Bool.true_and]
    cases bt (μ 0 2) g
    · exact ⟨fun q => absurd q (by decide), fun q => absurd ⟨rfl, h1⟩ q⟩
    · exact ⟨fun _ q => absurd q.1 (by decide), fun _ => rfl⟩
  · rw [decide_eq_false h1, Bool.false_and]
    exact ⟨fun _ q => h1 q.2, fun _ => rfl⟩
theorem hushes_eq {c μ : gM} {N : Nat} (H : RC c (μ 1) N) {g : Nat} (hg : g < N) : x_hushes1 (mget c g) = m_hushes μ g := by
  have e0 : (mget c g) 0 0 = m_its μ g 0 := H.its hg (by decide)
  have e4 : (mget c g) 0 4 = m_its μ g 4 := H.its hg (by decide)
  unfold x_hushes1 m_hushes
  rw [e0, e4]
theorem hushL {c μ : gM} {N : Nat} (H : RC c (μ 1) N) {room : Int32} : ∀ (n i : Nat) (acc : Int32), i + n = N → x_hushOf0_L4 c (x_lyingIn0 c room (μ 0 2)) n i acc = m_hushIn_L4 μ room n i acc := by
  intro n
  induction n with
  | zero => intro i acc _; rw [x_hushOf0_L4, m_hushIn_L4]
  | succ n ih =>
    intro i acc hi
    rw [x_hushOf0_L4, m_hushIn_L4]
    by_cases h : m_isIn μ i room = 0
    · rw [if_pos h, if_pos ((in_ly H (by omega)).mpr h), Int32.add_zero, ih (i + 1) _ (by omega)]
    · rw [if_neg h, if_neg (fun q => h ((in_ly H (by omega)).mp q)), hushes_eq H (by omega), ih (i + 1) _ (by omega)]
theorem hush_eq {c μ : gM} {N : Nat} (H : RC c (μ 1) N) (room : Int32) : x_hushOf0 c (x_lyingIn0 c room (μ 0 2)) = m_hushIn μ room := by
  unfold x_hushOf0 m_hushIn
  rw [H.cn, H.dn, hushL H N 0 0 (by omega)]
theorem hushes_nb (μ : gM) (g : Nat) : NB 2 (m_hushes μ g) := by
  unfold m_hushes
  repeat' split
  all_goals first | exact ⟨0, by decide, rfl⟩ | exact ⟨1, by decide, rfl⟩ | exact ⟨2, by decide, rfl⟩
theorem hush_nbL {μ : gM} {room : Int32} : ∀ (n i : Nat) (a : Nat), ∃ b, b ≤ a + 2 * n ∧ m_hushIn_L4 μ room n i (nI a) = nI b := by
  intro n
  induction n with
  | zero => intro i a; exact ⟨a, by omega, by rw [m_hushIn_L4]⟩
  | succ n ih =>
    intro i a
    rw [m_hushIn_L4]
    split
    · rw [Int32.add_zero]
      obtain ⟨b, h1, h2⟩ := ih (i + 1) a
      exact ⟨b, by omega, h2⟩
    · obtain ⟨v, hv, e⟩ := hushes_nb μ i
      rw [e, nI_add]
      obtain ⟨b, h1, h2⟩ := ih (i + 1) (a + v)
      exact ⟨b, by omega, h2⟩
theorem hush_nb {c μ : gM} {N : Nat} (H : RC c (μ 1) N) (room : Int32) : NB 16 (m_hushIn μ room) := by
  unfold m_hushIn
  rw [H.dn]
  obtain ⟨b, h1, h2⟩ := hush_nbL (μ := μ) (room := room) N 0 0
  have := H.n8
  exact ⟨b, by omega, h2⟩
theorem needs_v : ∀ v, v ≤ 9 → j_max 0 ((10 - nI v) - 2) = m_held ((10 - nI v) - 2) 0 10 ∧ j_max 0 (((10 - nI v) + 3) - 4) = m_held ((10 - nI v) - 1) 0 10 := by decide +kernel
theorem needs_eq {c μ : gM} {N : Nat} (H : RC c (μ 1) N) {g : Nat} (hg : g < N) {ic : Int32} (hic : (ic = 0) ↔ (m_hasOther μ g = 0)) : x_needs1 (mget c g) ic = m_needs μ g := by
  have e0 : (mget c g) 0 0 = m_its μ g 0 := H.its hg (by decide)
  have e2 : (mget c g) 0 2 = m_its μ g 2 := H.its hg (by decide)
  obtain ⟨v, hv, ev⟩ := H.nb hg (w := 2) (by decide)
  obtain ⟨n1, n2⟩ := needs_v v hv
  unfold x_needs1 m_needs
  rw [e0, e2, ev, n1, n2]
  by_cases h : m_hasOther μ g = 0
  · rw [if_pos h, if_pos (hic.mpr h)]
  · rw [if_neg h, if_neg (fun q => h (hic.mp q))]
theorem otherL {μ : gM} {g : Nat} (hg : g < 8) : ∀ (n i : Nat), i + n ≤ 8 → ((m_hasOther_L2 μ g n i = 0) ↔ ∀ o, i ≤ o → o < i + n → o ≠ g → m_isIn μ o (m_its μ g 1) = 0) := by
  intro n
  induction n with
  | zero => intro i hi; rw [m_hasOther_L2]; exact ⟨fun _ o h1 h2 => by omega, fun _ => rfl⟩
  | succ n ih =>
    intro i hi
    rw [m_hasOther_L2]
    by_cases h1 : (nI i) = (nI g)
    · have hig : i = g := (nI_eq (by omega) (by omega)).mp h1
      rw [if_pos h1, ih (i + 1) (by omega)]
      constructor
      · intro q o a b hne
        exact q o (by omega) (by omega) hne
      · intro q o a b hne
        exact q o (by omega) (by omega) hne
    · rw [if_neg h1]
      by_cases h2 : m_isIn μ i (m_its μ g 1) = 0
      · rw [if_pos h2, ih (i + 1) (by omega)]
        constructor
        · intro q o a b hne
          by_cases e : o = i
          · rw [e]; exact h2
          · exact q o (by omega) (by omega) hne
        · intro q o a b hne
          exact q o (by omega) (by omega) hne
      · rw [if_neg h2]
        exact ⟨fun q => absurd q (by decide), fun q => absurd (q i (Nat.le_refl _) (by omega) (fun e => h1 (by rw [e]))) h2⟩
theorem other_iff {c μ : gM} {N : Nat} (H : RC c (μ 1) N) {g : Nat} (hg : g < N) : (m_hasOther μ g = 0) ↔ ∀ o, o < N → o ≠ g → m_isIn μ o (m_its μ g 1) = 0 := by
  have h8 := H.n8
  unfold m_hasOther
  rw [H.dn, otherL (by omega) N 0 (by omega)]
  exact ⟨fun q o h1 h2 => q o (Nat.zero_le _) (by omega) h2, fun q o _ h1 h2 => q o (by omega) h2⟩
theorem comp_iff {c μ : gM} {N : Nat} (H : RC c (μ 1) N) {g : Nat} (hg : g < N) : (((x_lyingIn0 c (c g 1) (μ 0 2)) &&& ((jshl 1 (nI g)) ^^^ (-1))) = 0) ↔ (m_hasOther μ g = 0) := by
  have h8 := H.n8
  rw [other_iff H hg, ← H.its hg (w := 1) (by decide)]
  have hb : ∀ o, o < 32 → bt ((x_lyingIn0 c (c g 1) (μ 0 2)) &&& ((jshl 1 (nI g)) ^^^ (-1))) o = (bt (x_lyingIn0 c (c g 1) (μ 0 2)) o && !decide (o = g)) := by
    intro o ho
    rw [b_and, bt_not ho, bt_shl1 (by omega) ho]
  constructor
  · intro q o ho hne
    have h1 := hb o (by omega)
    rw [q, b_0, decide_eq_false hne, Bool.not_false, Bool.and_true] at h1
    exact (in_ly H ho).mp ((bt_in (by omega)).mpr h1.symm)
  · intro q
    refine b_ext (fun o ho => ?_)
    rw [hb o ho, b_0]
    by_cases hog : o = g
    · rw [decide_eq_true hog, Bool.not_true, Bool.and_false]
    · by_cases hoN : o < N
      · rw [(bt_in (by omega)).mp ((in_ly H hoN).mpr (q o hoN hog)), Bool.false_and]
      · rw [ly_bit h8 H.cn ho, decide_eq_false hoN]
        rfl
theorem loud_v : ∀ v, v ≤ 9 → ∀ h, h ≤ 16 → j_max 0 (nI v - nI h) = m_held (nI v - nI h) 0 9 := by decide +kernel
theorem SV.loud {x : Int32} (h : SV x) : NB 9 (jrem x 10) := by
  obtain ⟨r, t, v, hr, ht, hv, rfl⟩ := h
  refine ⟨v, by omega, ?_⟩
  have e : jrem (nI (1000 * r + 10 * t + v)) 10 = nI ((1000 * r + 10 * t + v) % 10) := pk_rem (d := 10) (by omega) (by decide) (by decide)
  rw [e]
  congr 1
  omega
theorem SV.room {x : Int32} (h : SV x) : ∃ r t v : Nat, r < 6 ∧ t < 16 ∧ v < 10 ∧ x = nI (1000 * r + 10 * t + v) ∧ x / 1000 = nI r ∧ x_topicOf x = nI t ∧ jrem x 10 = nI v ∧ jrem (x / 10) 100 = nI t ∧ jrem x 1000 = nI (10 * t + v) := by
  obtain ⟨r, t, v, hr, ht, hv, rfl⟩ := h
  have e1 : nI (1000 * r + 10 * t + v) / 1000 = nI ((1000 * r + 10 * t + v) / 1000) := pk_div (d := 1000) (by omega) (by decide) (by decide)
  have e2 : jrem (nI (1000 * r + 10 * t + v)) 1000 = nI ((1000 * r + 10 * t + v) % 1000) := pk_rem (d := 1000) (by omega) (by decide) (by decide)
  have e3 : nI (1000 * r + 10 * t + v) / 10 = nI ((1000 * r + 10 * t + v) / 10) := pk_div (d := 10) (by omega) (by decide) (by decide)
  have e4 : jrem (nI (1000 * r + 10 * t + v)) 10 = nI ((1000 * r + 10 * t + v) % 10) := pk_rem (d := 10) (by omega) (by decide) (by decide)
  have m1 : (1000 * r + 10 * t + v) / 1000 = r := by omega
  have m2 : (1000 * r + 10 * t + v) % 1000 = 10 * t + v := by omega
  have m3 : (1000 * r + 10 * t + v) / 10 = 100 * r + t := by omega
  have m4 : (1000 * r + 10 * t + v) % 10 = v := by omega
  rw [m1] at e1
  rw [m2] at e2
  rw [m3] at e3
  rw [m4] at e4
  refine ⟨r, t, v, hr, ht, hv, rfl, e1, ?_, e4, ?_, e2⟩
  · unfold x_topicOf
    rw [e2]
    have e5 : nI (10 * t + v) / 10 = nI ((10 * t + v) / 10) := pk_div (d := 10) (by omega) (by decide) (by decide)
    rw [e5]
    congr 1
    omega
  · rw [e3]
    have e6 : jrem (nI (100 * r + t)) 100 = nI ((100 * r + t) % 100) := pk_rem (d := 100) (by omega) (by decide) (by decide)
    rw [e6]
    congr 1
    omega
theorem hearL {c μ : gM} {N : Nat} (H : RC c (μ 1) N) {s : Int32} (hs : SV s) : ∀ (n i : Nat) (acc : Int32), i + n = N → x_hearersOf0_L32 c s (μ 0 2) n i acc = m_hearers_L29 μ s n i acc := by
  have h8 := H.n8
  have eL : j_max 0 ((x_loudOf s) - (x_hushOf0 c (x_lyingIn0 c (x_roomOf s) (μ 0 2)))) = m_held ((jrem s 10) - (m_hushIn μ (s / 1000))) 0 9 := by
    rw [hush_eq H]
    obtain ⟨v, hv, ev⟩ := hs.loud
    obtain ⟨b, hb, eb⟩ := hush_nb H (s / 1000)
    show j_max 0 (jrem s 10 - m_hushIn μ (s / 1000)) = _
    rw [ev, eb]
    exact loud_v v hv b hb
  intro n
  induction n with
  | zero => intro i acc _; rw [x_hearersOf0_L32, m_hearers_L29]
  | succ n ih =>
    intro i acc hi
    have hiN : i < N := by omega
    rw [x_hearersOf0_L32, m_hearers_L29, eL, show x_roomOf s = s / 1000 from rfl]
    by_cases h : m_isIn μ i (s / 1000) = 0
    · rw [if_pos h, if_pos ((in_ly H hiN).mpr h), Int32.or_zero, ih (i + 1) _ (by omega)]
    · rw [if_neg h, if_neg (fun q => h ((in_ly H hiN).mp q))]
      have hroom : c i 1 = s / 1000 := by
        have h2 := Classical.not_not.mp (fun q => h ((isIn_iff (by omega)).mpr q))
        rw [H.its hiN (by decide)]
        exact h2.2
      have hc := comp_iff H hiN
      rw [hroom] at hc
      have hc2 := hc
      by_cases h3 : ((x_lyingIn0 c (s / 1000) (μ 0 2)) &&& ((jshl 1 (nI i)) ^^^ (-1))) = 0
      · rw [if_pos h3, needs_eq H hiN (ic := 0) ⟨fun _ => hc2.mp h3, fun _ => rfl⟩, ih (i + 1) _ (by omega), ih (i + 1) _ (by omega), Int32.or_zero]
      · rw [if_neg h3, needs_eq H hiN (ic := 1) ⟨fun q => absurd q (by decide), fun q => absurd (hc2.mpr q) h3⟩, ih (i + 1) _ (by omega), ih (i + 1) _ (by omega), Int32.or_zero]
theorem hear_eq {c μ : gM} {N : Nat} (H : RC c (μ 1) N) {s : Int32} (hs : SV s) : x_hearersOf0 c s (μ 0 2) = m_hearers μ s := by
  unfold x_hearersOf0 m_hearers
  rw [H.cn, H.dn, hearL H hs N 0 0 (by omega)]

/-! what sets of gloves know -/
theorem knownL {c μ : gM} {N : Nat} (H : RC c (μ 1) N) {s1 s2 : Int32} (hs : ∀ g, g < N → bt s1 g = bt s2 g) : ∀ (n i : Nat) (acc : Int32), i + n = N → x_knownBy0_L4 c s1 n i acc = m_known_L5 μ s2 3 n i acc := by
  have h8 := H.n8
  intro n
  induction n with
  | zero => intro i acc _; rw [x_knownBy0_L4, m_known_L5]
  | succ n ih =>
    intro i acc hi
    have hiN : i < N := by omega
    rw [x_knownBy0_L4, m_known_L5, ← H.its hiN (w := 3) (by decide)]
    by_cases h : x_isIn (nI i) s1 = 0
    · have hb := (bt_in (by omega)).mp h
      rw [if_pos h, if_neg (fun q => by rw [hs i hiN, (bt_s1 (by omega)).mp q] at hb; cases hb), Int32.or_zero, ih (i + 1) _ (by omega)]
    · have hb : bt s2 i = true := by
        rw [← hs i hiN]
        cases hq : bt s1 i
        · exact absurd ((bt_in (by omega)).mpr hq) h
        · rfl
      rw [if_neg h, if_pos ((bt_s1 (by omega)).mpr hb), ih (i + 1) _ (by omega)]
theorem handsL {c μ : gM} {N : Nat} (H : RC c (μ 1) N) {s1 s2 : Int32} (hs : ∀ g, g < N → bt s1 g = bt s2 g) : ∀ (n i : Nat) (acc : Int32), i + n = N → x_knownByHandsOf0_L4 c s1 n i acc = m_known_L5 μ s2 5 n i acc := by
  have h8 := H.n8
  intro n
  induction n with
  | zero => intro i acc _; rw [x_knownByHandsOf0_L4, m_known_L5]
  | succ n ih =>
    intro i acc hi
    have hiN : i < N := by omega
    rw [x_knownByHandsOf0_L4, m_known_L5, ← H.its hiN (w := 5) (by decide)]
    by_cases h : x_isIn (nI i) s1 = 0
    · have hb := (bt_in (by omega)).mp h
      rw [if_pos h, if_neg (fun q => by rw [hs i hiN, (bt_s1 (by omega)).mp q] at hb; cases hb), Int32.or_zero, ih (i + 1) _ (by omega)]
    · have hb : bt s2 i = true := by
        rw [← hs i hiN]
        cases hq : bt s1 i
        · exact absurd ((bt_in (by omega)).mpr hq) h
        · rfl
      rw [if_neg h, if_pos ((bt_s1 (by omega)).mpr hb), ih (i + 1) _ (by omega)]
theorem known_eq {c μ : gM} {N : Nat} (H : RC c (μ 1) N) {s1 s2 : Int32} (hs : ∀ g, g < N → bt s1 g = bt s2 g) : x_knownBy0 c s1 = m_known μ s2 3 ∧ x_knownByHandsOf0 c s1 = m_known μ s2 5 := by
  unfold x_knownBy0 x_knownByHandsOf0 m_known
  rw [H.cn, H.dn, knownL H hs N 0 0 (by omega), handsL H hs N 0 0 (by omega)]
  exact ⟨rfl, rfl⟩
theorem every_bt {c : gM} {N : Nat} (hN : N ≤ 8) (hc : c 8 0 = nI N) : x_everyone0 c = nI (2 ^ N - 1) := by
  unfold x_everyone0
  rw [hc, shl1 hN]
  exact pk_sub (b := 1) (Nat.one_le_two_pow)
theorem every_g {c : gM} {N : Nat} (hN : N ≤ 8) (hc : c 8 0 = nI N) : ∀ g, g < N → bt (x_everyone0 c) g = bt 255 g := by
  intro g hg
  have h1 : 2 ^ N ≤ 256 := pow8 hN
  rw [every_bt hN hc, bt_nI (by omega) (by omega), Nat.testBit_two_pow_sub_one, b_255, decide_eq_true hg, decide_eq_true (by omega)]
theorem all_eq {c μ : gM} {N : Nat} (H : RC c (μ 1) N) : x_knownByGloves0 c = m_allKnow μ ∧ x_knownByHands0 c = m_allHands μ ∧ x_knownToAnyone0 c = (m_allKnow μ ||| m_allHands μ) := by
  obtain ⟨h1, h2⟩ := known_eq H (every_g H.n8 H.cN)
  have e1 : x_knownByGloves0 c = m_allKnow μ := h1
  have e2 : x_knownByHands0 c = m_allHands μ := h2
  refine ⟨e1, e2, ?_⟩
  unfold x_knownToAnyone0
  rw [e1, e2]
theorem drawnL {c μ : gM} {N : Nat} (H : RC c (μ 1) N) : ∀ (n i : Nat) (acc : Int32), i + n = N → x_drawnInAll0_L4 c n i acc = m_allDrawn_L4 μ n i acc := by
  intro n
  induction n with
  | zero => intro i acc _; rw [x_drawnInAll0_L4, m_allDrawn_L4]
  | succ n ih =>
    intro i acc hi
    rw [x_drawnInAll0_L4, m_allDrawn_L4, H.its (by omega) (w := 6) (by decide), ih (i + 1) _ (by omega)]
theorem drawn_eq {c μ : gM} {N : Nat} (H : RC c (μ 1) N) : x_drawnInAll0 c = m_allDrawn μ := by
  unfold x_drawnInAll0 m_allDrawn
  rw [H.cn, H.dn, drawnL H N 0 0 (by omega)]
theorem NB.ones {b : Nat} {x : Int32} (hb : b < 65536) (h : NB b x) : j_bitCount x = m_ones x ∧ NB 16 (m_ones x) := by
  obtain ⟨v, hv, rfl⟩ := h
  rw [bc_is (by omega), ones_is (by omega)]
  exact ⟨rfl, pcn v, pcn_le v, rfl⟩
theorem hand_ones {c μ : gM} {N : Nat} (H : RC c (μ 1) N) {g : Nat} (hg : g < N) : x_topicsInHand0 c g = m_ones (m_its μ g 5) ∧ NB 16 (m_ones (m_its μ g 5)) := by
  unfold x_topicsInHand0
  rw [H.its hg (w := 5) (by decide)]
  exact (H.nb hg (w := 5) (by decide)).ones (by decide)
theorem wiseL {c μ : gM} {N : Nat} (H : RC c (μ 1) N) : ∀ (n i : Nat) (best most : Int32), i + n = N → ((best = -1 ∧ most = -1) ∨ ∃ b, b < N ∧ best = nI b ∧ most = m_ones (m_its μ b 5)) → x_wisest0_L6 c n i best most = m_wisest_L4 μ n i best := by
  have h8 := H.n8
  intro n
  induction n with
  | zero => intro i best most _ _; rw [x_wisest0_L6, m_wisest_L4]
  | succ n ih =>
    intro i best most hi hb
    have hiN : i < N := by omega
    obtain ⟨e1, v, hv, ev⟩ := hand_ones H hiN
    rw [x_wisest0_L6, m_wisest_L4, e1]
    have hnext : ((nI i : Int32) = -1 ∧ m_ones (m_its μ i 5) = -1) ∨ ∃ b, b < N ∧ nI i = nI b ∧ m_ones (m_its μ i 5) = m_ones (m_its μ b 5) := Or.inr ⟨i, hiN, rfl, rfl⟩
    rcases hb with ⟨rfl, rfl⟩ | ⟨b, hbN, rfl, rfl⟩
    · rw [if_neg (by rw [ev]; intro q; have := Int32.le_iff_toInt_le.mp q; rw [nI_toInt (by omega)] at this; have z : (-1 : Int32).toInt = -1 := rfl; omega), if_pos (by decide)]
      exact ih (i + 1) _ _ (by omega) hnext
    · rw [if_neg (nI_pos (by omega)), nN_nI (by omega)]
      by_cases h : m_ones (m_its μ i 5) ≤ m_ones (m_its μ b 5)
      · rw [if_pos h, if_pos h]
        exact ih (i + 1) _ _ (by omega) (Or.inr ⟨b, hbN, rfl, rfl⟩)
      · rw [if_neg h, if_neg h]
        exact ih (i + 1) _ _ (by omega) hnext
theorem wisest_eq {c μ : gM} {N : Nat} (H : RC c (μ 1) N) : x_wisest0 c = m_wisest μ := by
  unfold x_wisest0 m_wisest
  rw [H.cn, H.dn, wiseL H N 0 (-1) (-1) (by omega) (Or.inl ⟨rfl, rfl⟩)]
theorem spotL {c μ : gM} {N : Nat} (H : RC c (μ 1) N) : ∀ (n i : Nat) (acc : Int32), i + n = 10 → x_spotsThatHold0_L4 c n i acc = m_holding_L4 μ n i acc := by
  have h8 := H.n8
  intro n
  induction n with
  | zero => intro i acc _; rw [x_spotsThatHold0_L4, m_holding_L4]
  | succ n ih =>
    intro i acc hi
    obtain ⟨e, v, hv, ev⟩ := H.sp (j := i) (by omega)
    rw [x_spotsThatHold0_L4, m_holding_L4, e, ev]
    by_cases h0 : v = 0
    · rw [h0, if_pos (by decide), if_pos (by decide), Int32.add_zero, ih (i + 1) _ (by omega)]
    · have e1 : nI v - 1 = nI (v - 1) := pk_sub (b := 1) (by omega)
      rw [e1, if_neg (by intro q; have := nI_pos (n := v - 1) (by omega); rw [q] at this; exact this (by decide)), if_neg (nI_nle (by omega) (by omega)), ih (i + 1) _ (by omega)]
theorem spots_eq {c μ : gM} {N : Nat} (H : RC c (μ 1) N) : x_spotsThatHold0 c = m_holding μ := by
  unfold x_spotsThatHold0 m_holding
  exact spotL H 10 0 0 rfl
theorem saidL {c μ : gM} {N : Nat} (H : RC c (μ 1) N) {room what : Int32} {i0 : Nat} {a0 : Int32} : ∀ (n i : Nat) (acc : Int32), i + n = 6 → m_room_L107 μ room what i0 a0 n i acc = (x_saidIn0_L4 c room n i acc, μ) := by
  intro n
  induction n with
  | zero => intro i acc _; rw [x_saidIn0_L4, m_room_L107]
  | succ n ih =>
    intro i acc hi
    obtain ⟨e, hs⟩ := H.li (j := i) (by omega)
    obtain ⟨r, t, v, hr, ht, hv, ex, e1, e2, e3, e4, e5⟩ := hs.room
    rw [x_saidIn0_L4, m_room_L107, e]
    by_cases h : μ 1 (3 + i) / 1000 = room
    · rw [if_pos h, if_pos (show x_roomOf (μ 1 (3 + i)) = room from h), ih (i + 1) _ (by omega), e2, e4]
    · rw [if_neg h, if_neg (show ¬ x_roomOf (μ 1 (3 + i)) = room from h), ih (i + 1) _ (by omega), Int32.or_zero]
theorem whoL {c μ : gM} {N : Nat} (H : RC c (μ 1) N) {t : Nat} (ht : t < 16) {hand bh : Int32} (hb : (hand = 0) ↔ (bh = 0)) : ∀ (n i : Nat) (acc : Int32), i + n = N → m_who_L28 μ (nI t) hand n i acc = (x_whoKnows0_L5 c (nI t) bh n i acc, μ) := by
  have h8 := H.n8
  have key : ∀ (x : Int32) (i : Nat), i < 8 → ∀ acc : Int32, (acc ||| (jshl ((jshr x (nI t)) &&& 1) (nI i))) = if x_isIn (nI t) x = 0 then acc else (acc ||| (jshl 1 (nI i))) := by
    intro x i hi acc
    by_cases h : x_isIn (nI t) x = 0
    · rw [if_pos h, (bt_s0 (by omega)).mpr ((bt_in (by omega)).mp h)]
      have e0 : jshl 0 (nI i) = 0 := (by decide +kernel : ∀ i, i < 8 → jshl 0 (nI i) = 0) i hi
      rw [e0, Int32.or_zero]
    · rw [if_neg h]
      have hbt : bt x t = true := by
        cases hq : bt x t
        · exact absurd ((bt_in (by omega)).mpr hq) h
        · rfl
      rw [(bt_s1 (by omega)).mpr hbt]
  intro n
  induction n with
  | zero => intro i acc _; rw [x_whoKnows0_L5, m_who_L28]
  | succ n ih =>
    intro i acc hi
    have hiN : i < N := by omega
    rw [x_whoKnows0_L5, m_who_L28]
    by_cases h : hand = 0
    · rw [if_pos h, if_pos (hb.mp h), key _ i (by omega), ih (i + 1) _ (by omega), ← H.its hiN (w := 3) (by decide)]
      split
      · rfl
      · rfl
    · rw [if_neg h, if_neg (fun q => h (hb.mpr q)), key _ i (by omega), ih (i + 1) _ (by omega), ← H.its hiN (w := 5) (by decide)]
      split
      · rfl
      · rfl
