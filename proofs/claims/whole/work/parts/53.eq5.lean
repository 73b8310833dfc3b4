/-! lower, cover, hold: answers alike -/
theorem SV.with {x : Int32} (h : SV x) {l : Nat} (hl : l < 10) : SV (x - jrem x 10 + nI l) ∧ x - x_loudOf x + nI l = x - jrem x 10 + nI l := by
  obtain ⟨r, t, v, hr, ht, hv, e, e1, e2, e3, e4, e5⟩ := h.room
  refine ⟨⟨r, t, l, hr, ht, hl, ?_⟩, rfl⟩
  rw [e3, e, pk_sub (by omega), nI_add]
  congr 1
  omega
theorem lowL {σ μ : gM} {N p : Nat} (h : R σ μ) (H : RC σ (μ 1) N) (hp : p < 6) : ∀ (n : Nat) (loud : Int32), n ≤ 10 → (n = 0 ∨ loud = nI (n - 1)) → (x_lower_L41 σ (nI p) n loud).1 = (m_lower_L37 μ (nI p) n loud).1 ∧ R (x_lower_L41 σ (nI p) n loud).2 (m_lower_L37 μ (nI p) n loud).2
  | 0, loud, _, _ => ef3 h
  | n + 1, loud, hn, hl => by
    have z : μ 0 2 = 0 := h.2.2.2.1
    have el : loud = nI n := by
      rcases hl with hl | hl
      · omega
      · exact hl
    subst el
    obtain ⟨s1, s2⟩ := (H.li hp).2.with (l := n) (by omega)
    unfold x_lower_L41 m_lower_L37
    rw [mg0, nN_nI (by omega), (H.li hp).1, s2]
    have hh := hear_eq H s1
    rw [z] at hh
    rw [hh]
    by_cases c : m_hearers μ (μ 1 (3 + p) - jrem (μ 1 (3 + p)) 10 + nI n) = 0
    · rw [if_pos c, if_pos c]
      exact ⟨rfl, h⟩
    · rw [if_neg c, if_neg c]
      refine lowL h H hp n _ (by omega) ?_
      by_cases n0 : n = 0
      · exact Or.inl n0
      · right
        rw [show (-1 : Int32) = -(1 : Int32) from by decide +kernel, ← Int32.sub_eq_add_neg]
        exact pk_sub (b := 1) (by omega)
theorem eq_lower {σ μ : gM} (h : R σ μ) (pl : Int32) : (x_lower σ pl).1 = (m_lower μ pl).1 ∧ R (x_lower σ pl).2 (m_lower μ pl).2 := by
  obtain ⟨N, H⟩ := h.1
  rw [mg0] at H
  unfold x_lower m_lower
  by_cases c1 : x_isWithin pl 5 = 0
  · rw [if_pos c1, if_pos (show m_isPlace pl = 0 from (win rfl).mp c1)]
    exact ef0 h
  · rw [if_neg c1, if_neg (show ¬ m_isPlace pl = 0 from win_n rfl c1)]
    obtain ⟨p, hp, rfl⟩ := wn (M := 5) (by decide) c1
    exact lowL h H (by omega) 10 9 (by decide) (Or.inr rfl)
theorem pk2_le {N : Nat} (h : N ≤ 8) : 2 ^ N ≤ 256 := Nat.pow_le_pow_right (n := 2) (by decide) h
theorem nI_ge0 {b : Nat} (hb : b < 2 ^ 31) : 0 ≤ nI b := Int32.le_iff_toInt_le.mpr (by rw [nI_toInt hb, show (0 : Int32).toInt = 0 from rfl]; omega)
theorem nI_ne1 {b : Nat} (hb : b < 2 ^ 31) : ¬ nI b = -1 := fun q => by
  have := nI_ge0 hb
  rw [q] at this
  exact absurd this (by decide)
/-- the fewest of the sets so far: told alike -/
def BS (best : Int32) : Prop := best = -1 ∨ ∃ b, b < 256 ∧ best = nI b
theorem BS.neg {best : Int32} (h : BS best) : (best = -1 ↔ best < 0) ∧ (best = -1 ↔ ¬ 0 ≤ best) := by
  rcases h with rfl | ⟨b, hb, rfl⟩
  · exact ⟨⟨fun _ => by decide, fun _ => rfl⟩, ⟨fun _ => by decide, fun _ => rfl⟩⟩
  · exact ⟨⟨fun q => absurd q (nI_ne1 (by omega)), fun q => absurd q (nI_pos (by omega))⟩, ⟨fun q => absurd q (nI_ne1 (by omega)), fun q => absurd (nI_ge0 (by omega)) q⟩⟩
theorem BS.fewer {best : Int32} (h : BS best) {i : Nat} (hi : i < 256) : (x_isFewer (nI i) best = 0) ↔ (¬ best < 0 ∧ m_ones best ≤ m_ones (nI i)) := by
  unfold x_isFewer
  rcases h with rfl | ⟨b, hb, rfl⟩
  · rw [if_pos rfl]
    exact ⟨fun q => absurd q (by decide), fun q => absurd (by decide) q.1⟩
  · rw [if_neg (nI_ne1 (by omega)), (NB.ones (b := 255) (by decide) ⟨b, by omega, rfl⟩).1, (NB.ones (b := 255) (by decide) ⟨i, by omega, rfl⟩).1]
    by_cases c : m_ones (nI b) ≤ m_ones (nI i)
    · rw [if_pos c]
      exact ⟨fun _ => ⟨nI_pos (by omega), c⟩, fun _ => rfl⟩
    · rw [if_neg c]
      exact ⟨fun q => absurd q (by decide), fun q => absurd q.2 c⟩
theorem covL {σ μ : gM} {N : Nat} {tp : Int32} (h : R σ μ) (H : RC σ (μ 1) N) : ∀ (n i : Nat) (best : Int32), i + n = 2 ^ N → BS best → (x_cover_L20 σ tp n i best).1 = (m_cover_L17 μ tp n i best).1 ∧ R (x_cover_L20 σ tp n i best).2 (m_cover_L17 μ tp n i best).2
  | 0, i, best, _, hb => by
    unfold x_cover_L20 m_cover_L17
    by_cases c : best = -1
    · rw [if_pos c, if_neg (hb.neg.2.mp c)]
      exact ef3 h
    · rw [if_neg c, if_pos (Classical.byContradiction (fun q => c (hb.neg.2.mpr q)))]
      exact ⟨rfl, h⟩
  | n + 1, i, best, e, hb => by
    have hi : i < 256 := by have := pk2_le H.n8; omega
    obtain ⟨k1, k2⟩ := known_eq H (s1 := nI i) (s2 := nI i) (fun _ _ => rfl)
    have hf := hb.fewer hi
    have hB : BS (nI i) := Or.inr ⟨i, hi, rfl⟩
    unfold x_cover_L20 m_cover_L17
    rw [mg0, k1, k2]
    by_cases c : (tp &&& ((m_known μ (nI i) 3 ||| m_known μ (nI i) 5) ^^^ (-1))) = 0
    · rw [if_pos c, if_pos c]
      by_cases c2 : x_isFewer (nI i) best = 0
      · have q := hf.mp c2
        rw [if_pos c2, if_neg q.1, if_pos q.2]
        exact covL h H n (i + 1) _ (by omega) hb
      · rw [if_neg c2]
        by_cases c3 : best < 0
        · rw [if_pos c3]
          exact covL h H n (i + 1) _ (by omega) hB
        · rw [if_neg c3, if_neg (fun q => c2 (hf.mpr ⟨c3, q⟩))]
          exact covL h H n (i + 1) _ (by omega) hB
    · rw [if_neg c, if_neg c]
      by_cases c2 : x_isFewer (nI i) best = 0
      · rw [if_pos c2]
        exact covL h H n (i + 1) _ (by omega) hb
      · rw [if_neg c2]
        exact covL h H n (i + 1) _ (by omega) hb
theorem eq_cover {σ μ : gM} (h : R σ μ) (topics : Int32) : (x_cover σ topics).1 = (m_cover μ topics).1 ∧ R (x_cover σ topics).2 (m_cover μ topics).2 := by
  obtain ⟨N, H⟩ := h.1
  rw [mg0] at H
  unfold x_cover m_cover
  by_cases c1 : x_isWithin topics 65535 = 0
  · rw [if_pos c1, if_pos (show m_areTopics topics = 0 from (win rfl).mp c1)]
    exact ef0 h
  · rw [if_neg c1, if_neg (show ¬ m_areTopics topics = 0 from win_n rfl c1), H.cn, H.dn]
    exact covL h H _ 0 (-1) (by omega) (Or.inl rfl)
theorem R_spot {σ μ : gM} {N s v : Nat} {g : Int32} (h : R σ μ) (H : RC σ (μ 1) N) (hs : s < 10) (hv : v ≤ N) (e : g + 1 = nI v) (e2 : nI v - 1 = g) : R (mset σ 10 s g) (mset μ 1 (65 + s) (g + 1)) := by
  have h8 := H.n8
  have hR : RC (mset σ 10 s g) (mset μ 1 (65 + s) (g + 1) 1) N → R (mset σ 10 s g) (mset μ 1 (65 + s) (g + 1)) := fun q => R_club h ⟨N, q⟩ (fun k hk => mset_ne _ _ _ (by omega)) (fun k h1 _ _ _ => mset_ne _ _ _ h1)
  refine hR ⟨h8, ?_, ?_, ?_, ?_, ?_, fun j hj => ?_, fun g hg w hw => ?_, fun j hj => ?_⟩
  · rw [mset_ne _ _ _ (by decide)]; exact H.cN
  · rw [mset_at, upd_ne _ _ (by omega)]; exact H.dN
  · rw [mset_ne _ _ _ (by decide), mset_at, upd_ne _ _ (by omega)]; exact H.day.1
  · rw [mset_at, upd_ne _ _ (by omega)]; exact H.day.2
  · rw [mset_ne _ _ _ (by decide), mset_at, upd_ne _ _ (by omega)]; exact H.z
  · rw [mset_ne _ _ _ (by omega), mset_at, upd_ne _ _ (by omega)]; exact H.li hj
  · rw [mset_ne _ _ _ (by omega), mset_at, upd_ne _ _ (by omega)]; exact H.gl hg hw
  · rw [mset_at, mset_at]
    by_cases ej : j = s
    · subst ej
      rw [upd_at, upd_at, e]
      exact ⟨e2.symm, v, hv, rfl⟩
    · rw [upd_ne _ _ ej, upd_ne _ _ (by omega)]
      exact H.sp hj
theorem N_1 {N : Nat} (h8 : N ≤ 8) : (nI N - 1).toInt = (N : Int) - 1 := by
  have := pk_sub_toInt (a := N) (b := 1) (by omega) (by decide)
  exact this
theorem eq_hold {σ μ : gM} (h : R σ μ) (spot : Int32) (glove : Int32) : (x_hold σ spot glove).1 = (m_hold μ spot glove).1 ∧ R (x_hold σ spot glove).2 (m_hold μ spot glove).2 := by
  obtain ⟨N, H⟩ := h.1
  rw [mg0] at H
  have h8 := H.n8
  unfold x_hold m_hold
  simp only [mg0]
  by_cases c1 : x_isWithin spot 9 = 0
  · rw [if_pos c1, if_pos ((win (M := 9) rfl).mp c1)]
    exact ef0 h
  · rw [if_neg c1, if_neg (win_n (M := 9) rfl c1)]
    obtain ⟨s, hs, rfl⟩ := wn (M := 9) (by decide) c1
    rw [nN_nI (by omega)]
    have b := in_int glove (-1) (μ 1 0 - 1).toInt64
    rw [show (-1 : Int64).toInt = -1 from rfl, Int32.toInt_toInt64, H.dN, N_1 h8] at b
    rw [H.dN]
    by_cases c2 : glove = -1
    · subst c2
      rw [if_pos rfl, if_neg (b.mpr ⟨by decide, by rw [show (-1 : Int32).toInt = -1 from rfl]; omega⟩)]
      exact ⟨rfl, R_spot h H (by omega) (v := 0) (by omega) (by decide +kernel) (by decide +kernel)⟩
    · rw [if_neg c2]
      by_cases c3 : x_has0 σ glove = 0
      · rw [if_pos c3, if_pos (Classical.byContradiction (fun q => by
          obtain ⟨q1, q2⟩ := b.mp q
          have hne : glove.toInt ≠ -1 := fun r => c2 (Int32.toInt_inj.mp r)
          refine absurd c3 ?_
          unfold x_has0
          rw [H.cN]
          exact win_iff.mpr ⟨by omega, by rw [N_1 h8]; exact q2⟩))]
        exact ef0 h
      · rw [if_neg c3]
        obtain ⟨g, hg, rfl⟩ := hasG H c3
        rw [if_neg (b.mpr ⟨by rw [nI_toInt (by omega)]; omega, by rw [nI_toInt (by omega)]; omega⟩)]
        exact ⟨rfl, R_spot h H (by omega) (v := g + 1) (by omega) (nI_1 g) (pk_sub (b := 1) (by omega))⟩
