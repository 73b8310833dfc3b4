/-! lying, being drawn on, a day, days -/
theorem cap_j {M v : Nat} (hM : M < 2 ^ 20) (hv : v ≤ M) : j_min (nI M) (nI v + 1) = nI (min M (v + 1)) := by
  unfold j_min
  rw [nI_1]
  by_cases h : v + 1 < M
  · rw [if_pos (nI_lt h (by omega)), Nat.min_eq_right (by omega)]
  · by_cases h2 : v + 1 = M
    · rw [h2, if_neg (nI_nlt (Nat.le_refl _) (by omega)), Nat.min_self]
    · rw [if_neg (nI_nlt (by omega) (by omega)), Nat.min_eq_left (by omega)]
theorem cap_h {M v : Nat} (hM : M < 2 ^ 20) (hv : v ≤ M) : m_held (nI v + 1) 0 (nI M) = nI (min M (v + 1)) := by
  unfold m_held
  rw [nI_1, if_pos (show (0 : Int32) ≤ nI (v + 1) from nI_pos' (by omega))]
  by_cases h : v + 1 ≤ M
  · rw [if_pos (nI_le h (by omega)), Nat.min_eq_right h]
  · rw [if_neg (nI_ge (by omega) (by omega)), Nat.min_eq_left (by omega)]
theorem NB.cap {M : Nat} {x : Int32} (hM : M < 2 ^ 20) (h : NB M x) : j_min (nI M) (x + 1) = m_held (x + 1) 0 (nI M) ∧ NB M (m_held (x + 1) 0 (nI M)) := by
  obtain ⟨v, hv, rfl⟩ := h
  rw [cap_j hM hv, cap_h hM hv]
  exact ⟨rfl, _, Nat.min_le_left _ _, rfl⟩
theorem NB.room {x : Int32} (h : NB 5 x) : NB 5 (jrem (x + 1) 6) := by
  obtain ⟨v, hv, rfl⟩ := h
  have e : jrem (nI v + 1) 6 = nI ((v + 1) % 6) := by
    rw [nI_1]
    exact pk_rem (d := 6) (by omega) (by decide) (by decide)
  exact ⟨(v + 1) % 6, by omega, e⟩
theorem NB.or {x y : Int32} (hx : NB 65535 x) (hy : NB 65535 y) : NB 65535 (x ||| y) := by
  obtain ⟨a, ha, rfl⟩ := hx
  obtain ⟨b, hb, rfl⟩ := hy
  have : a ||| b < 65536 := Nat.or_lt_two_pow (n := 16) (by omega) (by omega)
  exact ⟨a ||| b, by omega, or_nI a b⟩
def dI (γ : Nat → Int32) : Nat → Int32 := (x_beDrawnOn1 (fun _ => γ)) 0
def lI (γ : Nat → Int32) : Nat → Int32 := (x_lieOneDay1 (fun _ => γ)) 0
def dF (γ : Nat → Int32) : Nat → Int32 := upd (upd (upd (upd (upd γ 5 (γ 5 ||| γ 3)) 3 0) 4 0) 6 (j_min 9999 (γ 6 + 1))) 1 (jrem (γ 1 + 1) 6)
theorem drawn_form (ρ : gM) : (x_beDrawnOn1 ρ) 0 = dF (ρ 0) := by
  unfold x_beDrawnOn1 dF
  rw [mset_at, mset_at, mset_at, mset_at, mset_at]
  rfl
def lF (γ : Nat → Int32) : Nat → Int32 := if stx (γ 0) ≤ 0 then upd γ 4 (j_min 9999 (γ 4 + 1)) else if j_min 9999 (γ 4 + 1) < stx (γ 0) then upd γ 4 (j_min 9999 (γ 4 + 1)) else dF (upd γ 4 (j_min 9999 (γ 4 + 1)))
theorem lie_form (ρ : gM) : (x_lieOneDay1 ρ) 0 = lF (ρ 0) := by
  unfold x_lieOneDay1 lF
  have hs : x_stays1 (mset ρ 0 4 (j_min (tb_most.getD 4 0) ((ρ 0 4) + 1))) = stx (ρ 0 0) := rfl
  have hm : tb_most.getD 4 0 = 9999 := rfl
  rw [hs, hm]
  by_cases h : stx (ρ 0 0) ≤ 0
  · rw [if_pos h, if_pos h, mset_at]
  · rw [if_neg h, if_neg h]
    by_cases h2 : j_min 9999 (ρ 0 4 + 1) < stx (ρ 0 0)
    · rw [if_pos h2, if_pos h2, mset_at]
    · rw [if_neg h2, if_neg h2, drawn_form, mset_at]
theorem drawn_rel {γ : Nat → Int32} {μ : gM} {g : Nat} (h : GRl γ (μ 1) g) : GRl (dF γ) ((m_drawnOn μ g) 1) g := by
  have w5 : m_its μ g 5 = γ 5 := (h 5 (by decide)).1.symm
  have w3 : m_its μ g 3 = γ 3 := (h 3 (by decide)).1.symm
  have w6 : m_its μ g 6 = γ 6 := (h 6 (by decide)).1.symm
  have w1 : m_its μ g 1 = γ 1 := (h 1 (by decide)).1.symm
  have n5 : NB 65535 (γ 5) := by rw [← w5]; exact (h 5 (by decide)).2
  have n3 : NB 65535 (γ 3) := by rw [← w3]; exact (h 3 (by decide)).2
  have n6 : NB 9999 (γ 6) := by rw [← w6]; exact (h 6 (by decide)).2
  have n1 : NB 5 (γ 1) := by rw [← w1]; exact (h 1 (by decide)).2
  obtain ⟨c1, c2⟩ := n6.cap (by decide)
  unfold m_drawnOn dF
  simp only [its_sets]
  rw [if_neg (by decide), if_neg (by decide), if_neg (by decide), if_neg (by decide), if_neg (by decide), if_neg (by decide), if_neg (by decide), w5, w3, w6, w1]
  have e6 : j_min 9999 (γ 6 + 1) = m_held (γ 6 + 1) 0 9999 := c1
  rw [e6]
  refine GRl.set (GRl.set (GRl.set (GRl.set (GRl.set h (by decide) ?_) (by decide) ?_) (by decide) ?_) (by decide) ?_) (by decide) ?_
  · exact n5.or n3
  · exact ⟨0, Nat.zero_le _, rfl⟩
  · exact ⟨0, Nat.zero_le _, rfl⟩
  · exact c2
  · exact n1.room
theorem drawn_other {γ : Nat → Int32} {μ : gM} {g g' : Nat} (h : GRl γ (μ 1) g') (hg : g < 8) (hg' : g' < 8) (hne : g' ≠ g) : GRl γ ((m_drawnOn μ g) 1) g' := by
  unfold m_drawnOn
  exact ((((h.other hg hg' hne).other hg hg' hne).other hg hg' hne).other hg hg' hne).other hg hg' hne
theorem drawn_hi {μ : gM} {g j : Nat} (hg : g < 8) (hj : 65 ≤ j) : (m_drawnOn μ g) 1 j = μ 1 j := by
  unfold m_drawnOn
  rw [sets_ne (by omega), sets_ne (by omega), sets_ne (by omega), sets_ne (by omega), sets_ne (by omega)]
/-- what the reference does to a glove at a day's second step -/
def mlie (μ : gM) (g : Nat) : gM := if (m_stays (m_sets μ g 4 (m_held ((m_its μ g 4) + 1) 0 9999)) g) ≤ 0 then (m_sets μ g 4 (m_held ((m_its μ g 4) + 1) 0 9999)) else (if (m_its (m_sets μ g 4 (m_held ((m_its μ g 4) + 1) 0 9999)) g 4) < (m_stays (m_sets μ g 4 (m_held ((m_its μ g 4) + 1) 0 9999)) g) then (m_sets μ g 4 (m_held ((m_its μ g 4) + 1) 0 9999)) else (m_drawnOn (m_sets μ g 4 (m_held ((m_its μ g 4) + 1) 0 9999)) g))
theorem lie_rel {γ : Nat → Int32} {μ : gM} {g : Nat} (h : GRl γ (μ 1) g) : GRl (lF γ) ((mlie μ g) 1) g := by
  have w4 : m_its μ g 4 = γ 4 := (h 4 (by decide)).1.symm
  have w0 : m_its μ g 0 = γ 0 := (h 0 (by decide)).1.symm
  have n4 : NB 9999 (γ 4) := by rw [← w4]; exact (h 4 (by decide)).2
  have n0 : NB 6 (γ 0) := by rw [← w0]; exact (h 0 (by decide)).2
  obtain ⟨c1, c2⟩ := n4.cap (by decide)
  have e4 : j_min 9999 (γ 4 + 1) = m_held (γ 4 + 1) 0 9999 := c1
  have c3 : NB 9999 (m_held (γ 4 + 1) 0 9999) := c2
  unfold mlie lF
  rw [w4, e4]
  have hst : m_stays (m_sets μ g 4 (m_held (γ 4 + 1) 0 9999)) g = stx (γ 0) := stays_is (by rw [its_sets, if_neg (by decide)]; exact w0) n0
  have h4 : m_its (m_sets μ g 4 (m_held (γ 4 + 1) 0 9999)) g 4 = m_held (γ 4 + 1) 0 9999 := by rw [its_sets, if_pos rfl]
  rw [hst, h4]
  have h1 : GRl (upd γ 4 (m_held (γ 4 + 1) 0 9999)) ((m_sets μ g 4 (m_held (γ 4 + 1) 0 9999)) 1) g := h.set (by decide) c3
  by_cases a : stx (γ 0) ≤ 0
  · rw [if_pos a, if_pos a]; exact h1
  · rw [if_neg a, if_neg a]
    by_cases b : m_held (γ 4 + 1) 0 9999 < stx (γ 0)
    · rw [if_pos b, if_pos b]; exact h1
    · rw [if_neg b, if_neg b]; exact drawn_rel h1
theorem lie_other {γ : Nat → Int32} {μ : gM} {g g' : Nat} (h : GRl γ (μ 1) g') (hg : g < 8) (hg' : g' < 8) (hne : g' ≠ g) : GRl γ ((mlie μ g) 1) g' := by
  unfold mlie
  split
  · exact h.other hg hg' hne
  · split
    · exact h.other hg hg' hne
    · exact drawn_other (h.other hg hg' hne) hg hg' hne
theorem lie_hi {μ : gM} {g j : Nat} (hg : g < 8) (hj : 65 ≤ j) : (mlie μ g) 1 j = μ 1 j := by
  unfold mlie
  split
  · exact sets_ne (by omega)
  · split
    · exact sets_ne (by omega)
    · rw [drawn_hi hg hj, sets_ne (by omega)]
theorem lie_row {μ : gM} {g k : Nat} (hk : k ≠ 1) : (mlie μ g) k = μ k := by
  unfold mlie
  split
  · exact sets_row hk
  · split
    · exact sets_row hk
    · rw [drawnOn_row hk, sets_row hk]
theorem lie_1 {μ : gM} {g : Nat} : (mlie μ g) 1 1 = μ 1 1 := by
  unfold mlie
  split
  · exact sets_lo (by decide)
  · split
    · exact sets_lo (by decide)
    · rw [drawnOn_lo (by decide), sets_lo (by decide)]
/-- today's saying -/
theorem today {c μ : gM} {N : Nat} (H : RC c (μ 1) N) : c 9 (nN (x_placeOfToday0 c)) = m_todays μ ∧ SV (m_todays μ) := by
  obtain ⟨e, v, hv, ev⟩ := H.day
  have hp : x_placeOfToday0 c = nI (v % 6) := by
    unfold x_placeOfToday0 j_floorMod
    rw [e, ev, show (6 : Int32) = nI 6 from rfl, nx_xor, if_pos (nI_pos' (by
      have : v ^^^ 6 < 2 ^ 17 := Nat.xor_lt_two_pow (by omega) (by decide)
      omega))]
    exact pk_rem (d := 6) (by omega) (by decide) (by decide)
  unfold m_todays
  rw [hp, ev, nN_nI (by omega), nN_nI (by omega)]
  exact H.li (by omega)
theorem mput1 (τ ρ : gM) (i k : Nat) : mput τ i 1 ρ k = if k = i then ρ 0 else τ k := by
  by_cases h : k = i
  · subst h
    rw [if_pos rfl]
    exact mput_in (o := k) (i := 0) τ ρ (by decide)
  · rw [if_neg h, mput_out _ _ (by omega)]
def TG (c : gM) (hs T : Int32) (g : Nat) : Nat → Int32 := if x_isIn (nI g) hs = 0 then c g else upd (c g) 3 (tK (c g) T)
def PG (c : gM) (hs T away : Int32) (g : Nat) : Nat → Int32 := if x_isIn (nI g) away = 0 then lF (TG c hs T g) else TG c hs T g
theorem cdL {c : gM} {away : Int32} : ∀ (n i : Nat) (τ : gM), i + n ≤ 8 → (∀ g, i ≤ g → g < i + n → τ g = c g) → (∀ g, i ≤ g → g < i + n → (x_passDay0_L20 c away n i τ) g = PG c (x_hearersOf0 c (c 9 (nN (x_placeOfToday0 c))) away) (x_topicOf (c 9 (nN (x_placeOfToday0 c)))) away g) ∧ (∀ k, (k < i ∨ i + n ≤ k) → k ≠ 8 → (x_passDay0_L20 c away n i τ) k = τ k) ∧ (x_passDay0_L20 c away n i τ) 8 = upd (τ 8) 1 (j_min 99999 ((τ 8 1) + 1)) := by
  intro n
  induction n with
  | zero =>
    intro i τ hi h
    rw [x_passDay0_L20]
    exact ⟨fun g h1 h2 => by omega, fun k _ h2 => mset_ne _ _ _ h2, mset_at _ _ _ _⟩
  | succ n ih =>
    intro i τ hi h
    have hτ := h i (Nat.le_refl _) (by omega)
    rw [x_passDay0_L20]
    have key : ∀ ρ : gM, ρ i = PG c (x_hearersOf0 c (c 9 (nN (x_placeOfToday0 c))) away) (x_topicOf (c 9 (nN (x_placeOfToday0 c)))) away i → (∀ k, k ≠ i → ρ k = τ k) → (∀ g, i ≤ g → g < i + (n + 1) → (x_passDay0_L20 c away n (i + 1) ρ) g = PG c (x_hearersOf0 c (c 9 (nN (x_placeOfToday0 c))) away) (x_topicOf (c 9 (nN (x_placeOfToday0 c)))) away g) ∧ (∀ k, (k < i ∨ i + (n + 1) ≤ k) → k ≠ 8 → (x_passDay0_L20 c away n (i + 1) ρ) k = τ k) ∧ (x_passDay0_L20 c away n (i + 1) ρ) 8 = upd (τ 8) 1 (j_min 99999 ((τ 8 1) + 1)) := by
      intro ρ h1 h2
      obtain ⟨a1, a2, a3⟩ := ih (i + 1) ρ (by omega) (fun g q1 q2 => by rw [h2 g (by omega)]; exact h g (by omega) (by omega))
      refine ⟨fun g q1 q2 => ?_, fun k q1 q2 => ?_, ?_⟩
      · by_cases e : g = i
        · subst e
          rw [a2 g (Or.inl (by omega)) (by omega), h1]
        · exact a1 g (by omega) (by omega)
      · rw [a2 k (by omega) q2, h2 k (by omega)]
      · rw [a3, h2 8 (by omega)]
    have m0 : ∀ ρ : gM, (mget ρ i) 0 = ρ i := fun ρ => rfl
    by_cases c1 : (x_isIn (nI i) (x_hearersOf0 c (c 9 (nN (x_placeOfToday0 c))) away)) = 0
    · rw [if_pos c1]
      have hT : TG c (x_hearersOf0 c (c 9 (nN (x_placeOfToday0 c))) away) (x_topicOf (c 9 (nN (x_placeOfToday0 c)))) i = c i := if_pos c1
      by_cases c2 : (x_isIn (nI i) away) = 0
      · rw [if_pos c2]
        refine key _ ?_ (fun k hk => by rw [mput1, if_neg hk])
        rw [mput1, if_pos rfl, lie_form, m0, hτ]
        unfold PG
        rw [if_pos c2, hT]
      · rw [if_neg c2]
        refine key _ ?_ (fun k hk => rfl)
        unfold PG
        rw [if_neg c2, hT, hτ]
    · rw [if_neg c1]
      have hT : TG c (x_hearersOf0 c (c 9 (nN (x_placeOfToday0 c))) away) (x_topicOf (c 9 (nN (x_placeOfToday0 c)))) i = upd (c i) 3 (tK (c i) (x_topicOf (c 9 (nN (x_placeOfToday0 c))))) := if_neg c1
      by_cases c2 : (x_isIn (nI i) away) = 0
      · rw [if_pos c2]
        refine key _ ?_ (fun k hk => by rw [mput1, if_neg hk, mput1, if_neg hk])
        rw [mput1, if_pos rfl, lie_form, m0, mput1, if_pos rfl, take_form, m0, hτ]
        unfold PG
        rw [if_pos c2, hT]
      · rw [if_neg c2]
        refine key _ ?_ (fun k hk => by rw [mput1, if_neg hk])
        rw [mput1, if_pos rfl, take_form, m0, hτ]
        unfold PG
        rw [if_neg c2, hT]
def DRes (c μ : gM) (N : Nat) (hs T away : Int32) (ν : gM) : Prop := (∀ g, g < N → GRl (PG c hs T away g) (ν 1) g) ∧ ν 1 1 = m_held ((μ 1 1) + 1) 0 99999 ∧ ∀ j, 65 ≤ j → ν 1 j = μ 1 j
theorem md53 {c μ : gM} {N : Nat} (hN : N ≤ 8) {hs T : Int32} {i0 : Nat} {τ0 : gM} : ∀ (n i : Nat) (τ : gM), i + n = N → (∀ g, g < i → GRl (PG c hs T (μ 0 2) g) (τ 1) g) → (∀ g, i ≤ g → g < N → GRl (TG c hs T g) (τ 1) g) → τ 0 = μ 0 → τ 1 1 = μ 1 1 → (∀ j, 65 ≤ j → τ 1 j = μ 1 j) → DRes c μ N hs T (μ 0 2) (m_dayGoes_L53 μ i0 τ0 n i τ) := by
  intro n
  induction n with
  | zero =>
    intro i τ hi h1 h2 h3 h4 h5
    rw [m_dayGoes_L53]
    refine ⟨fun g hg w hw => ?_, ?_, fun j hj => ?_⟩
    · rw [mset_at, upd_ne _ _ (by omega)]
      exact h1 g (by omega) w hw
    · rw [mset_at, upd_at, h4]
    · rw [mset_at, upd_ne _ _ (by omega)]
      exact h5 j hj
  | succ n ih =>
    intro i τ hi h1 h2 h3 h4 h5
    have hiN : i < N := by omega
    rw [m_dayGoes_L53, h3]
    by_cases c1 : (jshr (μ 0 2) (nI i)) &&& 1 = 0
    · rw [if_pos c1]
      have hP : PG c hs T (μ 0 2) i = lF (TG c hs T i) := if_pos ((bt_in (by omega)).mpr ((bt_s0 (by omega)).mp c1))
      have fold : ∀ (P : gM → gM), (if (m_stays (m_sets τ i 4 (m_held ((m_its τ i 4) + 1) 0 9999)) i) ≤ 0 then P (m_sets τ i 4 (m_held ((m_its τ i 4) + 1) 0 9999)) else (if (m_its (m_sets τ i 4 (m_held ((m_its τ i 4) + 1) 0 9999)) i 4) < (m_stays (m_sets τ i 4 (m_held ((m_its τ i 4) + 1) 0 9999)) i) then P (m_sets τ i 4 (m_held ((m_its τ i 4) + 1) 0 9999)) else P (m_drawnOn (m_sets τ i 4 (m_held ((m_its τ i 4) + 1) 0 9999)) i))) = P (mlie τ i) := by
        intro P
        unfold mlie
        split
        · rfl
        · split
          · rfl
          · rfl
      rw [fold (fun ρ => m_dayGoes_L53 μ i0 τ0 n (i + 1) ρ)]
      refine ih (i + 1) _ (by omega) (fun g hg => ?_) (fun g g1 g2 => ?_) ?_ ?_ (fun j hj => ?_)
      · by_cases e : g = i
        · subst e
          rw [hP]
          exact lie_rel (h2 g (Nat.le_refl _) hiN)
        · exact lie_other (h1 g (by omega)) (by omega) (by omega) e
      · exact lie_other (h2 g (by omega) g2) (by omega) (by omega) (by omega)
      · rw [lie_row (by decide)]; exact h3
      · rw [lie_1]; exact h4
      · rw [lie_hi (by omega) hj]; exact h5 j hj
    · rw [if_neg c1]
      have hP : PG c hs T (μ 0 2) i = TG c hs T i := if_neg (fun q => c1 ((bt_s0 (by omega)).mpr ((bt_in (by omega)).mp q)))
      refine ih (i + 1) _ (by omega) (fun g hg => ?_) (fun g g1 g2 => h2 g (by omega) g2) h3 h4 h5
      by_cases e : g = i
      · subst e
        rw [hP]
        exact h2 g (Nat.le_refl _) hiN
      · exact h1 g (by omega)
theorem md11 {c μ : gM} {N : Nat} (H : RC c (μ 1) N) {t : Nat} (ht : t < 16) (hT : jrem (m_todays μ / 10) 100 = nI t) : ∀ (n i : Nat) (τ : gM), i + n = N → (∀ g, g < i → GRl (TG c (m_hearers μ (m_todays μ)) (nI t) g) (τ 1) g) → (∀ g, i ≤ g → g < N → GRl (c g) (τ 1) g) → τ 0 = μ 0 → (∀ j, j < 9 → τ 1 j = μ 1 j) → (∀ j, 65 ≤ j → τ 1 j = μ 1 j) → DRes c μ N (m_hearers μ (m_todays μ)) (nI t) (μ 0 2) (m_dayGoes_L11 μ n i τ) := by
  have h8 := H.n8
  intro n
  induction n with
  | zero =>
    intro i τ hi h1 h2 h3 h4 h5
    rw [m_dayGoes_L11, H.dn]
    exact md53 h8 N 0 τ (by omega) (fun g hg => by omega) (fun g _ hg => h1 g (by omega)) h3 (h4 1 (by decide)) h5
  | succ n ih =>
    intro i τ hi h1 h2 h3 h4 h5
    have hiN : i < N := by omega
    rw [m_dayGoes_L11]
    by_cases c1 : (jshr (m_hearers μ (m_todays μ)) (nI i)) &&& 1 = 1
    · rw [if_pos c1]
      have hTG : TG c (m_hearers μ (m_todays μ)) (nI t) i = upd (c i) 3 (tK (c i) (nI t)) := if_neg (fun q => by have := (bt_in (by omega)).mp q; rw [(bt_s1 (by omega)).mp c1] at this; cases this)
      have htd : m_todays τ = m_todays μ := by
        unfold m_todays
        rw [h4 1 (by decide)]
        exact h4 _ (by have := Nat.mod_lt (nN (μ 1 1)) (show 0 < 6 by decide); omega)
      rw [htd, hT]
      have hgr := h2 i (Nat.le_refl _) hiN
      obtain ⟨e1, e2⟩ := take_eq (by omega) hgr ht
      rw [e1]
      refine ih (i + 1) _ (by omega) (fun g hg => ?_) (fun g g1 g2 => (h2 g (by omega) g2).other (by omega) (by omega) (by omega)) ?_ (fun j hj => ?_) (fun j hj => ?_)
      · by_cases e : g = i
        · subst e
          rw [hTG]
          exact hgr.set (by decide) e2
        · exact (h1 g (by omega)).other (by omega) (by omega) e
      · rw [sets_row (by decide)]; exact h3
      · rw [sets_lo hj]; exact h4 j hj
      · rw [sets_ne (by omega)]; exact h5 j hj
    · rw [if_neg c1]
      have hTG : TG c (m_hearers μ (m_todays μ)) (nI t) i = c i := by
        refine if_pos ((bt_in (by omega)).mpr ?_)
        cases hq : bt (m_hearers μ (m_todays μ)) i
        · rfl
        · exact absurd ((bt_s1 (by omega)).mpr hq) c1
      refine ih (i + 1) _ (by omega) (fun g hg => ?_) (fun g g1 g2 => h2 g (by omega) g2) h3 h4 h5
      by_cases e : g = i
      · subst e
        rw [hTG]
        exact h2 g (Nat.le_refl _) hiN
      · exact h1 g (by omega)
/-- a day -/
theorem day_rel {c μ : gM} {N : Nat} (H : RC c (μ 1) N) : RC (x_passDay0 c (μ 0 2)) ((m_dayGoes μ) 1) N := by
  have h8 := H.n8
  obtain ⟨e1, hsv⟩ := today H
  obtain ⟨r, t, v, hr, ht, hv, ex, e2, e3, e4, e5, e6⟩ := hsv.room
  have hh := hear_eq H hsv
  obtain ⟨a1, a2, a3⟩ := cdL (c := c) (away := μ 0 2) N 0 c (by omega) (fun _ _ _ => rfl)
  rw [e1, hh, e3] at a1
  have hx : x_passDay0 c (μ 0 2) = x_passDay0_L20 c (μ 0 2) N 0 c := by unfold x_passDay0; rw [H.cn]
  have hm : m_dayGoes μ = m_dayGoes_L11 μ N 0 μ := by unfold m_dayGoes; rw [H.dn]
  obtain ⟨b1, b2, b3⟩ := md11 H ht e5 N 0 μ (by omega) (fun g hg => by omega) (fun g _ hg => H.gr hg) rfl (fun _ _ => rfl) (fun _ _ => rfl)
  rw [← hm] at b1 b2 b3
  rw [← hx] at a1 a2 a3
  obtain ⟨d1, d2⟩ := H.day
  obtain ⟨c1, c2⟩ := d2.cap (M := 99999) (by decide)
  refine ⟨h8, ?_, ?_, ?_, ?_, ?_, fun j hj => ?_, fun g hg w hw => ?_, fun j hj => ?_⟩
  · rw [a3, upd_ne _ _ (by decide)]; exact H.cN
  · rw [dg_N]; exact H.dN
  · rw [a3, upd_at, b2, d1]; exact c1
  · rw [b2]; exact c2
  · rw [a3, upd_ne _ _ (by decide), dg_lo _ (by decide) (by decide)]; exact H.z
  · rw [a2 9 (Or.inr (by omega)) (by decide), dg_lo _ (by omega) (by omega)]; exact H.li hj
  · rw [a1 g (Nat.zero_le _) (by omega)]; exact b1 g hg w hw
  · rw [a2 10 (Or.inr (by omega)) (by decide), b3 _ (by omega)]; exact H.sp hj
theorem daysL {N : Nat} {away : Int32} {σ c0 : gM} {k : Nat} : ∀ (n i : Nat) (c τ : gM), RC c (τ 1) N → τ 0 2 = away → RC (x_passDays0_L2 c0 k away n i c) ((m_daysGo_L2 σ k n i τ) 1) N := by
  intro n
  induction n with
  | zero => intro i c τ H _; rw [x_passDays0_L2, m_daysGo_L2]; exact H
  | succ n ih =>
    intro i c τ H ha
    rw [x_passDays0_L2, m_daysGo_L2]
    refine ih (i + 1) _ _ ?_ (by rw [dg_row _ (by decide)]; exact ha)
    rw [← ha]
    exact day_rel H
theorem days_rel {c μ : gM} {N : Nat} (H : RC c (μ 1) N) (k : Nat) : RC (x_passDays0 c k (μ 0 2)) ((m_daysGo μ k) 1) N := daysL k 0 c μ H rfl
