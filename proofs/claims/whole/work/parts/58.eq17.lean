/-! what a reader takes, in step -/
theorem RC_comes {c μ : gM} {N k r : Nat} (H : RC c (μ 1) N) (hN : N < 8) (hk : k ≤ 6) (hr : r ≤ 5) : (x_putDown0 c (nI k) (nI r)).1 = nI N ∧ (m_comes μ (nI k) (nI r)).1 = nI N ∧ RC (x_putDown0 c (nI k) (nI r)).2 ((m_comes μ (nI k) (nI r)).2 1) (N + 1) := by
  have h8 := H.n8
  obtain ⟨a1, a2, a3, a4⟩ := comes_1 h8 H.dN (nI k) (nI r)
  have hlt : (c 8 0 < 8) ↔ N < 8 := by
    rw [H.cN]; exact nI_ltI (a := N) (b := 8) (by omega) (by decide)
  unfold x_putDown0
  rw [if_pos (hlt.mpr hN), H.cN, nN_nI (by omega)]
  refine ⟨?_, a1, ?_⟩
  · show nI N + 1 - 1 = _
    rw [nI_1]; exact pk_sub (b := 1) (by omega)
  · show RC (mset (mput c N 1 (x_beNew1 (mget c N) (nI k) (nI r))) 8 0 (nI N + 1)) ((m_comes μ (nI k) (nI r)).2 1) (N + 1)
    have s8 : (mput c N 1 (x_beNew1 (mget c N) (nI k) (nI r))) 8 = c 8 := by rw [mput1, if_neg (by omega)]
    have m : ∀ j, (1 ≤ j ∧ j < 9 ∨ 65 ≤ j) → (m_comes μ (nI k) (nI r)).2 1 j = μ 1 j := fun j hj => a4 j (by omega) (fun w hw => by omega)
    refine ⟨by omega, ?_, ?_, ?_, ?_, ?_, fun j hj => ?_, fun g hg w hw => ?_, fun j hj => ?_⟩
    · rw [mset_at, upd_at, nI_1]
    · rw [a2, nI_1]
    · rw [mset_at, upd_ne _ _ (by decide), s8, m 1 (by omega)]; exact H.day.1
    · rw [m 1 (by omega)]; exact H.day.2
    · rw [mset_at, upd_ne _ _ (by decide), s8, m 2 (by omega)]; exact H.z
    · rw [mset_ne _ _ _ (by omega), mput1, if_neg (by omega), m (3 + j) (by omega)]; exact H.li hj
    · rw [mset_ne _ _ _ (by omega), mput1]
      by_cases eg : g = N
      · subst eg
        rw [if_pos rfl, a3 w hw, be_form]
        rcases (show w = 0 ∨ w = 1 ∨ w = 2 ∨ w = 3 ∨ w = 4 ∨ w = 5 ∨ w = 6 by omega) with rfl | rfl | rfl | rfl | rfl | rfl | rfl
        · exact ⟨rfl, k, hk, rfl⟩
        · exact ⟨rfl, r, hr, rfl⟩
        · exact ⟨rfl, 5, by decide, rfl⟩
        · exact ⟨rfl, 0, by decide, rfl⟩
        · exact ⟨rfl, 0, by decide, rfl⟩
        · exact ⟨rfl, 0, by decide, rfl⟩
        · exact ⟨rfl, 0, by decide, rfl⟩
      · rw [if_neg eg, a4 _ (by omega) (fun w' hw' => by omega)]
        exact H.gl (by omega) hw
    · rw [mset_ne _ _ _ (by omega), mput1, if_neg (by omega), m (65 + j) (by omega)]
      obtain ⟨b1, v, hv, b2⟩ := H.sp hj
      exact ⟨b1, v, by omega, b2⟩
def PR (b : Nat → Int32) (T L : Nat) (tk μ0 : gM) (j N : Nat) (ρ υ : gM) : Prop := (∃ k, j ≤ k ∧ PO b T L tk μ0 ρ υ k N) ∨ PW T L tk μ0 ρ υ
theorem PW.num {T L : Nat} {tk μ0 ρ υ : gM} (p : PW T L tk μ0 ρ υ) (most : Int32) : x_takeNumber4 ρ most = (0, mset ρ 12 1 1) := by
  unfold x_takeNumber4
  rw [if_neg p.flag]
theorem PO.club {b : Nat → Int32} {T L k N M : Nat} {tk μ0 ρ ρ' υ υ' : gM} (p : PO b T L tk μ0 ρ υ k N) (h : ∀ r, 12 ≤ r → ρ' r = ρ r) (hυ : ∀ r, r ≠ 1 → υ' r = υ r) (H : RC ρ' (υ' 1) M) : PO b T L tk μ0 ρ' υ' k M := by
  obtain ⟨p1, p2, p3, p4, p5, p6, p7, p11⟩ := p
  have h0 := hυ 0 (by decide)
  exact ⟨p1.up (fun r hr => h r (by omega)), ⟨fun r q0 q1 => (hυ r q1).trans (p2.1 r q0 q1), fun j hj => by rw [h0]; exact p2.2 j hj⟩, p3, by rw [h 12 (by decide)]; exact p4, by rw [h 12 (by decide)]; exact p5, by rw [h0]; exact p6, by rw [h0]; exact p7, H⟩
theorem PO.kpos {b : Nat → Int32} {T L k N : Nat} {tk μ0 ρ υ : gM} (p : PO b T L tk μ0 ρ υ k N) : ¬ 0 ≤ υ 0 6 := by
  rw [p.2.2.2.2.2.1]; decide
theorem PR.trait {b : Nat → Int32} {T L j N g w a : Nat} {tk μ0 ρ υ : gM} {W : Int64} (C : CX b T L tk μ0) (p : PR b T L tk μ0 j N ρ υ) (hg : g < N) (hN : N ≤ 8) (hw : w < 13) (ha : a ≤ 6) (hW : W.toInt = tx_W.getD w 0) : PR b T L tk μ0 j N (x_takeTrait4 ρ (nI w) g (nI a)) (m_perhaps υ W g a) := by
  unfold x_takeTrait4 m_perhaps
  rcases p with ⟨k, hk, p⟩ | p
  · have hwd := p.word C hw hW
    rw [if_neg p.kpos, p.takes C]
    by_cases c : tk 1 k = nI w
    · rw [if_pos c, if_neg (show ¬ (1 : Int32) = 0 by decide), if_neg (fun q => hwd.mp q c)]
      obtain ⟨w16, w17, -⟩ := w_lt w hw
      have pa := p.adv C (by rw [c]; exact w16) (by rw [c]; exact w17)
      unfold m_perhaps_m1 m_perhaps_m2
      dsimp only
      rw [mostOf_x ha, (most_v a ha).2]
      have hb := bnd_lt a
      rcases pa.num C (nI (bnd a)) (by rw [nI_toInt (by omega)]; omega) with ⟨n, e1, e2, e3, e4⟩ | e4
      · rw [nI_toInt (by omega)] at e3
        rw [e1, e2, if_neg e4.kpos]
        have H := e4.2.2.2.2.2.2.2
        refine Or.inl ⟨k + 1 + 1, by omega, e4.club (fun r hr => mput_out _ _ (by omega)) (fun r hr => sets_row hr) ?_⟩
        refine H.glove hg (fun r hr => by rw [mput1, if_neg hr]) (fun j hj => sets_ne (by omega)) ?_ (fun g' hg' hne => (H.gr hg').other (by omega) (by omega) hne)
        rw [mput1, if_pos rfl, setTrait_form _ ha]
        exact (H.gr hg).set (by omega) ⟨n, by omega, rfl⟩
      · rw [if_pos (e4.pos C.1)]
        exact Or.inr (e4.rows (fun r hr => mput_out _ _ (by omega)))
    · rw [if_neg c, if_pos rfl, if_pos (hwd.mpr c)]
      exact Or.inl ⟨k, hk, p⟩
  · rw [p.takes, if_pos rfl, if_pos (p.pos C.1)]
    exact Or.inr p
theorem PO.said {b : Nat → Int32} {T L k N : Nat} {tk μ0 ρ υ : gM} (C : CX b T L tk μ0) (p : PO b T L tk μ0 ρ (m_next υ) k N) : PR b T L tk μ0 k N (x_takeSaying4 ρ) (m_saidHere υ) := by
  unfold x_takeSaying4 m_saidHere x_takeSaying4_m1 x_takeSaying4_m2 x_takeSaying4_m3 x_takeSaying4_m4 m_saidHere_m1 m_saidHere_m2
  rcases p.num C 5 (by decide) with ⟨n1, a1, b1, c1, d1⟩ | d1
  · rw [if_neg d1.kpos]
    unfold m_saidHere_m3
    rcases d1.num C 5 (by decide) with ⟨n2, a2, b2, c2, d2⟩ | d2
    · rw [if_neg d2.kpos]
      unfold m_saidHere_m4
      rcases d2.num C 15 (by decide) with ⟨n3, a3, b3, c3, d3⟩ | d3
      · rw [if_neg d3.kpos]
        unfold m_saidHere_m5
        rcases d3.num C 9 (by decide) with ⟨n4, a4, b4, c4, d4⟩ | d4
        · rw [if_neg d4.kpos, if_pos d4.2.2.2.2.1]
          have h1 : n1 < 6 := by rw [show (5 : Int32).toInt = 5 from rfl] at c1; omega
          have h2 : n2 < 6 := by rw [show (5 : Int32).toInt = 5 from rfl] at c2; omega
          have h3 : n3 < 16 := by rw [show (15 : Int32).toInt = 15 from rfl] at c3; omega
          have h4 : n4 < 10 := by rw [show (9 : Int32).toInt = 9 from rfl] at c4; omega
          rw [a1, a2, a3, a4, b1, b2, b3, b4, nN_nI (by omega)]
          refine Or.inl ⟨k + 1 + 1 + 1 + 1, by omega, d4.club (fun r hr => mset_ne _ _ _ (by omega)) (fun r hr => mset_ne _ _ _ hr) (RC_say d4.2.2.2.2.2.2.2 h1 ⟨n2, n3, n4, h2, h3, h4, ?_⟩)⟩
          unfold x_sayingOf
          rw [show (1000 : Int32) = nI 1000 from rfl, show (10 : Int32) = nI 10 from rfl, pk_mul, pk_mul, nI_add, nI_add]
        · rw [if_pos (d4.pos C.1), if_neg d4.flag]
          exact Or.inr d4
      · rw [if_pos (d3.pos C.1), d3.num]
        have d4 := d3.again
        rw [if_neg d4.flag]
        exact Or.inr d4
    · rw [if_pos (d2.pos C.1), d2.num]
      have d3 := d2.again
      rw [d3.num]
      have d4 := d3.again
      rw [if_neg d4.flag]
      exact Or.inr d4
  · rw [if_pos (d1.pos C.1), d1.num]
    have d2 := d1.again
    rw [d2.num]
    have d3 := d2.again
    rw [d3.num]
    have d4 := d3.again
    rw [if_neg d4.flag]
    exact Or.inr d4
theorem PO.hand {b : Nat → Int32} {T L k N : Nat} {tk μ0 ρ υ : gM} (C : CX b T L tk μ0) (p : PO b T L tk μ0 ρ (m_next υ) k N) : PR b T L tk μ0 k N (x_takeHand4 ρ) (m_handHere υ) := by
  have H0 := p.2.2.2.2.2.2.2
  have h8 := H0.n8
  unfold x_takeHand4 m_handHere x_takeHand4_m1 x_takeHand4_m2 m_handHere_m1 m_handHere_m2
  rw [H0.cN, H0.dN]
  rcases p.num C (nI N - 1) (by rw [N_1 h8]; omega) with ⟨n1, a1, b1, c1, d1⟩ | d1
  · rw [if_neg d1.kpos]
    rw [N_1 h8] at c1
    unfold m_handHere_m3
    rcases d1.num C 65535 (by decide) with ⟨n2, a2, b2, c2, d2⟩ | d2
    · rw [if_neg d2.kpos, if_pos d2.2.2.2.2.1]
      rw [show (65535 : Int32).toInt = 65535 from rfl] at c2
      have H := d2.2.2.2.2.2.2.2
      rw [a1, a2, b1, b2, nN_nI (by omega)]
      refine Or.inl ⟨k + 1 + 1, by omega, d2.club (fun r hr => mset_ne _ _ _ (by omega)) (fun r hr => sets_row hr) ?_⟩
      refine H.glove (g := n1) (by omega) (fun r hr => mset_ne _ _ _ hr) (fun j hj => sets_ne (by omega)) ?_ (fun g' hg' hne => (H.gr hg').other (by omega) (by omega) hne)
      rw [mset_at]
      exact (H.gr (by omega)).set (by decide) ⟨n2, by show n2 ≤ 65535; omega, rfl⟩
    · rw [if_pos (d2.pos C.1), if_neg d2.flag]
      exact Or.inr d2
  · rw [if_pos (d1.pos C.1), d1.num]
    have d2 := d1.again
    rw [if_neg d2.flag]
    exact Or.inr d2
theorem PO.glove {b : Nat → Int32} {T L k N kd : Nat} {tk μ0 ρ υ : gM} (C : CX b T L tk μ0) (p : PO b T L tk μ0 ρ υ k N) (hkd : kd ≤ 6) (hs : tk 1 k = nI kd) : (∃ M, PR b T L tk μ0 (k + 1) M (x_takeGlove4 ρ) (m_gloveHere υ (nI kd))) := by
  have H := p.2.2.2.2.2.2.2
  have h8 := H.n8
  have hs2 : x_sortAt5 (mget ρ 13) (ρ 12 0) = nI kd := by rw [p.2.2.2.1, (at_is C p.1 p.2.2.1).1]; exact hs
  have hlt : (ρ 8 0 < 8) ↔ N < 8 := by
    rw [H.cN]; exact nI_ltI (a := N) (b := 8) (by omega) (by decide)
  have heq : (υ 1 0 = 8) ↔ N = 8 := by
    rw [H.dN]; exact nI_eq (b := 8) (by omega) (by decide)
  unfold x_takeGlove4 m_gloveHere
  rw [hs2, if_neg (win_iff.mpr ⟨by rw [nI_toInt (by omega)]; omega, by rw [nI_toInt (by omega), show (6 : Int32).toInt = 6 from rfl]; omega⟩)]
  by_cases c : N < 8
  · rw [if_pos (hlt.mpr c), if_neg (fun q => by have := heq.mp q; omega)]
    obtain ⟨w16, w17, -⟩ := w_lt kd (by omega)
    have pa := p.adv C (by rw [hs]; exact w16) (by rw [hs]; exact w17)
    have Ha := pa.2.2.2.2.2.2.2
    have Ha0 : RC (mget (mset ρ 12 0 (ρ 12 0 + 1)) 0) ((m_next υ) 1) N := by rw [mg0]; exact Ha
    obtain ⟨e1, e2, e3⟩ := RC_comes (r := 0) Ha0 c hkd (by decide)
    have e1' : (x_putDown0 (mget (mset ρ 12 0 (ρ 12 0 + 1)) 0) (nI kd) 0).1 = nI N := e1
    have e2' : (m_comes (m_next υ) (nI kd) 0).1 = nI N := e2
    have e3' : RC (x_putDown0 (mget (mset ρ 12 0 (ρ 12 0 + 1)) 0) (nI kd) 0).2 ((m_comes (m_next υ) (nI kd) 0).2 1) (N + 1) := e3
    unfold x_takeGlove4_m1 x_takeGlove4_m2 x_takeGlove4_m3 x_takeGlove4_m4 m_gloveHere_m1 m_gloveHere_m2 m_gloveHere_m3 m_gloveHere_m4 m_gloveHere_m5
    rw [e1', e2', nN_nI (by omega)]
    have p0 : PR b T L tk μ0 (k + 1) (N + 1) (mput (mset ρ 12 0 (ρ 12 0 + 1)) 0 12 (x_putDown0 (mget (mset ρ 12 0 (ρ 12 0 + 1)) 0) (nI kd) 0).2) (m_comes (m_next υ) (nI kd) 0).2 := by
      refine Or.inl ⟨k + 1, Nat.le_refl _, pa.club (fun r hr => mput_out _ _ (by omega)) (fun r hr => cm_row _ _ _ hr) ?_⟩
      exact RC_cong (fun j hj => (mp0 j hj).symm) (fun _ _ => rfl) e3'
    have p1 := p0.trait C (g := N) (w := 7) (a := 1) (W := 257) (by omega) (by omega) (by decide) (by decide) rfl
    have p2 := p1.trait C (g := N) (w := 8) (a := 2) (W := 307058) (by omega) (by omega) (by decide) (by decide) rfl
    have p3 := p2.trait C (g := N) (w := 9) (a := 3) (W := 6132988) (by omega) (by omega) (by decide) (by decide) rfl
    have p4 := p3.trait C (g := N) (w := 10) (a := 4) (W := 242911) (by omega) (by omega) (by decide) (by decide) rfl
    exact ⟨N + 1, p4⟩
  · rw [if_neg (fun q => c (hlt.mp q)), if_pos (heq.mpr (by omega))]
    exact ⟨N, Or.inr (p.wrong C)⟩
theorem PO.kind {b : Nat → Int32} {T L k N : Nat} {tk μ0 ρ υ : gM} (C : CX b T L tk μ0) (p : PO b T L tk μ0 ρ υ k N) : (∃ kd, kd ≤ 6 ∧ tk 1 k = nI kd ∧ m_kindHere υ = nI kd) ∨ ((∀ kd, kd ≤ 6 → ¬ tk 1 k = nI kd) ∧ m_kindHere υ = -1) := by
  have w0 := p.word C (w := 0) (W := 3967817) (by decide) rfl
  have w1 := p.word C (w := 1) (W := 4393273559) (by decide) rfl
  have w2 := p.word C (w := 2) (W := 191727149) (by decide) rfl
  have w3 := p.word C (w := 3) (W := 237058) (by decide) rfl
  have w4 := p.word C (w := 4) (W := 1489745) (by decide) rfl
  have w5 := p.word C (w := 5) (W := 10497768) (by decide) rfl
  have w6 := p.word C (w := 6) (W := 65782373) (by decide) rfl
  unfold m_kindHere
  by_cases c0 : tk 1 k = nI 0
  · rw [if_neg (fun q => w0.mp q c0)]; exact Or.inl ⟨0, by decide, c0, rfl⟩
  rw [if_pos (w0.mpr c0)]
  by_cases c1 : tk 1 k = nI 1
  · rw [if_neg (fun q => w1.mp q c1)]; exact Or.inl ⟨1, by decide, c1, rfl⟩
  rw [if_pos (w1.mpr c1)]
  by_cases c2 : tk 1 k = nI 2
  · rw [if_neg (fun q => w2.mp q c2)]; exact Or.inl ⟨2, by decide, c2, rfl⟩
  rw [if_pos (w2.mpr c2)]
  by_cases c3 : tk 1 k = nI 3
  · rw [if_neg (fun q => w3.mp q c3)]; exact Or.inl ⟨3, by decide, c3, rfl⟩
  rw [if_pos (w3.mpr c3)]
  by_cases c4 : tk 1 k = nI 4
  · rw [if_neg (fun q => w4.mp q c4)]; exact Or.inl ⟨4, by decide, c4, rfl⟩
  rw [if_pos (w4.mpr c4)]
  by_cases c5 : tk 1 k = nI 5
  · rw [if_neg (fun q => w5.mp q c5)]; exact Or.inl ⟨5, by decide, c5, rfl⟩
  rw [if_pos (w5.mpr c5)]
  by_cases c6 : tk 1 k = nI 6
  · rw [if_neg (fun q => w6.mp q c6)]; exact Or.inl ⟨6, by decide, c6, rfl⟩
  rw [if_pos (w6.mpr c6)]
  refine Or.inr ⟨fun kd hkd => ?_, rfl⟩
  rcases (show kd = 0 ∨ kd = 1 ∨ kd = 2 ∨ kd = 3 ∨ kd = 4 ∨ kd = 5 ∨ kd = 6 by omega) with rfl | rfl | rfl | rfl | rfl | rfl | rfl
  · exact c0
  · exact c1
  · exact c2
  · exact c3
  · exact c4
  · exact c5
  · exact c6
/-- an item, in step -/
theorem PO.item {b : Nat → Int32} {T L k N : Nat} {tk μ0 ρ υ : gM} (C : CX b T L tk μ0) (p : PO b T L tk μ0 ρ υ k N) : ∃ M, PR b T L tk μ0 (k + 1) M (x_takeItem4 ρ) (m_item υ) := by
  have v11 := p.word C (w := 11) (W := 374953) (by decide) rfl
  have v12 := p.word C (w := 12) (W := 158575) (by decide) rfl
  have hk := p.kind C
  unfold x_takeItem4 m_item
  rw [p.takes C]
  by_cases c11 : tk 1 k = 11
  · rw [if_pos c11, if_neg (show ¬ (1 : Int32) = 0 by decide)]
    have pa := p.adv C (by rw [c11]; decide) (by rw [c11]; decide)
    have hk' : m_kindHere υ = -1 := by
      rcases hk with ⟨kd, h1, h2, -⟩ | ⟨-, h⟩
      · exact absurd ((nI_eq (a := 11) (by decide) (by omega)).mp (c11.symm.trans h2)) (by omega)
      · exact h
    rw [hk', if_pos (by decide), if_neg (fun q => v11.mp q c11)]
    exact ⟨N, pa.said C⟩
  · rw [if_neg c11, if_pos rfl]
    dsimp only
    rw [p.takes C]
    by_cases c12 : tk 1 k = 12
    · rw [if_pos c12, if_neg (show ¬ (1 : Int32) = 0 by decide)]
      have pa := p.adv C (by rw [c12]; decide) (by rw [c12]; decide)
      have hk' : m_kindHere υ = -1 := by
        rcases hk with ⟨kd, h1, h2, -⟩ | ⟨-, h⟩
        · exact absurd ((nI_eq (a := 12) (by decide) (by omega)).mp (c12.symm.trans h2)) (by omega)
        · exact h
      rw [hk', if_pos (by decide), if_pos (v11.mpr c11), if_neg (fun q => v12.mp q c12)]
      exact ⟨N, pa.hand C⟩
    · rw [if_neg c12, if_pos rfl]
      rcases hk with ⟨kd, h1, h2, h3⟩ | ⟨h1, h2⟩
      · rw [h3, if_neg (nI_pos (by omega))]
        exact p.glove C h1 h2
      · rw [h2, if_pos (by decide), if_pos (v11.mpr c11), if_pos (v12.mpr c12)]
        refine ⟨N, Or.inr ?_⟩
        unfold x_takeGlove4
        have e : x_isWithin (x_sortAt5 (mget ρ 13) (ρ 12 0)) 6 = 0 := Classical.byContradiction (fun q => by
          rw [p.2.2.2.1, (at_is C p.1 p.2.2.1).1] at q
          obtain ⟨kd, hkd, e⟩ := wn (M := 6) (by decide) q
          exact h1 kd hkd e)
        dsimp only
        rw [if_pos e]
        exact p.wrong C
