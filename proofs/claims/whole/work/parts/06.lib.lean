/-! rows: what an object holds, by its number and the number of the place -/
abbrev gM : Type := Nat → Nat → Int32
/-- the run's constants: class numbers and slots; array classes; the bound of what stood at the start; the texts' addresses -/
abbrev gG : Type := va_G × (Nat → ClassId) × Nat × (Nat → Nat) × (Nat → Nat)
def gl (n : Nat) (ad : Nat → Nat) (E : Nat → va_E) : va_W := (List.range n).map (fun k => (ad k, E k))
theorem gl_at {n : Nat} {ad : Nat → Nat} {E : Nat → va_E} {k : Nat} (hk : k < n) : (gl n ad E)[k]? = some (ad k, E k) := by simp [gl, hk]
theorem gl_in {n : Nat} {ad : Nat → Nat} {E : Nat → va_E} {k : Nat} {q : Nat × va_E} (h : (gl n ad E)[k]? = some q) : k < n ∧ q = (ad k, E k) := by
  have hk : k < n := by
    have h1 := (List.getElem?_eq_some_iff.mp h).1
    simpa [gl] using h1
  rw [gl_at hk] at h
  exact ⟨hk, (Option.some.inj h).symm⟩
theorem gl_set {n : Nat} {ad : Nat → Nat} {E : Nat → va_E} {k : Nat} (hk : k < n) (x : va_E) : (gl n ad E).set k (ad k, x) = gl n ad (va_up E k x) := by
  apply List.ext_getElem?
  intro i
  by_cases hi : i = k
  · subst hi
    rw [gl_at hk, va_up_self, List.getElem?_set_self (by simpa [gl] using hk)]
  · rw [List.getElem?_set_ne (Ne.symm hi)]
    by_cases hn : i < n
    · rw [gl_at hn, gl_at hn, va_up_ne _ _ hi]
    · rw [List.getElem?_eq_none (by simp [gl]; omega), List.getElem?_eq_none (by simp [gl]; omega)]
def gA (n : Nat) (ad : Nat → Nat) : Nat → Prop := fun q => ∃ k, k < n ∧ q = ad k
def gI (b0 n : Nat) (ad : Nat → Nat) : Prop := (∀ i j, i < n → j < n → ad i = ad j → i = j) ∧ ∀ k, k < n → b0 ≤ ad k
def gP (D : va_G) (n : Nat) (ad : Nat → Nat) (E : Nat → va_E) (H : Heap) : Prop := ∀ k, k < n → va_at D vwCl (ad k, E k) H
theorem gP.w {D : va_G} {n : Nat} {ad : Nat → Nat} {E : Nat → va_E} {H : Heap} (h : gP D n ad E H) : va_P D vwCl (gl n ad E) H := fun k q hk => by
  obtain ⟨h1, rfl⟩ := gl_in hk
  exact h k h1
theorem gP.of {D : va_G} {n : Nat} {ad : Nat → Nat} {E : Nat → va_E} {H : Heap} (h : va_P D vwCl (gl n ad E) H) : gP D n ad E H := fun k hk => h k _ (gl_at hk)
theorem gP.to {D : va_G} {n : Nat} {ad : Nat → Nat} {E E' : Nat → va_E} {H : Heap} (h : gP D n ad E H) (e : ∀ k, k < n → E k = E' k) : gP D n ad E' H := fun k hk => by rw [← e k hk]; exact h k hk
theorem gI.D {b0 n : Nat} {ad : Nat → Nat} (h : gI b0 n ad) (E : Nat → va_E) : va_D (gA n ad) (gl n ad E) := by
  refine ⟨fun i j p q hi hj he => ?_, fun k q hk => ?_⟩
  · obtain ⟨h1, rfl⟩ := gl_in hi
    obtain ⟨h2, rfl⟩ := gl_in hj
    exact h.1 i j h1 h2 he
  · obtain ⟨h1, rfl⟩ := gl_in hk
    exact ⟨k, h1, rfl⟩
theorem gI.sub {b0 n m : Nat} {ad : Nat → Nat} (h : gI b0 n ad) (o : Nat) (hm : o + m ≤ n) : gI b0 m (fun i => ad (o + i)) :=
  ⟨fun i j hi hj e => by have := h.1 (o + i) (o + j) (by omega) (by omega) e; omega, fun k hk => h.2 (o + k) (by omega)⟩
theorem gI.pick {b0 n m : Nat} {ad : Nat → Nat} (h : gI b0 n ad) (f : Nat → Nat) (hf : ∀ i, i < m → f i < n) (hj : ∀ i j, i < m → j < m → f i = f j → i = j) : gI b0 m (fun i => ad (f i)) :=
  ⟨fun i j hi hj' e => hj i j hi hj' (h.1 (f i) (f j) (hf i hi) (hf j hj') e), fun k hk => h.2 (f k) (hf k hk)⟩
theorem gA.b0 {b0 n : Nat} {ad : Nat → Nat} (h : gI b0 n ad) {q : Nat} (hq : gA n ad q) : b0 ≤ q := by
  obtain ⟨k, hk, rfl⟩ := hq
  exact h.2 k hk
theorem gS_b0 {b0 n : Nat} {ad : Nat → Nat} (h : gI b0 n ad) {H0 H : Heap} {locs : List Loc} (hS : va_S (gA n ad) H0 H locs) : va_S (fun q => b0 ≤ q) H0 H locs :=
  ⟨hS.1, fun q h1 h2 => hS.2.1 q h1 (fun z => h2 (gA.b0 h z)), fun l hl => gA.b0 h (hS.2.2 l hl)⟩
/-- rows under a shape -/
abbrev gE (e : Nat → (Nat → Int32) → va_E) (σ : gM) : Nat → va_E := fun k => e k (σ k)
/-- a part of the rows, and a part put back -/
def mget (σ : gM) (o : Nat) : gM := fun k => σ (o + k)
def mput (σ : gM) (o m : Nat) (τ : gM) : gM := fun k => if o ≤ k ∧ k < o + m then τ (k - o) else σ k
def mset (σ : gM) (k j : Nat) (x : Int32) : gM := va_up σ k (upd (σ k) j x)
theorem mset_at (σ : gM) (k j : Nat) (x : Int32) : mset σ k j x k = upd (σ k) j x := va_up_self _ _ _
theorem mset_ne (σ : gM) {k i : Nat} (j : Nat) (x : Int32) (h : i ≠ k) : mset σ k j x i = σ i := va_up_ne _ _ h
theorem mput_in (σ τ : gM) {o m i : Nat} (h : i < m) : mput σ o m τ (o + i) = τ i := by
  unfold mput
  rw [if_pos ⟨Nat.le_add_right _ _, by omega⟩]
  congr 1
  omega
theorem mput_out (σ τ : gM) {o m k : Nat} (h : k < o ∨ o + m ≤ k) : mput σ o m τ k = σ k := if_neg (by omega)
/-! statics and texts that nobody writes -/
def gTab (n : String) (N : Nat) (f : List Int32) (b0 : Nat) (U : State) : Prop := ∃ t : Nat, va_Z "LeftGloves$Glove" n "[I" (.ref t) (fun q => b0 ≤ q) U U.heap ∧ va_T .int t N (fun j => .int (f.getD j 0)) (fun q => b0 ≤ q) U U.heap
def tb_above : List Int32 := [-1, 0, 0, 2, 3, 0, 1]
def tb_stays : List Int32 := [7, 5, 14, 14, 0, 0, 5]
def tb_keeps : List Int32 := [6, 8, 3, 3, 3, 16, 10]
def tb_most : List Int32 := [6, 5, 9, 65535, 9999, 65535, 9999]
def tx_w : List String := ["glove", "kidskin", "mitten", "lady", "burnt", "stiff", "double", "in", "open", "knows", "lies", "said", "hand"]
def tx_i : List Nat := [94, 70, 72, 74, 76, 78, 80, 82, 84, 86, 88, 90, 92]
def tx_len : List Nat := [5, 7, 6, 4, 5, 5, 6, 2, 4, 5, 4, 4, 4]
def tx_b : List (List Int32) := [[103, 108, 111, 118, 101], [107, 105, 100, 115, 107, 105, 110], [109, 105, 116, 116, 101, 110], [108, 97, 100, 121], [98, 117, 114, 110, 116], [115, 116, 105, 102, 102], [100, 111, 117, 98, 108, 101], [105, 110], [111, 112, 101, 110], [107, 110, 111, 119, 115], [108, 105, 101, 115], [115, 97, 105, 100], [104, 97, 110, 100]]
def gNest : List Cond := [.methodLinkNest "LeftGloves$Club" 17 yX1_init "LeftGloves", .methodLinkNest "LeftGloves$Club" 22 yX6_sayingOf "LeftGloves", .methodLinkNest "LeftGloves$Club" 60 yX6_isIn "LeftGloves", .methodLinkNest "LeftGloves$Club" 89 yX6_roomOf "LeftGloves", .methodLinkNest "LeftGloves$Club" 92 yX6_topicOf "LeftGloves", .methodLinkNest "LeftGloves$Club" 49 yX6_isWithin "LeftGloves", .methodLinkNest "LeftGloves$Glove" 11 yX6_isWithin "LeftGloves", .methodLinkNest "LeftGloves$Club" 114 yX6_loudOf "LeftGloves", .methodLinkNest "LeftGloves$Tape" 19 yX6_isWithin "LeftGloves", .methodLinkNest "LeftGloves$Tokens" 51 yX6_isWithin "LeftGloves", .methodLinkNest "LeftGloves$TextReader" 63 yX6_sayingOf "LeftGloves", .methodLinkNest "LeftGloves$TextReader" 80 yX6_isWithin "LeftGloves", .methodLinkNest "LeftGloves$Sheet" 22 yX6_isWithin "LeftGloves"]
theorem gNest_is : ∀ w ∈ gNest, ∃ a i x h, w = .methodLinkNest a i x h := by
  intro w hw
  simp only [gNest, List.mem_cons, List.not_mem_nil, or_false] at hw
  rcases hw with h | h | h | h | h | h | h | h | h | h | h | h | h <;> exact ⟨_, _, _, _, h⟩
def gTys (cy : Nat → ClassId) : List (ClassId × FieldType) := [(cy 0, .int), (cy 1, .byte), (cy 2, .object "LeftGloves$Glove"), (cy 3, .object "LeftGloves$Sheet")]
def gSt (b0 : Nat) (aK aV : Nat → Nat) (U : State) : Prop := vk_S 13 tx_len tx_b aK aV (fun q => b0 ≤ q) U U.heap ∧ (∀ i, i < 13 → vk_R "LeftGloves$Tokens" (tx_i.getD i 0) (tx_w.getD i "") (aK i) U) ∧ va_Z "java/lang/String" "COMPACT_STRINGS" "Z" (.int 1) (fun q => b0 ≤ q) U U.heap ∧ va_Zq "jdk/internal/util/Preconditions" "SIOOBE_FORMATTER" "Ljava/util/function/BiFunction;" (fun q => b0 ≤ q) U U.heap
/-- what the machine's tables and the cells of the start say, at a state -/
def gX (G : gG) (U : State) : Prop := va_K G.1 vwCl (gTys G.2.1) U ∧ (∀ w ∈ gNest, va_Nw w U) ∧ (gTab "ABOVE" 7 tb_above G.2.2.1 U ∧ gTab "STAYS_BY_KIND" 7 tb_stays G.2.2.1 U ∧ gTab "KEEPS_BY_KIND" 7 tb_keeps G.2.2.1 U ∧ gTab "MOST" 7 tb_most G.2.2.1 U) ∧ gSt G.2.2.1 G.2.2.2.1 G.2.2.2.2 U
theorem gTab.go {n : String} {N : Nat} {f : List Int32} {b0 : Nat} {s U : State} (h : gTab n N f b0 s) (hv : s.vm.Alike U.vm) (hq : ∀ a : Nat, a < s.heap.size → ¬ b0 ≤ a → U.heap[a]? = s.heap[a]?) : gTab n N f b0 U := by
  obtain ⟨t, h1, h2⟩ := h
  exact ⟨t, (h1.kept hq).moved hv, (h2.kept hq).moved hv⟩
theorem gX.go {G : gG} {s U : State} (h : gX G s) (hW : s.WarmedH U.vm) (hq : ∀ a : Nat, a < s.heap.size → ¬ G.2.2.1 ≤ a → U.heap[a]? = s.heap[a]?) : gX G U := by
  obtain ⟨h1, h2, ⟨t1, t2, t3, t4⟩, s1, s2, s3, s4⟩ := h
  refine ⟨va_K.moved hW.alike h1, fun w hw => ?_, ⟨t1.go hW.alike hq, t2.go hW.alike hq, t3.go hW.alike hq, t4.go hW.alike hq⟩, (s1.kept hq).moved hW.alike, fun i hi => (s2 i hi).warm hW, (s3.kept hq).moved hW.alike, (s4.kept hq).moved hW.alike⟩
  obtain ⟨a, i, x, k, rfl⟩ := gNest_is w hw
  exact va_Nw.warmM hW (h2 _ hw)
