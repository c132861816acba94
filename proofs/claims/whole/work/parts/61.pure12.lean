/-! PURE LEVEL 11: what lies beside; held; near; what is seen -/
abbrev adjW (w p q : Nat) : Prop := (w = 0 ∧ q / 8 + 1 = p / 8 ∧ q % 8 = p % 8) ∨ (w = 1 ∧ q / 8 = p / 8 ∧ q % 8 = p % 8 + 1) ∨ (w = 2 ∧ q / 8 = p / 8 + 1 ∧ q % 8 = p % 8) ∨ (w = 3 ∧ q / 8 = p / 8 ∧ q % 8 + 1 = p % 8)
abbrev adj (p q : Nat) : Prop := adjW 0 p q ∨ adjW 1 p q ∨ adjW 2 p q ∨ adjW 3 p q
theorem adj_tab : ∀ a b c d : Fin 8, (((nI a.1 - nI b.1) * (nI a.1 - nI b.1) + (nI c.1 - nI d.1) * (nI c.1 - nI d.1) = 1) ↔ (adj (8 * a.1 + c.1) (8 * b.1 + d.1))) := by decide +kernel
theorem ip_beside1 {Q : Int32 → Prop} {g : GU} (W : Wf g) {s t : Nat} (hs : s < g.size) (ht : t < g.size) (h : Q (bI (adj (g.pl s) (g.pl t)))) : wX1_beside Q (nI s) (nI t) g.place := by
  have h8 := W.s8
  have vs := vp_in_nI (show s < 8 by omega) (by omega)
  have vt := vp_in_nI (show t < 8 by omega) (by omega)
  obtain ⟨es, hs6, -⟩ := W.place s hs
  obtain ⟨et, ht6, -⟩ := W.place t ht
  unfold wX1_beside
  rw [nI_clamp (by omega), nI_clamp (by omega), es, et]
  rw [show nI (g.pl s) - nI (g.pl s) / 8 * 8 = nI (g.pl s % 8) from pk_rem (d := 8) (by omega) (by omega) (by omega), show nI (g.pl t) - nI (g.pl t) / 8 * 8 = nI (g.pl t % 8) from pk_rem (d := 8) (by omega) (by omega) (by omega), show nI (g.pl s) / 8 = nI (g.pl s / 8) from pk_div (d := 8) (by omega) (by omega) (by omega), show nI (g.pl t) / 8 = nI (g.pl t / 8) from pk_div (d := 8) (by omega) (by omega) (by omega)]
  have tab := adj_tab ⟨g.pl s / 8, by omega⟩ ⟨g.pl t / 8, by omega⟩ ⟨g.pl s % 8, by omega⟩ ⟨g.pl t % 8, by omega⟩
  simp only at tab
  rw [show 8 * (g.pl s / 8) + g.pl s % 8 = g.pl s by omega, show 8 * (g.pl t / 8) + g.pl t % 8 = g.pl t by omega] at tab
  refine ⟨vs, vt, vs, vt, ip_split' (fun c => ?_) (fun c => ?_)⟩
  · rw [bI_T (tab.mp c)] at h; exact h
  · rw [bI_F (fun q => c (tab.mpr q))] at h; exact h
def GU.brk (g : GU) (s : Nat) : Int32 := firstP (fun t => g.fuel t ≠ -1 ∧ adj (g.pl s) (g.pl t)) g.size 0
theorem brk_none {g : GU} (W : Wf g) {s : Nat} : g.brk s = -1 ↔ ∀ t, t < g.size → g.fuel t ≠ -1 → ¬ adj (g.pl s) (g.pl t) := by
  have h8 := W.s8
  rcases firstP_cases (fun t => g.fuel t ≠ -1 ∧ adj (g.pl s) (g.pl t)) g.size 0 with ⟨h1, h2⟩ | ⟨j, h1, h2, h3, h4, h5⟩
  · exact ⟨fun _ t ht hf ha => h2 t (by omega) (by omega) ⟨hf, ha⟩, fun _ => h1⟩
  · refine ⟨fun e => absurd e (by unfold GU.brk; rw [h4]; exact nI_ne_m1 (by omega)), fun q => absurd h3.2 (q j (by omega) h3.1)⟩
theorem ip_breaker_loop {Q : Int32 → Prop} {g : GU} (W : Wf g) {s : Nat} (hs : s < g.size) : ∀ (m i : Nat), i + m = g.size → Q (bI (firstP (fun t => g.fuel t ≠ -1 ∧ adj (g.pl s) (g.pl t)) m i ≠ -1)) → wX1_breakerBeside_2 Q (m + 1) (nI s) (nI i) (nI g.size) g.fuel g.place := by
  have h8 := W.s8
  intro m
  induction m with
  | zero =>
    intro i hi h
    have e : i = g.size := by omega
    subst e
    exact ip_T (nI_le (Nat.le_refl _) (by omega)) h
  | succ m ih =>
    intro i hi h
    have nxt : ¬ (g.fuel i ≠ -1 ∧ adj (g.pl s) (g.pl i)) → wX1_breakerBeside_29 Q (wX1_breakerBeside_2 Q (m + 1)) (nI s) (nI i) (nI g.size) g.fuel g.place := by
      intro c
      unfold wX1_breakerBeside_29
      rw [nI_1]
      refine ih (i + 1) (by omega) ?_
      rw [firstP, if_neg c] at h
      exact h
    refine ip_F (nI_ge (by omega) (by omega)) ⟨vp_in_nI (by omega) (by omega), ?_⟩
    rw [nI_clamp (by omega)]
    refine ip_split (fun c => ip_T rfl (nxt (fun q => q.1 c))) (fun c => ip_F (by decide) (ip_beside1 W hs (by omega) ?_))
    by_cases a : adj (g.pl s) (g.pl i)
    · rw [bI_T a]
      rw [firstP, if_pos ⟨c, a⟩, bI_T (nI_nm1 (by omega))] at h
      exact ip_F (by decide) h
    · rw [bI_F a]
      exact ip_T rfl (nxt (fun q => a q.2))
abbrev GU.held (g : GU) (s : Nat) : Prop := ¬ g.bur (g.pl s) ≤ g.str s ∧ g.brk s = -1
theorem ip_held {Q : Int32 → Prop} {g : GU} (W : Wf g) {s : Nat} (hs : s < g.size) (h : Q (bI (g.held s))) : wX2_held Q (nI s) (nI g.size) g.fuel g.place g.str g.chan g.level g.ridged := by
  have h8 := W.s8
  have vs := vp_in_nI (show s < 8 by omega) (by omega)
  obtain ⟨es, hs6, -⟩ := W.place s hs
  unfold wX2_held
  rw [nI_clamp (by omega), es]
  refine ⟨vs, p_burden hs6 ⟨vs, ip_split (fun c => ?_) (fun c => ⟨g.size + 1, ip_breaker_loop W hs g.size 0 (by omega) ?_⟩)⟩⟩
  · rw [bI_F (fun q => q.1 c)] at h; exact h
  · by_cases b : g.brk s = -1
    · rw [bI_F (fun q => q b)]
      rw [bI_T ⟨c, b⟩] at h
      exact ip_T' rfl h
    · rw [bI_T (show firstP (fun t => g.fuel t ≠ -1 ∧ adj (g.pl s) (g.pl t)) g.size 0 ≠ -1 from b)]
      rw [bI_F (fun q => b q.2)] at h
      exact ip_F' (by decide) h
def drI (w : Nat) : Int32 := if w = 0 then -1 else if w = 2 then 1 else 0
def dcI (w : Nat) : Int32 := if w = 1 then 1 else if w = 3 then -1 else 0
theorem ip_rowTo {Q : Int32 → Prop} {w : Nat} (hw : w < 4) (h : Q (drI w)) : wX11_rowTo Q (nI w) := by
  have : w = 0 ∨ w = 1 ∨ w = 2 ∨ w = 3 := by omega
  unfold wX11_rowTo
  rcases this with e | e | e | e <;> subst e
  · exact ip_T' (by decide) h
  · exact ip_F' (by decide) (ip_F' (by decide) h)
  · exact ip_F' (by decide) (ip_T' (by decide) h)
  · exact ip_F' (by decide) (ip_F' (by decide) h)
theorem ip_columnTo {Q : Int32 → Prop} {w : Nat} (hw : w < 4) (h : Q (dcI w)) : wX11_columnTo Q (nI w) := by
  have : w = 0 ∨ w = 1 ∨ w = 2 ∨ w = 3 := by omega
  unfold wX11_columnTo
  rcases this with e | e | e | e <;> subst e
  · exact ip_F' (by decide) (ip_F' (by decide) h)
  · exact ip_T' (by decide) h
  · exact ip_F' (by decide) (ip_F' (by decide) h)
  · exact ip_F' (by decide) (ip_T' (by decide) h)
theorem nI_eqm {x a : Nat} (hx : x < 2 ^ 30) (ha : a < 2 ^ 30) : nI x = nI a + -1 ↔ x + 1 = a := by
  constructor
  · intro e
    have : nI x + 1 = nI a := by rw [e, Int32.add_assoc]; show nI a + 0 = nI a; rw [Int32.add_zero]
    rw [nI_1, nI_eq (by omega) (by omega)] at this
    exact this
  · intro e
    subst e
    exact (pk_m1 x).symm
theorem nI_eqp {x a : Nat} (hx : x < 2 ^ 30) (ha : a < 2 ^ 30) : nI x = nI a + 1 ↔ x = a + 1 := by
  rw [nI_1, nI_eq (by omega) (by omega)]
theorem nI_eq0 {x a : Nat} (hx : x < 2 ^ 30) (ha : a < 2 ^ 30) : nI x = nI a + 0 ↔ x = a := by
  rw [Int32.add_zero, nI_eq (by omega) (by omega)]
theorem adjW_I {w p q : Nat} (hw : w < 4) (hp : p < 64) (hq : q < 64) : (nI (q / 8) = nI (p / 8) + drI w ∧ nI (q % 8) = nI (p % 8) + dcI w) ↔ adjW w p q := by
  have : w = 0 ∨ w = 1 ∨ w = 2 ∨ w = 3 := by omega
  unfold adjW
  rcases this with e | e | e | e <;> subst e
  · show (nI (q / 8) = nI (p / 8) + -1 ∧ nI (q % 8) = nI (p % 8) + 0) ↔ _
    rw [nI_eqm (by omega) (by omega), nI_eq0 (by omega) (by omega)]; omega
  · show (nI (q / 8) = nI (p / 8) + 0 ∧ nI (q % 8) = nI (p % 8) + 1) ↔ _
    rw [nI_eq0 (by omega) (by omega), nI_eqp (by omega) (by omega)]; omega
  · show (nI (q / 8) = nI (p / 8) + 1 ∧ nI (q % 8) = nI (p % 8) + 0) ↔ _
    rw [nI_eqp (by omega) (by omega), nI_eq0 (by omega) (by omega)]; omega
  · show (nI (q / 8) = nI (p / 8) + 0 ∧ nI (q % 8) = nI (p % 8) + -1) ↔ _
    rw [nI_eq0 (by omega) (by omega), nI_eqm (by omega) (by omega)]; omega
theorem shipAt_adj {g : GU} (W : Wf g) {p w : Nat} (hw : w < 4) (hp : p < 64) : g.shipAt (nI (p / 8) + drI w) (nI (p % 8) + dcI w) = firstP (fun t => adjW w p (g.pl t)) g.size 0 :=
  firstP_congr _ _ (fun s _ hs => adjW_I hw hp (W.place s (by omega)).2.1)
theorem ip_beside {Q : Int32 → Prop} {om : Nat → Option OR} {all : Nat → Int32} {g : GU} (W : Wf g) (R : Rg om all g) {s w : Nat} (hs : s < g.size) (hw : w < 4) (h : Q (firstP (fun t => adjW w (g.pl s) (g.pl t)) g.size 0)) : wX11_beside Q (nI s) (nI w) all := by
  have h8 := W.s8
  unfold wX11_beside
  refine ip_its s 2 (by omega) (by omega) (ip_rowTo hw (ip_its s 3 (by omega) (by omega) (ip_columnTo hw (ip_shipAt W R ?_))))
  rw [R.prow s hs, R.pcol s hs, shipAt_adj W hw (W.place s hs).2.1]
  exact h
theorem ip_isHeld_loop {Q : Int32 → Prop} {om : Nat → Option OR} {all : Nat → Int32} {g : GU} (W : Wf g) (R : Rg om all g) {s : Nat} (hs : s < g.size) : ∀ (m i : Nat), i + m = 4 → ∀ f : Int32, (f = 0 ∨ f = 1) → (f = 1 → (∀ w t, i ≤ w → w < 4 → t < g.size → g.fuel t ≠ -1 → ¬ adjW w (g.pl s) (g.pl t)) → Q 1) → ((f = 0 ∨ ∃ w t, i ≤ w ∧ w < 4 ∧ t < g.size ∧ g.fuel t ≠ -1 ∧ adjW w (g.pl s) (g.pl t)) → Q 0) → wX11_isHeld_33 Q (m + 1) (nI s) f (nI i) all := by
  have h8 := W.s8
  intro m
  induction m with
  | zero =>
    intro i hi f hf h1 h0
    have e : i = 4 := by omega
    subst e
    refine ip_T (by decide) ⟨ip_nar hf, ?_⟩
    rcases hf with e | e
    · subst e; exact h0 (Or.inl rfl)
    · subst e; exact h1 rfl (fun w t a b => absurd b (by omega))
  | succ m ih =>
    intro i hi f hf h1 h0
    refine ip_F (nI_ge (a := i) (b := 4) (by omega) (by omega)) (ip_beside W R hs (by omega) ?_)
    have nxt : (∀ t, t < g.size → g.fuel t ≠ -1 → ¬ adjW i (g.pl s) (g.pl t)) → wX11_isHeld_64 Q (wX11_isHeld_33 Q (m + 1)) (nI s) f (nI i) all := by
      intro hn
      unfold wX11_isHeld_64
      rw [nI_1]
      refine ih (i + 1) (by omega) f hf (fun e q => h1 e (fun w t a b c d => ?_)) (fun q => h0 ?_)
      · by_cases x : w = i
        · subst x; exact hn t c d
        · exact q w t (by omega) b c d
      · rcases q with q | ⟨w, t, a, b, c, d, e⟩
        · exact Or.inl q
        · exact Or.inr ⟨w, t, by omega, b, c, d, e⟩
    rcases firstP_cases (fun t => adjW i (g.pl s) (g.pl t)) g.size 0 with ⟨e1, e2⟩ | ⟨j, e1, e2, e3, e4, e5⟩
    · rw [e1]
      exact ip_T (by decide) (nxt (fun t ht _ => e2 t (by omega) (by omega)))
    · rw [e4]
      refine ip_F (nI_pos (by omega)) (ip_its j 1 (by omega) (by omega) ?_)
      rw [R.fuel j (by omega)]
      refine ip_split (fun c => nxt (fun t ht hf ha => ?_)) (fun c => ?_)
      · have : t = j := W.dist t j ht (by omega) (by
          have h1 := (W.place t ht).2.1
          have h2 := (W.place j (by omega)).2.1
          unfold adjW at e3 ha
          omega)
        subst this
        exact hf c
      · unfold wX11_isHeld_64
        rw [nI_1]
        exact ih (i + 1) (by omega) 0 (Or.inl rfl) (fun e => absurd e (by decide)) (fun _ => h0 (Or.inr ⟨i, j, by omega, by omega, by omega, c, e3⟩))
theorem ip_isHeld {Q : Int32 → Prop} {om : Nat → Option OR} {all : Nat → Int32} {g : GU} (W : Wf g) (R : Rg om all g) {s : Nat} (hs : s < g.size) (h : Q (bI (g.held s))) : wX11_isHeld Q (nI s) all := by
  have h8 := W.s8
  have h6 := (W.place s hs).2.1
  unfold wX11_isHeld
  refine ip_its s 2 (by omega) (by omega) (ip_its s 3 (by omega) (by omega) ?_)
  rw [R.prow s hs, R.pcol s hs]
  refine ip_burden W R (by omega) (by omega) (ip_its s 0 (by omega) (by omega) ?_)
  rw [Nat.add_zero, R.str s hs, show 8 * (g.pl s / 8) + g.pl s % 8 = g.pl s by omega]
  have go : ∀ f : Int32, (f = 0 ∨ f = 1) → (f = 1 ↔ ¬ g.bur (g.pl s) ≤ g.str s) → wX11_isHeld_30 Q (nI s) f all := by
    intro f hf e
    refine ⟨5, ip_isHeld_loop W R hs 4 0 (by omega) f hf (fun f1 q => ?_) (fun q => ?_)⟩
    · have : g.held s := ⟨e.mp f1, (brk_none W).mpr (fun t ht hf ha => by
        rcases ha with ha | ha | ha | ha
        · exact q 0 t (by omega) (by omega) ht hf ha
        · exact q 1 t (by omega) (by omega) ht hf ha
        · exact q 2 t (by omega) (by omega) ht hf ha
        · exact q 3 t (by omega) (by omega) ht hf ha)⟩
      rw [bI_T this] at h; exact h
    · have : ¬ g.held s := fun hh => by
        rcases q with q | ⟨w, t, a, b, c, d, ha⟩
        · have := e.mpr hh.1
          rw [q] at this; exact absurd this (by decide)
        · refine (brk_none W).mp hh.2 t c d ?_
          have : w = 0 ∨ w = 1 ∨ w = 2 ∨ w = 3 := by omega
          rcases this with x | x | x | x <;> subst x
          · exact Or.inl ha
          · exact Or.inr (Or.inl ha)
          · exact Or.inr (Or.inr (Or.inl ha))
          · exact Or.inr (Or.inr (Or.inr ha))
      rw [bI_F this] at h; exact h
  refine ip_split (fun c => go 0 (Or.inl rfl) ⟨fun q => absurd q (by decide), fun q => absurd c q⟩) (fun c => go 1 (Or.inr rfl) ⟨fun _ => c, fun _ => rfl⟩)
/-- how many of the first n have a property -/
def cntP (p : Nat → Prop) [DecidablePred p] : Nat → Nat
  | 0 => 0
  | n + 1 => cntP p n + if p n then 1 else 0
theorem cntP_or {p q r : Nat → Prop} [DecidablePred p] [DecidablePred q] [DecidablePred r] : ∀ n, (∀ i, i < n → (r i ↔ p i ∨ q i)) → (∀ i, i < n → ¬ (p i ∧ q i)) → cntP r n = cntP p n + cntP q n := by
  intro n
  induction n with
  | zero => intro _ _; rfl
  | succ n ih =>
    intro h1 h2
    unfold cntP
    rw [ih (fun i hi => h1 i (by omega)) (fun i hi => h2 i (by omega))]
    have a := h1 n (by omega)
    have b := h2 n (by omega)
    by_cases hp : p n <;> by_cases hq : q n
    · exact absurd ⟨hp, hq⟩ b
    · rw [if_pos (a.mpr (Or.inl hp)), if_pos hp, if_neg hq]; omega
    · rw [if_pos (a.mpr (Or.inr hq)), if_neg hp, if_pos hq]; omega
    · rw [if_neg (fun x => (a.mp x).elim hp hq), if_neg hp, if_neg hq]; omega
theorem cntP_le {p : Nat → Prop} [DecidablePred p] : ∀ n, cntP p n ≤ n := by
  intro n
  induction n with
  | zero => exact Nat.le_refl _
  | succ n ih => unfold cntP; split <;> omega
theorem cntP_none {p : Nat → Prop} [DecidablePred p] : ∀ n, (∀ i, i < n → ¬ p i) → cntP p n = 0 := by
  intro n
  induction n with
  | zero => intro _; rfl
  | succ n ih => intro h; unfold cntP; rw [ih (fun i hi => h i (by omega)), if_neg (h n (by omega))]
theorem cntP_one {p : Nat → Prop} [DecidablePred p] : ∀ n j, j < n → p j → (∀ i, i < n → p i → i = j) → cntP p n = 1 := by
  intro n
  induction n with
  | zero => intro j hj; omega
  | succ n ih =>
    intro j hj hp hu
    unfold cntP
    by_cases e : j = n
    · subst e
      rw [if_pos hp, cntP_none j (fun i hi q => by have := hu i (by omega) q; omega)]
    · rw [ih j (by omega) hp (fun i hi q => hu i (by omega) q), if_neg (fun q => e (hu n (by omega) q).symm)]
def GU.near (g : GU) (s : Nat) : Nat := cntP (fun t => adj (g.pl s) (g.pl t)) g.size
def GU.nearW (g : GU) (s w : Nat) : Nat := cntP (fun t => adjW w (g.pl s) (g.pl t)) g.size
theorem near_sum {g : GU} {s : Nat} : g.near s = g.nearW s 0 + g.nearW s 1 + g.nearW s 2 + g.nearW s 3 := by
  unfold GU.near GU.nearW
  rw [cntP_or (r := fun t => adj (g.pl s) (g.pl t)) (p := fun t => adjW 0 (g.pl s) (g.pl t)) (q := fun t => adjW 1 (g.pl s) (g.pl t) ∨ adjW 2 (g.pl s) (g.pl t) ∨ adjW 3 (g.pl s) (g.pl t)) g.size (fun i _ => Iff.rfl) (fun i _ => by unfold adjW; omega)]
  rw [cntP_or (p := fun t => adjW 1 (g.pl s) (g.pl t)) (q := fun t => adjW 2 (g.pl s) (g.pl t) ∨ adjW 3 (g.pl s) (g.pl t)) g.size (fun i _ => Iff.rfl) (fun i _ => by unfold adjW; omega)]
  rw [cntP_or (p := fun t => adjW 2 (g.pl s) (g.pl t)) (q := fun t => adjW 3 (g.pl s) (g.pl t)) g.size (fun i _ => Iff.rfl) (fun i _ => by unfold adjW; omega)]
  omega
theorem nearW_first {g : GU} (W : Wf g) {s w : Nat} (hw : w < 4) : (firstP (fun t => adjW w (g.pl s) (g.pl t)) g.size 0 < 0 ∧ g.nearW s w = 0) ∨ (¬ firstP (fun t => adjW w (g.pl s) (g.pl t)) g.size 0 < 0 ∧ g.nearW s w = 1) := by
  have h8 := W.s8
  rcases firstP_cases (fun t => adjW w (g.pl s) (g.pl t)) g.size 0 with ⟨e1, e2⟩ | ⟨j, e1, e2, e3, e4, e5⟩
  · exact Or.inl ⟨by rw [e1]; decide, cntP_none _ (fun i hi => e2 i (by omega) (by omega))⟩
  · refine Or.inr ⟨by rw [e4]; exact nI_pos (by omega), cntP_one _ j (by omega) e3 (fun i hi ha => ?_)⟩
    refine W.dist i j hi (by omega) ?_
    have h1 := (W.place i hi).2.1
    have h2 := (W.place j (by omega)).2.1
    unfold adjW at e3 ha
    omega
theorem ip_near {Q : Int32 → Prop} {g : GU} (W : Wf g) {s : Nat} (hs : s < g.size) (h : Q (nI (g.near s))) : wX1_shipsBeside Q (nI s) (nI g.size) g.place := by
  have h8 := W.s8
  refine ⟨g.size + 1, ?_⟩
  have lp : ∀ (m i : Nat), i + m = g.size → wX1_shipsBeside_4 Q (m + 1) (nI s) (nI (cntP (fun t => adj (g.pl s) (g.pl t)) i)) (nI i) (nI g.size) g.place := by
    intro m
    induction m with
    | zero =>
      intro i hi
      have e : i = g.size := by omega
      subst e
      exact ip_T (nI_le (Nat.le_refl _) (by omega)) h
    | succ m ih =>
      intro i hi
      refine ip_F (nI_ge (by omega) (by omega)) (ip_beside1 W hs (by omega) ?_)
      unfold wX1_shipsBeside_24
      rw [nI_1, nI_1]
      have := ih (i + 1) (by omega)
      by_cases a : adj (g.pl s) (g.pl i)
      · rw [bI_T a]
        rw [cntP, if_pos a] at this
        exact ip_F (by decide) this
      · rw [bI_F a]
        rw [cntP, if_neg a] at this
        exact ip_T rfl this
  exact lp g.size 0 (by omega)
theorem m_near {Q : Int32 → Prop} {om : Nat → Option OR} {all : Nat → Int32} {g : GU} (W : Wf g) (R : Rg om all g) {s : Nat} (hs : s < g.size) (h : Q (nI (g.near s))) : ∃ j_, wX11_asked_135 Q j_ (nI s) 0 0 all := by
  have h8 := W.s8
  have st : ∀ (m w k : Nat), w < 4 → wX11_asked_135 Q m (nI s) (nI (k + g.nearW s w)) (nI (w + 1)) all → wX11_asked_135 Q (m + 1) (nI s) (nI k) (nI w) all := by
    intro m w k hw hr
    refine ip_F (nI_ge (a := w) (b := 4) (by omega) (by omega)) (ip_beside W R hs hw ?_)
    unfold wX11_asked_157
    rw [nI_1]
    rcases nearW_first W (s := s) hw with ⟨a, b⟩ | ⟨a, b⟩
    · rw [b] at hr
      exact ip_T a (by rw [Int32.add_zero]; exact hr)
    · rw [b] at hr
      exact ip_F a (by rw [nI_1]; exact hr)
  refine ⟨5, st 4 0 0 (by omega) (st 3 1 _ (by omega) (st 2 2 _ (by omega) (st 1 3 _ (by omega) ?_)))⟩
  refine ip_T (by decide) ?_
  rw [near_sum] at h
  rw [show 0 + g.nearW s 0 + g.nearW s 1 + g.nearW s 2 + g.nearW s 3 = g.nearW s 0 + g.nearW s 1 + g.nearW s 2 + g.nearW s 3 by omega]
  exact h
