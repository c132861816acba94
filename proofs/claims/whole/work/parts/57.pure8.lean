/-! PURE LEVEL 7: a burden and sums of the ice; cell, count, ship -/
def GU.bur (g : GU) (k : Nat) : Int32 := burV g.chan g.level g.ridged k
theorem ip_burden {Q : Int32 → Prop} {om : Nat → Option OR} {all : Nat → Int32} {g : GU} (W : Wf g) (R : Rg om all g) {a b : Nat} (ha : a < 8) (hb : b < 8) (h : Q (g.bur (8 * a + b))) : wX11_burden Q (nI a) (nI b) all := by
  unfold wX11_burden
  refine ip_of a b 3 ha hb (by omega) ?_
  rw [R.chan _ (by omega)]
  unfold GU.bur burV at h
  rcases W.chan (8 * a + b) (by omega) with e | ⟨t, ht, e⟩
  · rw [if_pos e] at h
    rw [e]
    refine ip_T (by decide) (ip_of a b 1 ha hb (by omega) (ip_of a b 2 ha hb (by omega) ?_))
    rw [R.level _ (by omega), R.ridged _ (by omega)]
    exact h
  · rw [if_neg (by rw [e]; exact nI_ne_m1 (by omega))] at h
    rw [e]
    exact ip_F (nI_pos (by omega)) h
theorem sim_cell {om : Nat → Option OR} {all : Nat → Int32} {w : WH} (W : WfW w) (R : RW om all w) {y1 y2 y3 : Int32} {K : Int32 → Int32 → Prop} (hK : ∀ r, K r r) :
    wX10_cell (fun r => wX11_cell (fun r2 => K r r2) y1 y2 y3 all) y1 y2 y3 (nI w.g.size) (nI w.g.rows) (nI w.g.cols) w.g.place w.g.chan w.g.fast w.g.level w.g.ridged w.g.sea := by
  have hc8 := W.g.c8
  have hr8 := W.g.r8
  unfold wX10_cell
  refine ip_find W.g _ _ (fun f => ip_T' rfl ?_) (fun a b ha hb hk hi er ec f => ip_F' (nI_m1 hk) ?_)
  · unfold wX11_cell
    refine ip_isCell W.g R.g _ _ ?_
    rw [bI_F (fun q => q f)]
    exact ip_T' rfl (hK _)
  · subst er; subst ec
    have v := vp_in_nI hk (N := 64) (by omega)
    have go : ∀ Q : Int32 → Prop, ((y3 = (0 : Int32) → (wX11_of (fun r_5 => (Q r_5)) (nI a) (nI b) y3 all)) ∧ (y3 = (1 : Int32) → (wX11_of (fun r_6 => (Q r_6)) (nI a) (nI b) y3 all)) ∧ (y3 = (2 : Int32) → (wX11_of (fun r_7 => (Q r_7)) (nI a) (nI b) y3 all)) ∧ (y3 = (3 : Int32) → (wX11_of (fun r_8 => (Q r_8)) (nI a) (nI b) y3 all)) ∧ (y3 = (4 : Int32) → (wX11_of (fun r_9 => (Q r_9)) (nI a) (nI b) y3 all)) ∧ (y3 = (5 : Int32) → (wX11_burden (fun r_10 => (Q r_10)) (nI a) (nI b) all)) ∧ (y3 = (6 : Int32) → (wX11_shipAt (fun r_11 => (Q r_11)) (nI a) (nI b) all)) ∧ ((y3.toInt < (0 : Int) ∨ (6 : Int) < y3.toInt) → (Q (-1 : Int32)))) → wX11_cell Q (nI a) (nI b) y3 all := fun Q h => by
      unfold wX11_cell
      refine ip_isCell W.g R.g _ _ ?_
      rw [f, bI_T (nI_m1 hk)]
      exact ip_F' (by decide) h
    have of1 : ∀ (Q : Int32 → Prop) (z : Nat) (x : Int32), z < 5 → all (40 + 5 * (8 * a + b) + z) = x → Q x → wX11_of Q (nI a) (nI b) (nI z) all := fun Q z x hz e h => ip_of a b z (by omega) (by omega) hz (by rw [e]; exact h)
    rw [nI_clamp (by omega)]
    refine ⟨fun e => ?_, fun e => ?_, fun e => ?_, fun e => ?_, fun e => ?_, fun e => ?_, fun e => ?_, fun e => ?_⟩
    · subst e
      have h0 := R.g.sea _ hk hi
      exact ⟨v, fun e => go _ ⟨fun _ => of1 _ 0 _ (by omega) (h0.trans e) (hK _), fun e_ => absurd e_ (by decide), fun e_ => absurd e_ (by decide), fun e_ => absurd e_ (by decide), fun e_ => absurd e_ (by decide), fun e_ => absurd e_ (by decide), fun e_ => absurd e_ (by decide), fun e_ => absurd e_ (by decide)⟩, fun e => go _ ⟨fun _ => of1 _ 0 _ (by omega) (h0.trans ((W.g.sea _ hk).resolve_left e)) (hK _), fun e_ => absurd e_ (by decide), fun e_ => absurd e_ (by decide), fun e_ => absurd e_ (by decide), fun e_ => absurd e_ (by decide), fun e_ => absurd e_ (by decide), fun e_ => absurd e_ (by decide), fun e_ => absurd e_ (by decide)⟩⟩
    · subst e
      exact ⟨v, go _ ⟨fun e_ => absurd e_ (by decide), fun _ => of1 _ 1 _ (by omega) (R.g.level _ hk) (hK _), fun e_ => absurd e_ (by decide), fun e_ => absurd e_ (by decide), fun e_ => absurd e_ (by decide), fun e_ => absurd e_ (by decide), fun e_ => absurd e_ (by decide), fun e_ => absurd e_ (by decide)⟩⟩
    · subst e
      exact ⟨v, go _ ⟨fun e_ => absurd e_ (by decide), fun e_ => absurd e_ (by decide), fun _ => of1 _ 2 _ (by omega) (R.g.ridged _ hk) (hK _), fun e_ => absurd e_ (by decide), fun e_ => absurd e_ (by decide), fun e_ => absurd e_ (by decide), fun e_ => absurd e_ (by decide), fun e_ => absurd e_ (by decide)⟩⟩
    · subst e
      exact ⟨v, go _ ⟨fun e_ => absurd e_ (by decide), fun e_ => absurd e_ (by decide), fun e_ => absurd e_ (by decide), fun _ => of1 _ 3 _ (by omega) (R.g.chan _ hk) (hK _), fun e_ => absurd e_ (by decide), fun e_ => absurd e_ (by decide), fun e_ => absurd e_ (by decide), fun e_ => absurd e_ (by decide)⟩⟩
    · subst e
      have h0 := R.g.fast _ hk hi
      exact ⟨v, fun e => go _ ⟨fun e_ => absurd e_ (by decide), fun e_ => absurd e_ (by decide), fun e_ => absurd e_ (by decide), fun e_ => absurd e_ (by decide), fun _ => of1 _ 4 _ (by omega) (h0.trans e) (hK _), fun e_ => absurd e_ (by decide), fun e_ => absurd e_ (by decide), fun e_ => absurd e_ (by decide)⟩, fun e => go _ ⟨fun e_ => absurd e_ (by decide), fun e_ => absurd e_ (by decide), fun e_ => absurd e_ (by decide), fun e_ => absurd e_ (by decide), fun _ => of1 _ 4 _ (by omega) (h0.trans ((W.g.fast _ hk).resolve_left e)) (hK _), fun e_ => absurd e_ (by decide), fun e_ => absurd e_ (by decide), fun e_ => absurd e_ (by decide)⟩⟩
    · subst e
      exact p_burden hk (go _ ⟨fun e_ => absurd e_ (by decide), fun e_ => absurd e_ (by decide), fun e_ => absurd e_ (by decide), fun e_ => absurd e_ (by decide), fun e_ => absurd e_ (by decide), fun _ => ip_burden W.g R.g (by omega) (by omega) (hK _), fun e_ => absurd e_ (by decide), fun e_ => absurd e_ (by decide)⟩)
    · subst e
      exact ip_shipIn W.g (go _ ⟨fun e_ => absurd e_ (by decide), fun e_ => absurd e_ (by decide), fun e_ => absurd e_ (by decide), fun e_ => absurd e_ (by decide), fun e_ => absurd e_ (by decide), fun e_ => absurd e_ (by decide), fun _ => ip_shipAt W.g R.g (by rw [GU.shipAt_in W.g (by omega) (by omega)]; exact hK _), fun e_ => absurd e_ (by decide)⟩)
    · have nn : ∀ z : Nat, z ≤ 6 → ¬ y3 = nI z := fun z hz q => by
        subst q; rw [nI_toInt (by omega)] at e; omega
      exact go _ ⟨fun q => absurd q (nn 0 (by omega)), fun q => absurd q (nn 1 (by omega)), fun q => absurd q (nn 2 (by omega)), fun q => absurd q (nn 3 (by omega)), fun q => absurd q (nn 4 (by omega)), fun q => absurd q (nn 5 (by omega)), fun q => absurd q (nn 6 (by omega)), fun _ => hK _⟩
/-- the sum of the first m cells -/
def sumN (f : Nat → Int32) : Nat → Int32
  | 0 => 0
  | m + 1 => sumN f m + f m
theorem ip_sumOf_loop {Q : Int32 → Prop} {f : Nat → Int32} (h : Q (sumN f 64)) : ∀ (m i : Nat), i + m = 64 → wX3_sumOf_4 Q 64 (m + 1) (sumN f i) (nI i) f := by
  intro m
  induction m with
  | zero =>
    intro i hi
    have e : i = 64 := by omega
    subst e
    exact ip_T (by decide) h
  | succ m ih =>
    intro i hi
    refine ip_F (nI_ge (a := i) (b := 64) (by omega) (by omega)) ⟨vp_in_nI (by omega) (by omega), ?_⟩
    rw [nI_clamp (by omega), nI_1]
    exact ih (i + 1) (by omega)
theorem ip_sumOf {Q : Int32 → Prop} {f : Nat → Int32} (h : Q (sumN f 64)) : wX3_sumOf Q 64 f := ⟨65, ip_sumOf_loop h 64 0 (by omega)⟩
theorem sumN_z (f : Nat → Int32) (n : Nat) : ∀ m, (∀ k, n ≤ k → k < n + m → f k = 0) → sumN f (n + m) = sumN f n := by
  intro m
  induction m with
  | zero => intro _; rfl
  | succ m ih =>
    intro h
    show sumN f (n + m) + f (n + m) = _
    rw [ih (fun k h1 h2 => h k h1 (by omega)), h (n + m) (by omega) (by omega), Int32.add_zero]
theorem ip_iceOf_in {Q : Int32 → Prop} {Kf : Int32 → Int32 → Int32 → (Nat → Int32) → Prop} {om : Nat → Option OR} {all : Nat → Int32} {g : GU} (W : Wf g) (R : Rg om all g) {f : Nat → Int32} {z a : Nat} (hz : z < 5) (ha : a < g.rows) (hf : ∀ k, k < 64 → all (40 + 5 * k + z) = f k) (h : Kf (nI z) (sumN f (8 * a + g.cols)) (nI a + 1) all) : ∀ (m i : Nat), i + m = g.cols → wX11_iceOf_17 Q Kf (m + 1) (nI z) (sumN f (8 * a + i)) (nI a) (nI i) all := by
  have hc := W.c8
  have hr := W.r8
  have v1 := ip_in (x := 1) 1 53700 rfl (by omega) (by omega)
  intro m
  induction m with
  | zero =>
    intro i hi
    have e : i = g.cols := by omega
    subst e
    refine ⟨v1, ip_T ?_ h⟩
    rw [show (1 : Int32).toNatClampNeg = 1 from rfl, R.cols]
    exact nI_le (Nat.le_refl _) (by omega)
  | succ m ih =>
    intro i hi
    refine ⟨v1, ip_F ?_ (ip_of a i z (by omega) (by omega) hz ?_)⟩
    · rw [show (1 : Int32).toNatClampNeg = 1 from rfl, R.cols]
      exact nI_ge (by omega) (by omega)
    · rw [hf _ (by omega), nI_1]
      exact ih (i + 1) (by omega)
theorem ip_iceOf_loop {Q : Int32 → Prop} {om : Nat → Option OR} {all : Nat → Int32} {g : GU} (W : Wf g) (R : Rg om all g) {f : Nat → Int32} {z : Nat} (hz : z < 5) (hf : ∀ k, k < 64 → all (40 + 5 * k + z) = f k) (ho : ∀ k, k < 64 → ¬ g.ins k → f k = 0) (h : Q (sumN f 64)) : ∀ (m i : Nat), i + m = g.rows → wX11_iceOf_4 Q (m + 1) (nI z) (sumN f (8 * i)) (nI i) all := by
  have hc := W.c8
  have hr := W.r8
  have v0 := ip_in (x := 0) 0 53700 rfl (by omega) (by omega)
  intro m
  induction m with
  | zero =>
    intro i hi
    have e : i = g.rows := by omega
    subst e
    refine ⟨v0, ip_T ?_ ?_⟩
    · rw [show (0 : Int32).toNatClampNeg = 0 from rfl, R.rows]
      exact nI_le (Nat.le_refl _) (by omega)
    · have e : sumN f 64 = sumN f (8 * g.rows) := by
        have := sumN_z f (8 * g.rows) (64 - 8 * g.rows) (fun k h1 h2 => ho k (by omega) (fun q => by have := q.1; omega))
        rw [show 8 * g.rows + (64 - 8 * g.rows) = 64 by omega] at this
        exact this
      rw [← e]; exact h
  | succ m ih =>
    intro i hi
    refine ⟨v0, ip_F ?_ ⟨g.cols + 1, ?_⟩⟩
    · rw [show (0 : Int32).toNatClampNeg = 0 from rfl, R.rows]
      exact nI_ge (by omega) (by omega)
    · refine ip_iceOf_in W R hz (by omega) hf ?_ g.cols 0 (by omega)
      rw [nI_1]
      have := ih (i + 1) (by omega)
      have e : sumN f (8 * (i + 1)) = sumN f (8 * i + g.cols) := by
        have := sumN_z f (8 * i + g.cols) (8 - g.cols) (fun k h1 h2 => ho k (by omega) (fun q => by have := q.2; omega))
        rw [show 8 * i + g.cols + (8 - g.cols) = 8 * (i + 1) by omega] at this
        exact this
      rw [e] at this
      exact this
theorem ip_iceOf {Q : Int32 → Prop} {om : Nat → Option OR} {all : Nat → Int32} {g : GU} (W : Wf g) (R : Rg om all g) {f : Nat → Int32} {z : Nat} (hz : z < 5) (hf : ∀ k, k < 64 → all (40 + 5 * k + z) = f k) (ho : ∀ k, k < 64 → ¬ g.ins k → f k = 0) (h : Q (sumN f 64)) : wX11_iceOf Q (nI z) all :=
  ⟨g.rows + 1, ip_iceOf_loop W R hz hf ho h g.rows 0 (by omega)⟩
theorem ip_ice1 {Q : Int32 → Prop} {om : Nat → Option OR} {all : Nat → Int32} {g : GU} (W : Wf g) (R : Rg om all g) (h : Q (sumN g.level 64)) : wX11_iceOf Q 1 all := ip_iceOf (z := 1) W R (by omega) R.level (fun k hk ho => (W.out k hk ho).2.1) h
theorem ip_ice2 {Q : Int32 → Prop} {om : Nat → Option OR} {all : Nat → Int32} {g : GU} (W : Wf g) (R : Rg om all g) (h : Q (sumN g.ridged 64)) : wX11_iceOf Q 2 all := ip_iceOf (z := 2) W R (by omega) R.ridged (fun k hk ho => (W.out k hk ho).2.2.1) h
theorem sim_count {om : Nat → Option OR} {all : Nat → Int32} {w : WH} (W : WfW w) (R : RW om all w) {y1 : Int32} {K : Int32 → Int32 → Prop} (hK : ∀ r, K r r) :
    wX10_count (fun r => wX11_count (fun r2 => K r r2) y1 all) y1 (nI w.psize) (nI w.g.hour) (nI w.g.size) (nI w.g.rows) (nI w.g.cols) w.g.laid w.g.grown w.g.melted w.g.level w.g.ridged := by
  have c0 := R.g.rows; have c1 := R.g.cols; have c2 := R.g.size; have c3 := R.g.hour; have c4 := R.g.laid; have c5 := R.g.grown; have c6 := R.g.melted; have c7 := R.psize
  have hd : ∀ (n : Nat) (x z : Int32), n < 53700 → x = nI n → all n = z → vp_in x 53700 ∧ K z (all x.toNatClampNeg) := fun n x z hn hx e => by
    subst hx; rw [nI_clamp (by omega), e]; exact ⟨vp_in_nI hn (by omega), hK _⟩
  unfold wX10_count wX11_count
  refine ⟨fun e => ?_, fun e => ?_, fun e => ?_, fun e => ?_, fun e => ?_, fun e => ?_, fun e => ?_, fun e => ?_, fun e => ?_, fun e => ?_, fun e => ?_⟩
  · subst e; exact ⟨fun _ => hd 0 _ _ (by omega) rfl c0, fun e_ => absurd e_ (by decide), fun e_ => absurd e_ (by decide), fun e_ => absurd e_ (by decide), fun e_ => absurd e_ (by decide), fun e_ => absurd e_ (by decide), fun e_ => absurd e_ (by decide), fun e_ => absurd e_ (by decide), fun e_ => absurd e_ (by decide), fun e_ => absurd e_ (by decide), fun e_ => absurd e_ (by decide)⟩
  · subst e; exact ⟨fun e_ => absurd e_ (by decide), fun _ => hd 1 _ _ (by omega) rfl c1, fun e_ => absurd e_ (by decide), fun e_ => absurd e_ (by decide), fun e_ => absurd e_ (by decide), fun e_ => absurd e_ (by decide), fun e_ => absurd e_ (by decide), fun e_ => absurd e_ (by decide), fun e_ => absurd e_ (by decide), fun e_ => absurd e_ (by decide), fun e_ => absurd e_ (by decide)⟩
  · subst e; exact ⟨fun e_ => absurd e_ (by decide), fun e_ => absurd e_ (by decide), fun _ => hd 2 _ _ (by omega) rfl c2, fun e_ => absurd e_ (by decide), fun e_ => absurd e_ (by decide), fun e_ => absurd e_ (by decide), fun e_ => absurd e_ (by decide), fun e_ => absurd e_ (by decide), fun e_ => absurd e_ (by decide), fun e_ => absurd e_ (by decide), fun e_ => absurd e_ (by decide)⟩
  · subst e; exact ⟨fun e_ => absurd e_ (by decide), fun e_ => absurd e_ (by decide), fun e_ => absurd e_ (by decide), fun _ => hd 3 _ _ (by omega) rfl c3, fun e_ => absurd e_ (by decide), fun e_ => absurd e_ (by decide), fun e_ => absurd e_ (by decide), fun e_ => absurd e_ (by decide), fun e_ => absurd e_ (by decide), fun e_ => absurd e_ (by decide), fun e_ => absurd e_ (by decide)⟩
  · subst e; exact ip_sumOf ⟨fun e_ => absurd e_ (by decide), fun e_ => absurd e_ (by decide), fun e_ => absurd e_ (by decide), fun e_ => absurd e_ (by decide), fun _ => ip_ice1 W.g R.g (hK _), fun e_ => absurd e_ (by decide), fun e_ => absurd e_ (by decide), fun e_ => absurd e_ (by decide), fun e_ => absurd e_ (by decide), fun e_ => absurd e_ (by decide), fun e_ => absurd e_ (by decide)⟩
  · subst e; exact ip_sumOf ⟨fun e_ => absurd e_ (by decide), fun e_ => absurd e_ (by decide), fun e_ => absurd e_ (by decide), fun e_ => absurd e_ (by decide), fun e_ => absurd e_ (by decide), fun _ => ip_ice2 W.g R.g (hK _), fun e_ => absurd e_ (by decide), fun e_ => absurd e_ (by decide), fun e_ => absurd e_ (by decide), fun e_ => absurd e_ (by decide), fun e_ => absurd e_ (by decide)⟩
  · subst e; exact ⟨fun e_ => absurd e_ (by decide), fun e_ => absurd e_ (by decide), fun e_ => absurd e_ (by decide), fun e_ => absurd e_ (by decide), fun e_ => absurd e_ (by decide), fun e_ => absurd e_ (by decide), fun _ => hd 4 _ _ (by omega) rfl c4, fun e_ => absurd e_ (by decide), fun e_ => absurd e_ (by decide), fun e_ => absurd e_ (by decide), fun e_ => absurd e_ (by decide)⟩
  · subst e; exact ⟨fun e_ => absurd e_ (by decide), fun e_ => absurd e_ (by decide), fun e_ => absurd e_ (by decide), fun e_ => absurd e_ (by decide), fun e_ => absurd e_ (by decide), fun e_ => absurd e_ (by decide), fun e_ => absurd e_ (by decide), fun _ => hd 5 _ _ (by omega) rfl c5, fun e_ => absurd e_ (by decide), fun e_ => absurd e_ (by decide), fun e_ => absurd e_ (by decide)⟩
  · subst e; exact ⟨fun e_ => absurd e_ (by decide), fun e_ => absurd e_ (by decide), fun e_ => absurd e_ (by decide), fun e_ => absurd e_ (by decide), fun e_ => absurd e_ (by decide), fun e_ => absurd e_ (by decide), fun e_ => absurd e_ (by decide), fun e_ => absurd e_ (by decide), fun _ => hd 6 _ _ (by omega) rfl c6, fun e_ => absurd e_ (by decide), fun e_ => absurd e_ (by decide)⟩
  · subst e; exact ⟨fun e_ => absurd e_ (by decide), fun e_ => absurd e_ (by decide), fun e_ => absurd e_ (by decide), fun e_ => absurd e_ (by decide), fun e_ => absurd e_ (by decide), fun e_ => absurd e_ (by decide), fun e_ => absurd e_ (by decide), fun e_ => absurd e_ (by decide), fun e_ => absurd e_ (by decide), fun _ => hd 7 _ _ (by omega) rfl c7, fun e_ => absurd e_ (by decide)⟩
  · have nn : ∀ z : Nat, z ≤ 9 → ¬ y1 = nI z := fun z hz q => by
      subst q; rw [nI_toInt (by omega)] at e; omega
    exact ⟨fun q => absurd q (nn 0 (by omega)), fun q => absurd q (nn 1 (by omega)), fun q => absurd q (nn 2 (by omega)), fun q => absurd q (nn 3 (by omega)), fun q => absurd q (nn 4 (by omega)), fun q => absurd q (nn 5 (by omega)), fun q => absurd q (nn 6 (by omega)), fun q => absurd q (nn 7 (by omega)), fun q => absurd q (nn 8 (by omega)), fun q => absurd q (nn 9 (by omega)), fun _ => hK _⟩
