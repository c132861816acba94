/-! PURE LEVEL 18: drift -/
abbrev GU.snd (g : GU) (wy k : Nat) : Prop := ¬ g.sea k = 0 ∧ g.fast k = 0 ∧ ¬ g.nxt k wy = -1 ∧ ¬ g.sea (g.nxt k wy).toNatClampNeg = 0
def GU.amt (g : GU) (fo : Int32) (k : Nat) : Int32 := g.level k * fo / 200
def levF (g : GU) (wy : Nat) (fo : Int32) (i : Nat) : Nat → Int32 := fun k => if k < i ∧ g.snd wy k then g.level k - g.amt fo k else g.level k
def leaF (g : GU) (wy : Nat) (fo : Int32) (i : Nat) : Nat → Int32 := fun k => if k < i ∧ g.snd wy k then g.amt fo k else 0
def comF (g : GU) (wy : Nat) (fo : Int32) : Nat → Nat → Int32
  | 0 => fun _ => 0
  | i + 1 => if g.snd wy i then upd (comF g wy fo i) (g.nxt i wy).toNatClampNeg (g.amt fo i) else comF g wy fo i
theorem comF_zero {g : GU} (W : Wf g) {wy : Nat} (hw : wy < 4) {fo : Int32} : ∀ i j, i ≤ 64 → (∀ k, k < i → g.snd wy k → g.nxt k wy ≠ nI j) → comF g wy fo i j = 0 := by
  intro i
  induction i with
  | zero => intro j _ _; rfl
  | succ i ih =>
    intro j hi h
    have hj := ih j (by omega) (fun k hk => h k (by omega))
    unfold comF
    split
    · rename_i hs
      rcases nxt_cases W (show i < 64 by omega) hw with ⟨f, -⟩ | ⟨a, b, ha, hb, hk, hi2, -, -, -, f⟩
      · exact absurd f hs.2.2.1
      · rw [f, nI_clamp (by omega), pk_un (fun e => h i (by omega) hs (by rw [f, e]))]
        exact hj
    · exact hj
theorem nxt_inj {g : GU} (W : Wf g) {wy k i : Nat} (hw : wy < 4) (hk : k < 64) (hi : i < 64) (hn : ¬ g.nxt i wy = -1) (e : g.nxt k wy = g.nxt i wy) : k = i := by
  rcases nxt_cases W hi hw with ⟨f, -⟩ | ⟨a, b, ha, hb, hk1, hi2, h1, -, -, f⟩
  · exact absurd f hn
  · rcases nxt_cases W hk hw with ⟨f', -⟩ | ⟨a', b', ha', hb', hk1', hi2', h1', -, -, f'⟩
    · rw [f'] at e; exact absurd e.symm hn
    · rw [f, f', nI_eq (by omega) (by omega)] at e
      rw [e] at h1'
      unfold adjW at h1 h1'
      omega
theorem comF_at {g : GU} (W : Wf g) {wy i : Nat} (hw : wy < 4) {fo : Int32} (hi : i < 64) (hs : g.snd wy i) : comF g wy fo i (g.nxt i wy).toNatClampNeg = 0 := by
  rcases nxt_cases W hi hw with ⟨f, -⟩ | ⟨a, b, ha, hb, hk, hi2, -, -, -, f⟩
  · exact absurd f hs.2.2.1
  · rw [f, nI_clamp (by omega)]
    refine comF_zero W hw i _ (by omega) (fun k hk' _ e => ?_)
    have := nxt_inj W hw (show k < 64 by omega) hi hs.2.2.1 (by rw [e, f])
    omega
theorem levF_succ {g : GU} {wy i : Nat} {fo : Int32} : levF g wy fo (i + 1) = if g.snd wy i then upd (levF g wy fo i) i (g.level i - g.amt fo i) else levF g wy fo i := by
  by_cases hs : g.snd wy i
  · rw [if_pos hs]
    funext k
    by_cases e : k = i
    · subst e; rw [pk_us]; unfold levF; rw [if_pos ⟨by omega, hs⟩]
    · rw [pk_un e]; unfold levF
      by_cases c : k < i ∧ g.snd wy k
      · rw [if_pos c, if_pos ⟨by omega, c.2⟩]
      · rw [if_neg c, if_neg (fun q => c ⟨by omega, q.2⟩)]
  · rw [if_neg hs]
    funext k
    unfold levF
    by_cases c : k < i ∧ g.snd wy k
    · rw [if_pos c, if_pos ⟨by omega, c.2⟩]
    · rw [if_neg c, if_neg (fun q => c ⟨by
        by_cases e : k = i
        · subst e; exact absurd q.2 hs
        · omega, q.2⟩)]
theorem leaF_succ {g : GU} {wy i : Nat} {fo : Int32} : leaF g wy fo (i + 1) = if g.snd wy i then upd (leaF g wy fo i) i (g.amt fo i) else leaF g wy fo i := by
  by_cases hs : g.snd wy i
  · rw [if_pos hs]
    funext k
    by_cases e : k = i
    · subst e; rw [pk_us]; unfold leaF; rw [if_pos ⟨by omega, hs⟩]
    · rw [pk_un e]; unfold leaF
      by_cases c : k < i ∧ g.snd wy k
      · rw [if_pos c, if_pos ⟨by omega, c.2⟩]
      · rw [if_neg c, if_neg (fun q => c ⟨by omega, q.2⟩)]
  · rw [if_neg hs]
    funext k
    unfold leaF
    by_cases c : k < i ∧ g.snd wy k
    · rw [if_pos c, if_pos ⟨by omega, c.2⟩]
    · rw [if_neg c, if_neg (fun q => c ⟨by
        by_cases e : k = i
        · subst e; exact absurd q.2 hs
        · omega, q.2⟩)]
theorem lev_lea {g : GU} {wy i k : Nat} {fo : Int32} : levF g wy fo i k = g.level k - leaF g wy fo i k := by
  unfold levF leaF
  split
  · rfl
  · rw [Int32.sub_zero]
def clampT (t : Int32) : Int32 := if 100 < t then 100 else t
def GU.tog (g : GU) (wy : Nat) (fo : Int32) (k : Nat) : Int32 := levF g wy fo (8 * g.rows) k + comF g wy fo (8 * g.rows) k
def GU.drf (g : GU) (wy : Nat) (fo : Int32) : GU := if 0 < fo then ((g.rows, g.cols, g.size, g.hour, g.laid, g.grown, g.melted, g.sea, g.fast, (rF g.level 0 64 (fun k => clampT (g.tog wy fo k))), (rF g.ridged 0 64 (fun k => g.ridged k + (g.tog wy fo k - clampT (g.tog wy fo k)))), g.chan, g.str, g.fuel, g.place, g.told, g.moved, g.line, g.done, g.ord, g.cold, g.way, g.force) : GU) else g
def GU.arr (g : GU) (wy : Nat) (fo : Int32) : Nat → Int32 := if 0 < fo then comF g wy fo (8 * g.rows) else fun _ => 0
theorem tog_out {g : GU} (W : Wf g) {wy k : Nat} (hw : wy < 4) {fo : Int32} (hk : k < 64) (ho : ¬ g.ins k) : g.tog wy fo k = 0 ∧ comF g wy fo (8 * g.rows) k = 0 ∧ leaF g wy fo (8 * g.rows) k = 0 := by
  have hr := W.r8
  obtain ⟨o1, o2, o3, o4⟩ := W.out k hk ho
  have c0 : comF g wy fo (8 * g.rows) k = 0 := by
    refine comF_zero W hw _ _ (by omega) (fun j hj hs e => ?_)
    rcases nxt_cases W (show j < 64 by omega) hw with ⟨f, -⟩ | ⟨a, b, ha, hb, hk1, hi2, -, -, -, f⟩
    · exact hs.2.2.1 f
    · rw [f, nI_eq (by omega) (by omega)] at e
      rw [e] at hi2
      exact ho hi2
  have l0 : leaF g wy fo (8 * g.rows) k = 0 := by
    unfold leaF
    rw [if_neg (fun q => q.2.1 o1)]
  refine ⟨?_, c0, l0⟩
  unfold GU.tog
  rw [lev_lea, c0, l0, o2]; rfl
theorem c_fill {Q : (Nat → Int32) → Prop} {arr : Nat → Int32} (h : Q (rF arr 0 64 fun _ => 0)) : wJ7_fill_53178 Q 0 64 arr := by
  refine ⟨65, ?_⟩
  have lp : ∀ (m i : Nat), i + m = 64 → wJ7_fill_53178_5 Q 64 (m + 1) 0 (nI i) (nI 64) (rF arr 0 i fun _ => 0) := by
    intro m
    induction m with
    | zero =>
      intro i hi
      have e : i = 64 := by omega
      subst e
      exact ip_T (by decide) h
    | succ m ih =>
      intro i hi
      refine ip_F (nI_ge (a := i) (b := 64) (by omega) (by omega)) ⟨vp_in_nI (by omega) (by omega), ?_⟩
      rw [nI_clamp (by omega), rF_succ0 (F := fun _ => (0 : Int32)) rfl, nI_1]
      exact ih (i + 1) (by omega)
  have := lp 64 0 (by omega)
  rw [rF_0] at this
  exact this
/-- two rows alike in the cells -/
def Al64 (f h : Nat → Int32) : Prop := ∀ k, k < 64 → f k = h k
theorem Al64.upd {f h : Nat → Int32} {k : Nat} {v : Int32} (a : Al64 f h) : Al64 (upd f k v) (upd h k v) := fun j hj => by
  by_cases e : j = k
  · subst e; rw [pk_us, pk_us]
  · rw [pk_un e, pk_un e]; exact a j hj
theorem c_drift_2 {Q : (Nat → Int32) → (Nat → Int32) → (Nat → Int32) → Prop} {g : GU} (W : Wf g) {wy : Nat} (hw : wy < 4) {fo : Int32} (hf : 0 < fo) {arr : Nat → Int32} (ha : Al64 arr (comF g wy fo (8 * g.rows))) (h : Q arr (g.drf wy fo).level (g.drf wy fo).ridged) : ∀ (m i : Nat), i + m = 8 * g.rows → wX3_drift_75 Q (m + 1) (nI i) (nI g.rows) (nI g.cols) arr g.fast (fun k => if k < i then clampT (g.tog wy fo k) else levF g wy fo (8 * g.rows) k) (rF g.ridged 0 i (fun k => g.ridged k + (g.tog wy fo k - clampT (g.tog wy fo k)))) g.sea := by
  have hr := W.r8
  intro m
  induction m with
  | zero =>
    intro i hi
    have e : i = 8 * g.rows := by omega
    subst e
    refine ip_T (by rw [r8I]; exact nI_le (Nat.le_refl _) (by omega)) ?_
    unfold GU.drf at h
    rw [if_pos hf] at h
    have e1 : (fun k => if k < 8 * g.rows then clampT (g.tog wy fo k) else levF g wy fo (8 * g.rows) k) = rF g.level 0 64 (fun k => clampT (g.tog wy fo k)) := by
      funext k
      by_cases c : k < 8 * g.rows
      · rw [if_pos c, rF_in (by omega) (by omega)]
      · rw [if_neg c]
        have e2 : levF g wy fo (8 * g.rows) k = g.level k := by unfold levF; rw [if_neg (fun q => c q.1)]
        by_cases d : k < 64
        · have ho : ¬ g.ins k := fun q => by have := q.1; omega
          rw [rF_in (by omega) (by omega), (tog_out W hw d ho).1, e2, (W.out k d ho).2.1]; rfl
        · rw [rF_out (by omega), e2]
    have e3 : rF g.ridged 0 (8 * g.rows) (fun k => g.ridged k + (g.tog wy fo k - clampT (g.tog wy fo k))) = rF g.ridged 0 64 (fun k => g.ridged k + (g.tog wy fo k - clampT (g.tog wy fo k))) := by
      funext k
      by_cases c : k < 8 * g.rows
      · rw [rF_in (by omega) (by omega), rF_in (by omega) (by omega)]
      · rw [rF_out (by omega)]
        by_cases d : k < 64
        · have ho : ¬ g.ins k := fun q => by have := q.1; omega
          rw [rF_in (by omega) (by omega), (tog_out W hw d ho).1, (W.out k d ho).2.2.1]; rfl
        · rw [rF_out (by omega)]
    rw [e1, e3]
    exact h
  | succ m ih =>
    intro i hi
    have v := vp_in_nI (show i < 64 by omega) (by omega)
    refine ip_F (by rw [r8I]; exact nI_ge (by omega) (by omega)) ⟨v, v, v, v, v, v, ?_⟩
    rw [nI_clamp (by omega), nI_1, pk_us]
    have et : (if i < i then clampT (g.tog wy fo i) else levF g wy fo (8 * g.rows) i) + arr i = g.tog wy fo i := by
      rw [if_neg (by omega), ha i (by omega)]; rfl
    rw [et]
    have er : rF g.ridged 0 i (fun k => g.ridged k + (g.tog wy fo k - clampT (g.tog wy fo k))) i = g.ridged i := rF_out (by omega)
    rw [er]
    rw [show (if (100 : Int32) < g.tog wy fo i then (100 : Int32) else g.tog wy fo i) = clampT (g.tog wy fo i) from rfl]
    rw [rF_succ0 (f := g.ridged) (F := fun k => g.ridged k + (g.tog wy fo k - clampT (g.tog wy fo k))) rfl]
    have el : upd (fun k => if k < i then clampT (g.tog wy fo k) else levF g wy fo (8 * g.rows) k) i (clampT (g.tog wy fo i)) = fun k => if k < i + 1 then clampT (g.tog wy fo k) else levF g wy fo (8 * g.rows) k := by
      funext k
      by_cases e : k = i
      · subst e; rw [pk_us, if_pos (by omega)]
      · rw [pk_un e]
        by_cases c : k < i
        · rw [if_pos c, if_pos (by omega)]
        · rw [if_neg c, if_neg (by omega)]
    rw [el]
    exact ih (i + 1) (by omega)
theorem c_drift_1 {Q : (Nat → Int32) → (Nat → Int32) → (Nat → Int32) → Prop} {g : GU} (W : Wf g) {wy : Nat} (hw : wy < 4) {fo : Int32} (hf : 0 < fo) (h : ∀ arr, Al64 arr (comF g wy fo (8 * g.rows)) → Q arr (g.drf wy fo).level (g.drf wy fo).ridged) : ∀ (m i : Nat), i + m = 8 * g.rows → ∀ arr, Al64 arr (comF g wy fo i) → wX3_drift_15 Q (m + 1) (nI wy) fo (nI i) (nI g.rows) (nI g.cols) arr g.fast (levF g wy fo i) g.ridged g.sea := by
  have hr := W.r8
  intro m
  induction m with
  | zero =>
    intro i hi arr ha
    have e : i = 8 * g.rows := by omega
    subst e
    refine ip_T (by rw [r8I]; exact nI_le (Nat.le_refl _) (by omega)) ⟨8 * g.rows + 1, ?_⟩
    have := c_drift_2 W hw hf ha (h arr ha) (8 * g.rows) 0 (by omega)
    rw [rF_0] at this
    exact this
  | succ m ih =>
    intro i hi arr ha
    have v := vp_in_nI (show i < 64 by omega) (by omega)
    have ih := ih (i + 1) (by omega)
    rw [levF_succ] at ih
    refine ip_F (by rw [r8I]; exact nI_ge (by omega) (by omega)) ⟨v, ?_⟩
    rw [nI_clamp (by omega)]
    have no : ¬ g.snd wy i → wX3_drift_67 Q (wX3_drift_15 Q (m + 1)) (nI wy) fo (nI i) (nI g.rows) (nI g.cols) arr g.fast (levF g wy fo i) g.ridged g.sea := fun n => by
      rw [if_neg n] at ih
      unfold wX3_drift_67
      rw [nI_1]
      refine ih arr ?_
      unfold comF
      rw [if_neg n]; exact ha
    refine ip_split (fun c => no (fun q => q.1 c)) (fun c => ⟨v, ip_split' (fun d => ip_next W (by omega) hw ⟨v, ?_⟩) (fun d => no (fun q => d q.2.1))⟩)
    unfold wX3_send
    rcases nxt_cases W (show i < 64 by omega) hw with ⟨f, -⟩ | ⟨a, b, ha1, hb1, hk, hi2, -, -, -, f⟩
    · exact ip_T f (no (fun q => q.2.2.1 f))
    · have en : ¬ g.nxt i wy = -1 := by rw [f]; exact nI_m1 hk
      have ec : (g.nxt i wy).toNatClampNeg = 8 * a + b := by rw [f, nI_clamp (by omega)]
      have vn : vp_in (g.nxt i wy) 64 := by rw [f]; exact vp_in_nI hk (by omega)
      refine ip_F en ⟨vn, ip_split (fun e => no (fun q => q.2.2.2 e)) (fun e => ⟨v, v, vn, vn, ?_⟩)⟩
      have hs : g.snd wy i := ⟨c, d, en, e⟩
      rw [if_pos hs] at ih
      unfold wX3_drift_67
      rw [nI_clamp (by omega), nI_1]
      have l0 : levF g wy fo i i = g.level i := by unfold levF; rw [if_neg (fun q => by have := q.1; omega)]
      have a0 : arr (g.nxt i wy).toNatClampNeg = 0 := by rw [ha _ (by rw [ec]; exact hk)]; exact comF_at W hw (by omega) hs
      rw [l0, a0, Int32.zero_add]
      refine ih _ ?_
      unfold comF
      rw [if_pos hs]
      exact ha.upd
theorem c_drift {Q : (Nat → Int32) → (Nat → Int32) → (Nat → Int32) → Prop} {g : GU} (W : Wf g) {wy : Nat} (hw : wy < 4) {fo : Int32} {arr0 : Nat → Int32} (h : ∀ arr, Al64 arr (g.arr wy fo) → Q arr (g.drf wy fo).level (g.drf wy fo).ridged) : wX3_drift Q (nI wy) fo (nI g.rows) (nI g.cols) arr0 g.fast g.level g.ridged g.sea := by
  unfold wX3_drift
  refine c_fill (ip_split (fun c => ⟨8 * g.rows + 1, ?_⟩) (fun c => ?_))
  · unfold GU.arr at h
    rw [if_pos c] at h
    have e0 : levF g wy fo 0 = g.level := funext fun k => by unfold levF; rw [if_neg (fun q => by have := q.1; omega)]
    have := c_drift_1 W hw c h (8 * g.rows) 0 (by omega) (rF arr0 0 64 fun _ => 0) (fun k hk => rF_in (by omega) (by omega))
    rw [e0] at this
    exact this
  · unfold GU.arr GU.drf at h
    rw [if_neg c, if_neg c] at h
    exact h _ (fun k hk => rF_in (by omega) (by omega))
