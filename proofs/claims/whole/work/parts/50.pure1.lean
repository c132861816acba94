/-! PURE LEVEL 1: small predicates as equations; the first ship in a cell -/
def inI (x a b : Int32) : Int32 := if x < a then 0 else if b < x then 0 else 1
theorem p_within {Q : Int32 → Prop} {x a b : Int32} : wX10_within Q x a b ↔ Q (inI x a b) := by
  unfold wX10_within inI
  by_cases h1 : x < a <;> by_cases h2 : b < x <;> simp [h1, h2]
theorem p_isIn {Q : Int32 → Prop} {x a b : Int32} : wX11_isIn Q x a b ↔ Q (inI x a b) := by
  unfold wX11_isIn inI
  by_cases h1 : x < a <;> by_cases h2 : b < x <;> simp [h1, h2]
theorem inI_nz {x a b : Int32} : inI x a b = 0 ↔ (x < a ∨ b < x) := by
  unfold inI
  by_cases h1 : x < a <;> by_cases h2 : b < x <;> simp [h1, h2]
def findV (r c R C : Int32) : Int32 := if r < 0 then -1 else if R ≤ r then -1 else if c < 0 then -1 else if c < C then r * 8 + c else -1
theorem p_find {Q : Int32 → Prop} {r c R C : Int32} : wX3_find Q r c R C ↔ Q (findV r c R C) := by
  unfold wX3_find findV
  by_cases h1 : r < 0 <;> by_cases h2 : R ≤ r <;> by_cases h3 : c < 0 <;> by_cases h4 : c < C <;> simp [h1, h2, h3, h4]
/-- the first place from i on, of the next m, that holds x -/
def firstAt (p : Nat → Int32) (x : Int32) : Nat → Nat → Int32
  | 0, _ => -1
  | m + 1, i => if p i = x then nI i else firstAt p x m (i + 1)
theorem p_shipIn_loop {Q : Int32 → Prop} {x : Int32} {n : Nat} {place : Nat → Int32} (hn : n ≤ 8) : ∀ (m i : Nat), i + m = n → Q (firstAt place x m i) → wX1_shipIn_2 Q (m + 1) x (nI i) (nI n) place := by
  intro m
  induction m with
  | zero =>
    intro i hi h
    have e : i = n := by omega
    subst e
    exact ⟨fun _ => h, fun c => absurd (nI_le (Nat.le_refl _) (by omega)) c⟩
  | succ m ih =>
    intro i hi h
    refine ⟨fun c => absurd c (nI_ge (by omega) (by omega)), fun _ => ⟨vp_in_nI (by omega) (by omega), ?_⟩⟩
    rw [nI_clamp (by omega)]
    refine ⟨fun c => ?_, fun c => ?_⟩
    · rw [nI_1]
      refine ih (i + 1) (by omega) ?_
      rw [firstAt, if_neg c] at h
      exact h
    · rw [firstAt, if_pos c] at h
      exact h
theorem p_shipIn {Q : Int32 → Prop} {x : Int32} {n : Nat} {place : Nat → Int32} (hn : n ≤ 8) (h : Q (firstAt place x n 0)) : wX1_shipIn Q x (nI n) place :=
  ⟨n + 1, p_shipIn_loop hn n 0 (by omega) h⟩
/-- a burden: of a cell k -/
def burV (ch lv rd : Nat → Int32) (k : Nat) : Int32 := if ch k = -1 then lv k / 2 + rd k else 0
theorem p_burden {Q : Int32 → Prop} {k : Nat} {ch lv rd : Nat → Int32} (hk : k < 64) (h : Q (burV ch lv rd k)) : wX3_burden Q (nI k) ch lv rd := by
  unfold wX3_burden
  have hv : vp_in (nI k) 64 := vp_in_nI hk (by omega)
  rw [nI_clamp (by omega)]
  unfold burV at h
  refine ⟨hv, fun c => ?_, fun c => ⟨hv, hv, ?_⟩⟩
  · rw [if_neg c] at h; exact h
  · rw [if_pos c] at h; exact h
/-- growth: what a cell's level becomes, and how much all grew, over the first m cells -/
def moreV (sea lv : Nat → Int32) (cold : Int32) (k : Nat) : Int32 := if sea k = 0 then 0 else (100 - lv k) * cold / 400
def growSum (sea lv : Nat → Int32) (cold : Int32) : Nat → Int32
  | 0 => 0
  | m + 1 => growSum sea lv cold m + moreV sea lv cold m
def growL (sea lv : Nat → Int32) (cold : Int32) (m : Nat) : Nat → Int32 := fun k => if k < m then lv k + moreV sea lv cold k else lv k
theorem growL_succ (sea lv : Nat → Int32) (cold : Int32) (m : Nat) : growL sea lv cold (m + 1) = upd (growL sea lv cold m) m (lv m + moreV sea lv cold m) := by
  funext k
  unfold growL upd
  by_cases h : k = m
  · subst h; simp
  · by_cases h2 : k < m
    · simp [h, h2, show k < m + 1 by omega]
    · simp [h, h2, show ¬ k < m + 1 by omega]
theorem p_grow_loop {Q : Int32 → (Nat → Int32) → Prop} {cold gr : Int32} {R : Nat} {sea lv : Nat → Int32} (hR : R ≤ 8) (h : Q (gr + growSum sea lv cold (8 * R)) (growL sea lv cold (8 * R))) : ∀ (m i : Nat), i + m = 8 * R → wX3_grow_2 Q (m + 1) cold (nI i) (nI R) (gr + growSum sea lv cold i) (growL sea lv cold i) sea := by
  have hr8 : nI R * (8 : Int32) = nI (8 * R) := by rw [show (8 : Int32) = nI 8 from rfl, pk_mul, Nat.mul_comm]
  intro m
  induction m with
  | zero =>
    intro i hi
    have e : i = 8 * R := by omega
    subst e
    refine ⟨fun _ => h, fun c => absurd ?_ c⟩
    rw [hr8]
    exact nI_le (Nat.le_refl _) (by omega)
  | succ m ih =>
    intro i hi
    have hv : vp_in (nI i) 64 := vp_in_nI (by omega) (by omega)
    refine ⟨fun c => absurd c (by rw [hr8]; exact nI_ge (by omega) (by omega)), fun _ => ⟨hv, ?_⟩⟩
    rw [nI_clamp (by omega)]
    have ih := ih (i + 1) (by omega)
    rw [growSum, growL_succ] at ih
    have e0 : growL sea lv cold i i = lv i := by simp [growL]
    refine ⟨fun c => ?_, fun c => ⟨hv, hv, hv, ?_⟩⟩
    · unfold wX3_grow_58
      rw [nI_1]
      have e1 : moreV sea lv cold i = 0 := by simp [moreV, c]
      rw [e1] at ih
      have e2 : upd (growL sea lv cold i) i (lv i + 0) = growL sea lv cold i := by
        funext k
        unfold upd
        by_cases h : k = i
        · subst h; simp [e0]
        · simp [h]
      rw [e2] at ih
      simpa using ih
    · unfold wX3_grow_58
      rw [nI_1, e0]
      have e1 : moreV sea lv cold i = (100 - lv i) * cold / 400 := by simp [moreV, c]
      rw [e1] at ih
      rw [← Int32.add_assoc] at ih
      exact ih
theorem p_grow {Q : Int32 → (Nat → Int32) → Prop} {cold gr : Int32} {R : Nat} {sea lv : Nat → Int32} (hR : R ≤ 8) (h : Q (gr + growSum sea lv cold (8 * R)) (growL sea lv cold (8 * R))) : wX3_grow Q cold (nI R) gr lv sea := by
  refine ⟨8 * R + 1, ?_⟩
  have h1 := p_grow_loop hR h (8 * R) 0 (by omega)
  have e : growL sea lv cold 0 = lv := by funext k; simp [growL]
  rw [e] at h1
  simpa [growSum, nI_0] using h1
