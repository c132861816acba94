/-! PURE LEVEL 14: the steps of a line, as a pile of truths; in the class bits of a number, in the reference a row -/
def bB (b : Bool) : Int32 := if b = true then 1 else 0
def bN (b : Bool) : Nat := if b = true then 1 else 0
theorem bN_lt (b : Bool) : bN b < 2 := by cases b <;> decide
theorem bB_n (b : Bool) : bB b = nI (bN b) := by cases b <;> rfl
theorem bB_01 (b : Bool) : bB b = 0 ∨ bB b = 1 := by cases b <;> decide
def enc : List Bool → Nat
  | [] => 0
  | b :: r => 2 * enc r + bN b
theorem enc_lt : ∀ l : List Bool, enc l < 2 ^ l.length := by
  intro l
  induction l with
  | nil => decide
  | cons b r ih =>
    have := bN_lt b
    show 2 * enc r + bN b < 2 ^ (r.length + 1)
    rw [Nat.pow_succ]
    omega
theorem enc_lt20 {l : List Bool} {n : Nat} (h : l.length ≤ n) : enc l < 2 ^ n :=
  Nat.lt_of_lt_of_le (enc_lt l) (Nat.pow_le_pow_right (by omega) h)
theorem nI_bv {n : Nat} (h : n < 2 ^ 32) : (nI n).toBitVec.toNat = n := pk_tn h
theorem nI_of_bv {x : Int32} {n : Nat} (h : x.toBitVec.toNat = n) (hn : n < 2 ^ 32) : x = nI n := by
  apply Int32.toBitVec_inj.mp
  apply BitVec.eq_of_toNat_eq
  rw [h, nI_bv hn]
theorem nat_or1 (m c : Nat) (hc : c < 2) : (2 * m) ||| c = 2 * m + c := by
  apply Nat.eq_of_testBit_eq
  intro i
  cases i with
  | zero =>
    rw [Nat.testBit_or, Nat.testBit_zero, Nat.testBit_zero, Nat.testBit_zero]
    have : c = 0 ∨ c = 1 := by omega
    rcases this with e | e <;> subst e <;> simp <;> omega
  | succ i =>
    rw [Nat.testBit_or, Nat.testBit_succ, Nat.testBit_succ, Nat.testBit_succ, show 2 * m / 2 = m by omega, show (2 * m + c) / 2 = m by omega, show c / 2 = 0 by omega, Nat.zero_testBit, Bool.or_false]
theorem nat_xor1 (m : Nat) (b : Bool) : (2 * m + bN b) ^^^ 1 = 2 * m + bN (!b) := by
  have h1 := bN_lt b
  have h2 := bN_lt (!b)
  apply Nat.eq_of_testBit_eq
  intro i
  cases i with
  | zero =>
    rw [Nat.testBit_xor, Nat.testBit_zero, Nat.testBit_zero, Nat.testBit_zero]
    cases b <;> simp [bN] <;> omega
  | succ i =>
    rw [Nat.testBit_xor, Nat.testBit_succ, Nat.testBit_succ, Nat.testBit_succ, show (2 * m + bN b) / 2 = m by omega, show (2 * m + bN (!b)) / 2 = m by omega, show 1 / 2 = 0 by omega, Nat.zero_testBit, Bool.xor_false]
theorem nat_or2 (m : Nat) (a b : Bool) : (2 * m + bN a) ||| bN b = 2 * m + bN (a || b) := by
  have h1 := bN_lt a
  have h2 := bN_lt b
  have h3 := bN_lt (a || b)
  apply Nat.eq_of_testBit_eq
  intro i
  cases i with
  | zero =>
    rw [Nat.testBit_or, Nat.testBit_zero, Nat.testBit_zero, Nat.testBit_zero]
    cases a <;> cases b <;> simp [bN] <;> omega
  | succ i =>
    rw [Nat.testBit_or, Nat.testBit_succ, Nat.testBit_succ, Nat.testBit_succ, show (2 * m + bN a) / 2 = m by omega, show (2 * m + bN (a || b)) / 2 = m by omega, show bN b / 2 = 0 by omega, Nat.zero_testBit, Bool.or_false]
theorem nat_and2 (m : Nat) (a b : Bool) (hm : m < 2 ^ 30) : (2 * m + bN a) &&& ((2 * (2 * m + bN a) + bN b) ||| (2 * (2 ^ 31 - 1))) = 2 * m + bN (a && b) := by
  have h1 := bN_lt a
  have h2 := bN_lt b
  have h3 := bN_lt (a && b)
  apply Nat.eq_of_testBit_eq
  intro i
  cases i with
  | zero =>
    rw [Nat.testBit_and, Nat.testBit_or, Nat.testBit_zero, Nat.testBit_zero, Nat.testBit_zero, Nat.testBit_zero]
    cases a <;> cases b <;> simp [bN] <;> omega
  | succ i =>
    rw [Nat.testBit_and, Nat.testBit_or, Nat.testBit_succ, Nat.testBit_succ, Nat.testBit_succ, Nat.testBit_succ, show (2 * m + bN a) / 2 = m by omega, show (2 * m + bN (a && b)) / 2 = m by omega, show 2 * (2 ^ 31 - 1) / 2 = 2 ^ 31 - 1 by omega, Nat.testBit_two_pow_sub_one]
    by_cases hi : i < 31
    · simp [hi]
    · have : m.testBit i = false := Nat.testBit_lt_two_pow (Nat.lt_of_lt_of_le hm (Nat.pow_le_pow_right (by omega) (by omega)))
      rw [this]; simp
theorem bit_not {m : Nat} {b : Bool} (h : m < 2 ^ 30) : nI (2 * m + bN b) ^^^ 1 = nI (2 * m + bN (!b)) := by
  have h1 := bN_lt b
  have h2 := bN_lt (!b)
  refine nI_of_bv ?_ (by omega)
  rw [Int32.toBitVec_xor, BitVec.toNat_xor, nI_bv (by omega)]
  exact nat_xor1 m b
theorem bit_shr {m : Nat} {b : Bool} (h : m < 2 ^ 30) : nI (2 * m + bN b) >>> ((1 : Int32) &&& 31) = nI m := by
  have h1 := bN_lt b
  rw [pk_shrN (by omega) _ 1 (by decide), show (2 * m + bN b) / 2 ^ 1 = m by omega]
theorem bit_and1 {m : Nat} {b : Bool} (h : m < 2 ^ 30) : nI (2 * m + bN b) &&& 1 = nI (bN b) := by
  have h1 := bN_lt b
  rw [pk_andN (by omega) 1 (by decide), show (2 * m + bN b) % 2 ^ 1 = bN b by omega]
theorem bit_or {m : Nat} {a b : Bool} (h : m < 2 ^ 29) : (nI (2 * (2 * m + bN a) + bN b) >>> ((1 : Int32) &&& 31)) ||| (nI (2 * (2 * m + bN a) + bN b) &&& 1) = nI (2 * m + bN (a || b)) := by
  have h1 := bN_lt a
  have h2 := bN_lt b
  have h3 := bN_lt (a || b)
  rw [bit_shr (by omega), bit_and1 (by omega)]
  refine nI_of_bv ?_ (by omega)
  rw [Int32.toBitVec_or, BitVec.toNat_or, nI_bv (by omega), nI_bv (by omega)]
  exact nat_or2 m a b
theorem bit_and {m : Nat} {a b : Bool} (h : m < 2 ^ 29) : (nI (2 * (2 * m + bN a) + bN b) >>> ((1 : Int32) &&& 31)) &&& (nI (2 * (2 * m + bN a) + bN b) ||| (-2 : Int32)) = nI (2 * m + bN (a && b)) := by
  have h1 := bN_lt a
  have h2 := bN_lt b
  have h3 := bN_lt (a && b)
  rw [bit_shr (by omega)]
  refine nI_of_bv ?_ (by omega)
  rw [Int32.toBitVec_and, BitVec.toNat_and, Int32.toBitVec_or, BitVec.toNat_or, nI_bv (by omega), nI_bv (by omega)]
  exact nat_and2 m a b (by omega)
theorem bit_push {m : Nat} {c : Bool} (h : m < 2 ^ 29) : (nI m <<< ((1 : Int32) &&& 31)) ||| bB c = nI (2 * m + bN c) := by
  have h1 := bN_lt c
  rw [pk_shlN _ 1 (by decide) (by omega), bB_n]
  refine nI_of_bv ?_ (by omega)
  rw [Int32.toBitVec_or, BitVec.toNat_or, nI_bv (by omega), nI_bv (by omega), show m * 2 ^ 1 = 2 * m by omega]
  exact nat_or1 m (bN c) h1
/-- whether what is seen agrees -/
def cmpB (v : Int32) (sg n : Nat) : Bool := if sg = 60 then decide (¬ nI n ≤ v) else if sg = 62 then decide (¬ v ≤ nI n) else decide (v = nI n)
theorem pack_w {w sg n : Nat} (hw : w ≤ 12) (hs : sg < 256) (hn : n < 16384) : nI (w * 4194304 + sg * 16384 + n) >>> ((22 : Int32) &&& 31) = nI w := by
  rw [pk_shrN (by omega) _ 22 (by decide), show (w * 4194304 + sg * 16384 + n) / 2 ^ 22 = w by omega]
theorem pack_s {w sg n : Nat} (hw : w ≤ 12) (hs : sg < 256) (hn : n < 16384) : (nI (w * 4194304 + sg * 16384 + n) >>> ((14 : Int32) &&& 31)) &&& 255 = nI sg := by
  rw [pk_shrN (by omega) _ 14 (by decide), pk_andN (by omega) 8 (by decide), show (w * 4194304 + sg * 16384 + n) / 2 ^ 14 % 2 ^ 8 = sg by omega]
theorem pack_n {w sg n : Nat} (hw : w ≤ 12) (hs : sg < 256) (hn : n < 16384) : nI (w * 4194304 + sg * 16384 + n) &&& 16383 = nI n := by
  rw [pk_andN (by omega) 14 (by decide), show (w * 4194304 + sg * 16384 + n) % 2 ^ 14 = n by omega]
theorem c_agrees {Q : Int32 → Prop} {w sg n : Nat} {v : Int32} (hw : w ≤ 12) (hs : sg = 61 ∨ sg = 60 ∨ sg = 62) (hn : n ≤ 9999) (h : Q (bB (cmpB v sg n))) : wX4_agrees Q (nI (w * 4194304 + sg * 16384 + n)) v := by
  unfold wX4_agrees
  rw [pack_s hw (by omega) (by omega), pack_n hw (by omega) (by omega)]
  unfold cmpB at h
  rcases hs with e | e | e <;> subst e
  · refine ⟨fun q => absurd q (by decide), fun q => absurd q (by decide), fun _ => ip_split' (fun c => ?_) (fun c => ?_)⟩
    · have e : bB (if 61 = 60 then decide (¬ nI n ≤ v) else if 61 = 62 then decide (¬ v ≤ nI n) else decide (v = nI n)) = 1 := by simp [bB, c]
      rw [e] at h; exact h
    · have e : bB (if 61 = 60 then decide (¬ nI n ≤ v) else if 61 = 62 then decide (¬ v ≤ nI n) else decide (v = nI n)) = 0 := by simp [bB, c]
      rw [e] at h; exact h
  · refine ⟨fun _ => ip_split (fun c => ?_) (fun c => ?_), fun q => absurd q (by decide), fun q => absurd rfl q.1⟩
    · have e : bB (if 60 = 60 then decide (¬ nI n ≤ v) else if 60 = 62 then decide (¬ v ≤ nI n) else decide (v = nI n)) = 0 := by rw [if_pos rfl]; unfold bB; rw [if_neg (by simp only [decide_eq_true_eq]; exact fun q => q c)]
      rw [e] at h; exact h
    · have e : bB (if 60 = 60 then decide (¬ nI n ≤ v) else if 60 = 62 then decide (¬ v ≤ nI n) else decide (v = nI n)) = 1 := by rw [if_pos rfl]; unfold bB; rw [if_pos (decide_eq_true c)]
      rw [e] at h; exact h
  · refine ⟨fun q => absurd q (by decide), fun _ => ip_split (fun c => ?_) (fun c => ?_), fun q => absurd rfl q.2⟩
    · have e : bB (if 62 = 60 then decide (¬ nI n ≤ v) else if 62 = 62 then decide (¬ v ≤ nI n) else decide (v = nI n)) = 0 := by rw [if_neg (by decide), if_pos rfl]; unfold bB; rw [if_neg (by simp only [decide_eq_true_eq]; exact fun q => q c)]
      rw [e] at h; exact h
    · have e : bB (if 62 = 60 then decide (¬ nI n ≤ v) else if 62 = 62 then decide (¬ v ≤ nI n) else decide (v = nI n)) = 1 := by rw [if_neg (by decide), if_pos rfl]; unfold bB; rw [if_pos (decide_eq_true c)]
      rw [e] at h; exact h
/-- the pile behind one more step -/
def stepL (g : GU) (s : Nat) (x : Int32) (l : List Bool) : List Bool :=
  if x = -1 then (match l with | b :: r => (!b) :: r | [] => [])
  else if x = -2 then (match l with | b :: a :: r => (a && b) :: r | _ => [])
  else if x = -3 then (match l with | b :: a :: r => (a || b) :: r | _ => [])
  else cmpB (g.see s (x.toNatClampNeg / 4194304)) (x.toNatClampNeg / 16384 % 256) (x.toNatClampNeg % 16384) :: l
def runL (g : GU) (s : Nat) (st : Nat → Int32) : Nat → Nat → List Bool → List Bool
  | 0, _, l => l
  | m + 1, i, l => runL g s st m (i + 1) (stepL g s (st i) l)
def GU.holds (g : GU) (s : Nat) (r : OR) (k : Nat) : Bool := if oF r k = oT r k then true else (runL g s (oS r) (oT r k - oF r k) (oF r k) []).headD false
theorem stepR_neg {a b c d : Int32} (h : StepR a b c d) : (a = -1 ∨ a = -2 ∨ a = -3) ∨ ∃ w sg n : Nat, w ≤ 12 ∧ (sg = 61 ∨ sg = 60 ∨ sg = 62) ∧ n ≤ 9999 ∧ a = nI (w * 4194304 + sg * 16384 + n) ∧ b = nI (wordR w) ∧ c = nI sg ∧ d = nI n := by
  rcases h with h | h | h | h
  · exact Or.inl (Or.inl h.1)
  · exact Or.inl (Or.inr (Or.inl h.1))
  · exact Or.inl (Or.inr (Or.inr h.1))
  · exact Or.inr h
theorem stepL_cmp {g : GU} {s w sg n : Nat} {l : List Bool} (hw : w ≤ 12) (hs : sg < 256) (hn : n < 16384) : stepL g s (nI (w * 4194304 + sg * 16384 + n)) l = cmpB (g.see s w) sg n :: l := by
  have nn : ∀ z : Int32, z < 0 → ¬ nI (w * 4194304 + sg * 16384 + n) = z := fun z hz q => by
    rw [← q] at hz; exact nI_pos (by omega) hz
  unfold stepL
  rw [if_neg (nn (-1) (by decide)), if_neg (nn (-2) (by decide)), if_neg (nn (-3) (by decide)), nI_clamp (by omega), show (w * 4194304 + sg * 16384 + n) / 4194304 = w by omega, show (w * 4194304 + sg * 16384 + n) / 16384 % 256 = sg by omega, show (w * 4194304 + sg * 16384 + n) % 16384 = n by omega]
theorem c_holds_loop {Q : Int32 → Prop} {om : Nat → Option OR} {g : GU} (W : Wf g) {s k : Nat} {r : OR} {ln ac : Nat → Int32} (T : TxR r ln ac) (hs : s < g.size) (hk : k < oL r) : ∀ (m i : Nat) (l : List Bool), i + m = oT r k → l.length ≤ 20 → depOk (oS r) m i l.length = some 1 → Q (bB ((runL g s (oS r) m i l).headD false)) → wX2_holds_40 Q om (m + 1) (nI s) r (nI k) (nI (enc l)) (nI i) (nI g.hour) (nI g.size) (nI g.rows) (nI g.cols) g.fuel g.place g.str g.told g.chan g.level g.ridged g.sea := by
  have hl := T.ok.l
  have hn := T.ok.n
  obtain ⟨e1, e2, e3⟩ := T.ok.e k hk
  have vk := vp_in_nI hk (show oL r < 2 ^ 31 by omega)
  intro m
  induction m with
  | zero =>
    intro i l hi hl2 hd h
    refine ⟨vk, ip_T ?_ ?_⟩
    · rw [nI_clamp (by omega), e1]
      exact nI_le (by omega) (by omega)
    · unfold depOk at hd
      have hd1 : l.length = 1 := Option.some.inj hd
      match l, hd1 with
      | [b], _ =>
        have e : nI (enc [b]) = nI (2 * 0 + bN b) := rfl
        rw [e, bit_and1 (by omega)]
        have h' : Q (bB b) := h
        cases b
        · exact ip_F' (by decide) h'
        · exact ip_T' (by decide) h'
  | succ m ih =>
    intro i l hi hl2 hd h
    refine ⟨vk, ip_F ?_ ⟨vp_in_nI (show i < oN r by omega) (by omega), ?_⟩⟩
    · rw [nI_clamp (by omega), e1]
      exact nI_ge (by omega) (by omega)
    rw [nI_clamp (by omega)]
    unfold wX2_holds_156
    rw [nI_1]
    unfold depOk at hd
    unfold runL at h
    rcases stepR_neg (T.st i (by omega)) with e | ⟨w, sg, n, hw, hsg, hn9, ea, -, -, -⟩
    · rcases e with e | e | e
      · rw [e] at hd h ⊢
        rw [if_pos rfl] at hd
        match l with
        | [] => rw [if_neg (by simp)] at hd; exact absurd hd (by simp)
        | b :: q =>
          rw [if_pos (by simp)] at hd
          have hq : q.length + 1 ≤ 20 := hl2
          have hb : enc q < 2 ^ 20 := enc_lt20 (by omega)
          refine ⟨fun q => absurd q (by decide), fun q => absurd q (by decide), fun _ => ?_, fun q => absurd q (by decide)⟩
          have eb : nI (enc (b :: q)) ^^^ 1 = nI (enc ((!b) :: q)) := bit_not (by omega)
          rw [eb]
          exact ih (i + 1) ((!b) :: q) (by omega) hl2 hd h
      · rw [e] at hd h ⊢
        rw [if_neg (by decide), if_pos (Or.inl rfl)] at hd
        match l with
        | [] => rw [if_neg (by simp)] at hd; exact absurd hd (by simp)
        | [b] => rw [if_neg (by simp)] at hd; exact absurd hd (by simp)
        | b :: a :: q =>
          rw [if_pos (by simp)] at hd
          have hq : q.length + 1 + 1 ≤ 20 := hl2
          have hb : enc q < 2 ^ 20 := enc_lt20 (by omega)
          refine ⟨fun q => absurd q (by decide), fun _ => ?_, fun q => absurd q (by decide), fun q => absurd q (by decide)⟩
          have eb : (nI (enc (b :: a :: q)) >>> ((1 : Int32) &&& 31)) &&& (nI (enc (b :: a :: q)) ||| (-2 : Int32)) = nI (enc ((a && b) :: q)) := bit_and (by omega)
          rw [eb]
          exact ih (i + 1) ((a && b) :: q) (by omega) (by show q.length + 1 ≤ 20; omega) hd h
      · rw [e] at hd h ⊢
        rw [if_neg (by decide), if_pos (Or.inr rfl)] at hd
        match l with
        | [] => rw [if_neg (by simp)] at hd; exact absurd hd (by simp)
        | [b] => rw [if_neg (by simp)] at hd; exact absurd hd (by simp)
        | b :: a :: q =>
          rw [if_pos (by simp)] at hd
          have hq : q.length + 1 + 1 ≤ 20 := hl2
          have hb : enc q < 2 ^ 20 := enc_lt20 (by omega)
          refine ⟨fun _ => ?_, fun q => absurd q (by decide), fun q => absurd q (by decide), fun q => absurd q (by decide)⟩
          have eb : (nI (enc (b :: a :: q)) >>> ((1 : Int32) &&& 31)) ||| (nI (enc (b :: a :: q)) &&& 1) = nI (enc ((a || b) :: q)) := bit_or (by omega)
          rw [eb]
          exact ih (i + 1) ((a || b) :: q) (by omega) (by show q.length + 1 ≤ 20; omega) hd h
    · rw [ea] at hd h ⊢
      have nn : ∀ z : Int32, z < 0 → ¬ nI (w * 4194304 + sg * 16384 + n) = z := fun z hz q => by
        rw [← q] at hz; exact nI_pos (by omega) hz
      rw [if_neg (nn (-1) (by decide)), if_neg (fun q => q.elim (nn (-2) (by decide)) (nn (-3) (by decide)))] at hd
      by_cases hl20 : l.length < 20
      · rw [if_pos hl20] at hd
        have hb : enc l < 2 ^ 20 := enc_lt20 (by omega)
        refine ⟨fun q => absurd q (nn (-3) (by decide)), fun q => absurd q (nn (-2) (by decide)), fun q => absurd q (nn (-1) (by decide)), fun _ => ?_⟩
        unfold wX4_whatOf
        rw [pack_w hw (by omega) (by omega)]
        refine ip_sight W hs hw (c_agrees hw hsg hn9 ?_)
        rw [stepL_cmp hw (by omega) (by omega)] at h
        have go := ih (i + 1) (cmpB (g.see s w) sg n :: l) (by omega) (by show l.length + 1 ≤ 20; omega) hd h
        have eb : (nI (enc l) <<< ((1 : Int32) &&& 31)) ||| bB (cmpB (g.see s w) sg n) = nI (enc (cmpB (g.see s w) sg n :: l)) := bit_push (by omega)
        rw [← eb] at go
        unfold wX2_holds_153 wX2_holds_156
        rw [nI_1]
        cases hc : cmpB (g.see s w) sg n
        · rw [hc] at go; exact ip_T rfl go
        · rw [hc] at go; exact ip_F (by decide) go
      · rw [if_neg hl20] at hd; exact absurd hd (by simp)
theorem c_holds {Q : Int32 → Prop} {om : Nat → Option OR} {g : GU} (W : Wf g) {s k : Nat} {r : OR} {ln ac : Nat → Int32} (T : TxR r ln ac) (hs : s < g.size) (hk : k < oL r) (h : Q (bB (g.holds s r k))) : wX2_holds Q om (nI s) r (nI k) (nI g.hour) (nI g.size) (nI g.rows) (nI g.cols) g.fuel g.place g.str g.told g.chan g.level g.ridged g.sea := by
  have hl := T.ok.l
  have hn := T.ok.n
  obtain ⟨e1, e2, e3⟩ := T.ok.e k hk
  have vk := vp_in_nI hk (show oL r < 2 ^ 31 by omega)
  have go : wX2_holds_16 Q om (nI s) r (nI k) (nI (oF r k)) (nI g.hour) (nI g.size) (nI g.rows) (nI g.cols) g.fuel g.place g.str g.told g.chan g.level g.ridged g.sea := by
    unfold wX2_holds_16
    rw [nI_clamp (by omega), e1, nI_eq (by omega) (by omega)]
    unfold GU.holds at h
    refine ⟨vk, ip_split' (fun c => ⟨1, vk, ip_T ?_ (ip_T' (by decide) ?_)⟩) (fun c => ⟨oT r k - oF r k + 1, ?_⟩)⟩
    · rw [nI_clamp (by omega), e1]; exact nI_le (by omega) (by omega)
    · rw [if_pos c] at h; exact h
    · rw [if_neg c] at h
      exact c_holds_loop W T hs hk (oT r k - oF r k) (oF r k) [] (by omega) (by simp) (T.ok.d k hk (by omega)) h
  unfold wX2_holds
  refine ip_split' (fun c => ?_) (fun c => ?_)
  · have : k = 0 := by rw [show (0 : Int32) = nI 0 from rfl, nI_eq (by omega) (by omega)] at c; exact c
    subst this
    exact go
  · have k0 : k ≠ 0 := fun q => c (by rw [q]; rfl)
    have ek : nI k - 1 = nI (k - 1) := by rw [show (1 : Int32) = nI 1 from rfl, pk_sub (by omega)]
    obtain ⟨p1, -, -⟩ := T.ok.e (k - 1) (by omega)
    rw [ek, nI_clamp (by omega), p1]
    have ef : oF r k = oT r (k - 1) := by unfold oF oT; rw [if_neg k0]
    rw [ef] at go
    exact ⟨vp_in_nI (by omega) (by omega), go⟩
