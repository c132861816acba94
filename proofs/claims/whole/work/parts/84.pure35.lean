/-! PURE LEVEL 34: the grammar of a term; the class reads it -/
abbrev PR : Type := Bool × Nat × List Int32
def cmpP (tk vl : Nat → Nat) (j : Nat) : PR := if tk j ≤ 12 then (if tk (j + 1) = 60 ∨ tk (j + 1) = 61 ∨ tk (j + 1) = 62 then (if tk (j + 2) = 256 then (true, j + 3, [nI (tk j * 4194304 + tk (j + 1) * 16384 + vl (j + 2))]) else (false, j + 2, [])) else (false, j + 1, [])) else (false, j, [])
def parP (tk : Nat → Nat) (r : PR) : PR := if r.1 = true then (if tk r.2.1 = 41 then (true, r.2.1 + 1, r.2.2) else (false, r.2.1, r.2.2)) else (false, r.2.1, r.2.2)
def baseP (tk vl : Nat → Nat) (T : Nat → PR) (j : Nat) : PR := if tk j = 40 then parP tk (T (j + 1)) else cmpP tk vl j
def oneP (tk vl : Nat → Nat) (T : Nat → PR) (i : Nat) : PR := if tk i = 19 then (if (baseP tk vl T (i + 1)).1 = true then (true, (baseP tk vl T (i + 1)).2.1, (baseP tk vl T (i + 1)).2.2 ++ [-1]) else (false, (baseP tk vl T (i + 1)).2.1, [])) else baseP tk vl T i
def lopP (tk : Nat → Nat) (w : Nat) (c : Int32) (E : Nat → PR) : Nat → Nat → List Int32 → PR
  | 0, i, st => (true, i, st)
  | f + 1, i, st => if tk i = w then (if (E (i + 1)).1 = true then lopP tk w c E f (E (i + 1)).2.1 (st ++ ((E (i + 1)).2.2 ++ [c])) else (false, (E (i + 1)).2.1, st)) else (true, i, st)
theorem lopP_s (tk : Nat → Nat) (w : Nat) (c : Int32) (E : Nat → PR) (f i : Nat) (st : List Int32) : lopP tk w c E (f + 1) i st = if tk i = w then (if (E (i + 1)).1 = true then lopP tk w c E f (E (i + 1)).2.1 (st ++ ((E (i + 1)).2.2 ++ [c])) else (false, (E (i + 1)).2.1, st)) else (true, i, st) := rfl
def seqP (tk : Nat → Nat) (w : Nat) (c : Int32) (E : Nat → PR) (i : Nat) : PR := if (E i).1 = true then lopP tk w c E 401 (E i).2.1 (E i).2.2 else (false, (E i).2.1, (E i).2.2)
def tmP (tk vl : Nat → Nat) : Nat → Nat → PR
  | 0, i => (false, i, [])
  | d + 1, i => seqP tk 17 (-3) (seqP tk 18 (-2) (oneP tk vl (tmP tk vl d))) i
/-- never behind the end, never back; a step a token at most -/
def Pg (n : Nat) (E : Nat → PR) : Prop := ∀ i, i ≤ n → i ≤ (E i).2.1 ∧ (E i).2.1 ≤ n ∧ ((E i).1 = true → i + 1 ≤ (E i).2.1 ∧ i + (E i).2.2.length ≤ (E i).2.1)
def Ed (n : Nat) (tk : Nat → Nat) : Prop := n ≤ 400 ∧ tk n = 257 ∧ ∀ j, j < n → tk j ≠ 257
theorem Ed.lt {n i : Nat} {tk : Nat → Nat} (h : Ed n tk) (hi : i ≤ n) (ht : tk i ≠ 257) : i < n := by
  by_cases e : i = n
  · subst e; exact absurd h.2.1 ht
  · omega
theorem cmp_pg {n : Nat} {tk vl : Nat → Nat} (H : Ed n tk) : Pg n (cmpP tk vl) := by
  intro i hi
  unfold cmpP
  by_cases c : tk i ≤ 12
  · have l1 := H.lt hi (by omega)
    rw [if_pos c]
    by_cases d : tk (i + 1) = 60 ∨ tk (i + 1) = 61 ∨ tk (i + 1) = 62
    · have l2 := H.lt (i := i + 1) (by omega) (by omega)
      rw [if_pos d]
      by_cases e : tk (i + 2) = 256
      · have l3 := H.lt (i := i + 2) (by omega) (by omega)
        rw [if_pos e]
        exact ⟨by show i ≤ i + 3; omega, by show i + 3 ≤ n; omega, fun _ => ⟨by show i + 1 ≤ i + 3; omega, by show i + 1 ≤ i + 3; omega⟩⟩
      · rw [if_neg e]
        exact ⟨by show i ≤ i + 2; omega, by show i + 2 ≤ n; omega, fun q => absurd q (by simp)⟩
    · rw [if_neg d]
      exact ⟨by show i ≤ i + 1; omega, by show i + 1 ≤ n; omega, fun q => absurd q (by simp)⟩
  · rw [if_neg c]
    exact ⟨Nat.le_refl _, hi, fun q => absurd q (by simp)⟩
theorem base_pg {n : Nat} {tk vl : Nat → Nat} {T : Nat → PR} (H : Ed n tk) (hT : Pg n T) : Pg n (baseP tk vl T) := by
  intro i hi
  unfold baseP
  by_cases c : tk i = 40
  · have l1 := H.lt hi (by omega)
    rw [if_pos c]
    obtain ⟨a1, a2, a3⟩ := hT (i + 1) (by omega)
    unfold parP
    by_cases d : (T (i + 1)).1 = true
    · rw [if_pos d]
      obtain ⟨a4, a5⟩ := a3 d
      by_cases e : tk (T (i + 1)).2.1 = 41
      · have l2 := H.lt a2 (by omega)
        rw [if_pos e]
        exact ⟨by show i ≤ (T (i + 1)).2.1 + 1; omega, by show (T (i + 1)).2.1 + 1 ≤ n; omega, fun _ => ⟨by show i + 1 ≤ (T (i + 1)).2.1 + 1; omega, by show i + (T (i + 1)).2.2.length ≤ (T (i + 1)).2.1 + 1; omega⟩⟩
      · rw [if_neg e]
        exact ⟨by show i ≤ (T (i + 1)).2.1; omega, a2, fun q => absurd q (by simp)⟩
    · rw [if_neg d]
      exact ⟨by show i ≤ (T (i + 1)).2.1; omega, a2, fun q => absurd q (by simp)⟩
  · rw [if_neg c]
    exact cmp_pg H i hi
theorem one_pg {n : Nat} {tk vl : Nat → Nat} {T : Nat → PR} (H : Ed n tk) (hT : Pg n T) : Pg n (oneP tk vl T) := by
  intro i hi
  unfold oneP
  by_cases c : tk i = 19
  · have l1 := H.lt hi (by omega)
    rw [if_pos c]
    obtain ⟨a1, a2, a3⟩ := base_pg (vl := vl) H hT (i + 1) (by omega)
    by_cases d : (baseP tk vl T (i + 1)).1 = true
    · rw [if_pos d]
      obtain ⟨a4, a5⟩ := a3 d
      refine ⟨by show i ≤ (baseP tk vl T (i + 1)).2.1; omega, a2, fun _ => ⟨by show i + 1 ≤ (baseP tk vl T (i + 1)).2.1; omega, ?_⟩⟩
      show i + ((baseP tk vl T (i + 1)).2.2 ++ [-1]).length ≤ (baseP tk vl T (i + 1)).2.1
      rw [List.length_append]
      show i + ((baseP tk vl T (i + 1)).2.2.length + 1) ≤ _
      omega
    · rw [if_neg d]
      exact ⟨by show i ≤ (baseP tk vl T (i + 1)).2.1; omega, a2, fun q => absurd q (by simp)⟩
  · rw [if_neg c]
    exact base_pg H hT i hi
theorem lop_pg {n w : Nat} {tk : Nat → Nat} {c : Int32} {E : Nat → PR} (H : Ed n tk) (hw : w < 256) (hE : Pg n E) : ∀ (f i i0 : Nat) (st : List Int32), i ≤ n → i0 + 1 ≤ i → i0 + st.length ≤ i → i0 ≤ (lopP tk w c E f i st).2.1 ∧ i ≤ (lopP tk w c E f i st).2.1 ∧ (lopP tk w c E f i st).2.1 ≤ n ∧ ((lopP tk w c E f i st).1 = true → i0 + 1 ≤ (lopP tk w c E f i st).2.1 ∧ i0 + (lopP tk w c E f i st).2.2.length ≤ (lopP tk w c E f i st).2.1) := by
  intro f
  induction f with
  | zero => intro i i0 st h1 h2 h3; exact ⟨by show i0 ≤ i; omega, Nat.le_refl _, h1, fun _ => ⟨h2, h3⟩⟩
  | succ f ih =>
    intro i i0 st h1 h2 h3
    rw [lopP_s]
    by_cases a : tk i = w
    · have l1 := H.lt h1 (by omega)
      rw [if_pos a]
      obtain ⟨e1, e2, e3⟩ := hE (i + 1) (by omega)
      by_cases d : (E (i + 1)).1 = true
      · rw [if_pos d]
        obtain ⟨e4, e5⟩ := e3 d
        obtain ⟨k1, k2, k3, k4⟩ := ih (E (i + 1)).2.1 i0 (st ++ ((E (i + 1)).2.2 ++ [c])) e2 (by omega) (by
          rw [List.length_append, List.length_append]
          show i0 + (st.length + ((E (i + 1)).2.2.length + 1)) ≤ _
          omega)
        exact ⟨k1, by omega, k3, k4⟩
      · rw [if_neg d]
        exact ⟨by show i0 ≤ (E (i + 1)).2.1; omega, by show i ≤ (E (i + 1)).2.1; omega, e2, fun q => absurd q (by simp)⟩
    · rw [if_neg a]
      exact ⟨by show i0 ≤ i; omega, Nat.le_refl _, h1, fun _ => ⟨h2, h3⟩⟩
theorem seq_pg {n w : Nat} {tk : Nat → Nat} {c : Int32} {E : Nat → PR} (H : Ed n tk) (hw : w < 256) (hE : Pg n E) : Pg n (seqP tk w c E) := by
  intro i hi
  obtain ⟨e1, e2, e3⟩ := hE i hi
  unfold seqP
  by_cases d : (E i).1 = true
  · rw [if_pos d]
    obtain ⟨e4, e5⟩ := e3 d
    obtain ⟨k1, k2, k3, k4⟩ := lop_pg (c := c) H hw hE 401 (E i).2.1 i (E i).2.2 e2 e4 e5
    exact ⟨k1, k3, k4⟩
  · rw [if_neg d]
    exact ⟨e1, e2, fun q => absurd q (by simp)⟩
theorem tm_pg {n : Nat} {tk vl : Nat → Nat} (H : Ed n tk) : ∀ d, Pg n (tmP tk vl d) := by
  intro d
  induction d with
  | zero => intro i hi; exact ⟨Nat.le_refl _, hi, fun q => absurd q (by simp [tmP])⟩
  | succ d ih => exact seq_pg H (by omega) (seq_pg H (by omega) (one_pg H ih))
/-- steps kept behind those that were there -/
def SpR (sn : Nat) (l : List Int32) (st st' : Nat → Int32) : Prop := (∀ k, k < sn → st' k = st k) ∧ ∀ k, k < l.length → st' (sn + k) = l.getD k 0
theorem SpR.nil {sn : Nat} {st : Nat → Int32} : SpR sn [] st st := ⟨fun _ _ => rfl, fun k hk => absurd hk (by simp)⟩
theorem SpR.app {sn : Nat} {l1 l2 : List Int32} {st st1 st2 : Nat → Int32} (h : SpR sn l1 st st1) (k : SpR (sn + l1.length) l2 st1 st2) : SpR sn (l1 ++ l2) st st2 := by
  refine ⟨fun j hj => (k.1 j (by omega)).trans (h.1 j hj), fun j hj => ?_⟩
  rw [List.length_append] at hj
  by_cases c : j < l1.length
  · rw [k.1 (sn + j) (by omega), h.2 j c]
    simp [List.getD_eq_getElem?_getD, List.getElem?_append_left c]
  · have e := k.2 (j - l1.length) (by omega)
    rw [show sn + l1.length + (j - l1.length) = sn + j by omega] at e
    rw [e]
    simp [List.getD_eq_getElem?_getD, List.getElem?_append_right (Nat.le_of_not_lt c)]
theorem SpR.one {sn : Nat} {st : Nat → Int32} {x : Int32} : SpR sn [x] st (upd st sn x) := ⟨fun k hk => pk_un (by omega), fun k hk => by
  have : k = 0 := by
    have : k < 1 := hk
    omega
  subst this
  exact pk_us⟩
theorem c_addStep {Q : Int32 → (Nat → Int32) → Prop} {x : Int32} {sn : Nat} {st : Nat → Int32} (h : sn < 400) (hQ : Q (nI (sn + 1)) (upd st sn x)) : wX5_addStep Q x (nI sn) st := by
  unfold wX5_addStep
  refine ip_F (nI_ge (a := sn) (b := 400) h (by omega)) ⟨vp_in_nI h (by omega), ?_⟩
  rw [nI_clamp (by omega), nI_1]
  exact hQ
theorem c_take {Q : Int32 → Int32 → Prop} {n i c : Nat} {tk : Nat → Nat} {tkA : Nat → Int32} (H : Ed n tk) (htk : ∀ j, j ≤ n → tkA j = nI (tk j) ∧ tk j < 1000) (hi : i ≤ n) (hc : c < 257) (h1 : tk i = c → Q 1 (nI (i + 1))) (h0 : tk i ≠ c → Q 0 (nI i)) : wX5_take Q (nI c) (nI (n + 1)) (nI i) tkA := by
  have hn := H.1
  unfold wX5_take
  obtain ⟨e, e2⟩ := htk i hi
  refine ip_F (nI_ge (by omega) (by omega)) ⟨vp_in_nI (by omega) (by omega), ?_⟩
  rw [nI_clamp (by omega), e, nI_eq (by omega) (by omega), nI_1]
  refine ip_split' (fun d => ip_F' (by rw [show (257 : Int32) = nI 257 from rfl, nI_eq (by omega) (by omega)]; omega) (h1 d)) (fun d => h0 d)
theorem c_token {Q : Int32 → Prop} {n i : Nat} {tk : Nat → Nat} {tkA : Nat → Int32} (H : Ed n tk) (htk : ∀ j, j ≤ n → tkA j = nI (tk j) ∧ tk j < 1000) (hi : i ≤ n) (h : Q (nI (tk i))) : wX5_token Q (nI (n + 1)) (nI i) tkA := by
  have hn := H.1
  unfold wX5_token
  refine ip_F (nI_ge (by omega) (by omega)) ⟨vp_in_nI (by omega) (by omega), ?_⟩
  rw [nI_clamp (by omega), (htk i hi).1]
  exact h
theorem c_takeNumber {Q : Int32 → Int32 → Prop} {n i : Nat} {tk vl : Nat → Nat} {tkA vlA : Nat → Int32} (H : Ed n tk) (htk : ∀ j, j ≤ n → tkA j = nI (tk j) ∧ tk j < 1000) (hvl : ∀ j, j ≤ n → tk j = 256 → vlA j = nI (vl j)) (hi : i ≤ n) (h1 : tk i = 256 → Q (nI (vl i)) (nI (i + 1))) (h0 : tk i ≠ 256 → Q (-1) (nI i)) : wX5_takeNumber Q (nI (n + 1)) (nI i) tkA vlA := by
  have hn := H.1
  unfold wX5_takeNumber
  obtain ⟨e, e2⟩ := htk i hi
  refine ip_F (nI_ge (by omega) (by omega)) ⟨vp_in_nI (by omega) (by omega), ?_⟩
  rw [nI_1, nI_pred, nI_clamp (by omega), e, show (256 : Int32) = nI 256 from rfl, nI_eq (by omega) (by omega)]
  refine ip_split (fun d => ⟨vp_in_nI (by omega) (by omega), ?_⟩) (fun d => h0 d)
  rw [hvl i hi d]
  exact h1 d
theorem pack_c {w sg n : Nat} (hw : w ≤ 12) (hs : sg < 256) (hn : n < 16384) : ((nI w <<< ((22 : Int32) &&& 31)) ||| (nI sg <<< ((14 : Int32) &&& 31))) ||| nI n = nI (w * 4194304 + sg * 16384 + n) := by
  rw [pk_shlN _ 22 (by decide) (by omega), pk_shlN _ 14 (by decide) (by omega)]
  have e1 : nI (w * 2 ^ 22) ||| nI (sg * 2 ^ 14) = nI (w * 4194304 + sg * 16384) := by
    refine nI_of_bv ?_ (by omega)
    rw [Int32.toBitVec_or, BitVec.toNat_or, nI_bv (by omega), nI_bv (by omega)]
    rw [show w * 2 ^ 22 = 2 ^ 22 * w by omega, Nat.two_pow_add_eq_or_of_lt (i := 22) (b := sg * 2 ^ 14) (by omega) w |>.symm]
  rw [e1]
  refine nI_of_bv ?_ (by omega)
  rw [Int32.toBitVec_or, BitVec.toNat_or, nI_bv (by omega), nI_bv (by omega)]
  rw [show w * 4194304 + sg * 16384 = 2 ^ 14 * (w * 256 + sg) by omega, (Nat.two_pow_add_eq_or_of_lt (i := 14) (b := n) (by omega) (w * 256 + sg)).symm]
