/-! PURE LEVEL 32: the reference's next token; the class's row of tokens -/
def RTk (b : Nat → Nat) (L p : Nat) (tok nu sg wd : Int32) : Prop :=
  (tkO b L p = 257 ∧ tok = 0) ∨ (tkO b L p = 256 ∧ tok = 1 ∧ nu = nI (vlO b L p)) ∨ (isSgn (tkO b L p) ∧ tok = 2 ∧ sg = nI (tkO b L p)) ∨ (tkO b L p < 20 ∧ tok = 3 ∧ wd = nI (wordR (tkO b L p))) ∨ (tkO b L p = 258 ∧ tok = 4)
def BY (b : Nat → Nat) (L : Nat) (f : Nat → Int32) : Prop := L ≤ 400 ∧ ∀ p, p < L → f p = nI (b p) ∧ b p < 256
theorem m_byteAt {Q : Int32 → Prop} {b : Nat → Nat} {L p : Nat} {all : Nat → Int32} (H : BY b L (fun p => all (10340 + p))) (hp : p ≤ L) (h0 : p = L → Q (-1)) (h1 : p < L → Q (nI (b p))) : wX11_byteAt Q (nI p) (nI L) all := by
  have hL := H.1
  unfold wX11_byteAt
  rw [nI_leI (by omega) (by omega)]
  refine ip_split (fun c => h0 (by omega)) (fun c => ?_)
  rw [show (10340 : Int32) + nI p = nI (10340 + p) from nI_add 10340 p, nI_clamp (by omega), show all (10340 + p) = nI (b p) from (H.2 p (by omega)).1]
  exact ⟨vp_in_nI (by omega) (by omega), h1 (by omega)⟩
theorem m_isLetter {Q : Int32 → Prop} {x : Nat} (hx : x < 256) (h : Q (bI (isLet x))) : wX11_isLetter Q (nI x) := by
  unfold wX11_isLetter
  rw [show (97 : Int32) = nI 97 from rfl, show (122 : Int32) = nI 122 from rfl, nI_ltI (by omega) (by omega), nI_ltI (by omega) (by omega)]
  refine ip_split (fun c => ?_) (fun c => ip_split (fun d => ?_) (fun d => ?_))
  · rw [bI_F (by omega)] at h; exact h
  · rw [bI_F (by omega)] at h; exact h
  · rw [bI_T (by omega)] at h; exact h
theorem m_isDigit {Q : Int32 → Prop} {x : Nat} (hx : x < 256) (h : Q (bI (isDgt x))) : wX11_isDigit Q (nI x) := by
  unfold wX11_isDigit
  rw [show (48 : Int32) = nI 48 from rfl, show (57 : Int32) = nI 57 from rfl, nI_ltI (by omega) (by omega), nI_ltI (by omega) (by omega)]
  refine ip_split (fun c => ?_) (fun c => ip_split (fun d => ?_) (fun d => ?_))
  · rw [bI_F (by omega)] at h; exact h
  · rw [bI_F (by omega)] at h; exact h
  · rw [bI_T (by omega)] at h; exact h
theorem m_isSgn {Q : Int32 → Prop} {x : Nat} (hx : x < 256) (h : Q (bI (isSgn x))) : wX11_isSignByte Q (nI x) := by
  unfold wX11_isSignByte wX11_isSignByte_42
  have lit : ∀ z : Nat, z < 256 → ((nI x = nI z) ↔ x = z) := fun z hz => nI_eq (by omega) (by omega)
  refine ip_split (fun c => ?_) (fun c1 => ip_split (fun c => ?_) (fun c2 => ip_split (fun c => ?_) (fun c3 => ip_split (fun c => ?_) (fun c4 => ip_split (fun c => ?_) (fun c5 => ip_split (fun c => ?_) (fun c6 => ip_split' (fun c => ?_) (fun c7 => ?_)))))))
  · rw [bI_T (Or.inl ((lit 40 (by omega)).mp c))] at h; exact h
  · rw [bI_T (Or.inr (Or.inl ((lit 41 (by omega)).mp c)))] at h; exact h
  · rw [bI_T (Or.inr (Or.inr (Or.inl ((lit 58 (by omega)).mp c))))] at h; exact h
  · rw [bI_T (Or.inr (Or.inr (Or.inr (Or.inl ((lit 59 (by omega)).mp c)))))] at h; exact h
  · have := (lit 61 (by omega)).mp c
    rw [bI_T (by omega)] at h; exact h
  · have := (lit 60 (by omega)).mp c
    rw [bI_T (by omega)] at h; exact h
  · have := (lit 62 (by omega)).mp c
    rw [bI_T (by omega)] at h; exact h
  · have d1 : x ≠ 40 := fun q => c1 ((lit 40 (by omega)).mpr q)
    have d2 : x ≠ 41 := fun q => c2 ((lit 41 (by omega)).mpr q)
    have d3 : x ≠ 58 := fun q => c3 ((lit 58 (by omega)).mpr q)
    have d4 : x ≠ 59 := fun q => c4 ((lit 59 (by omega)).mpr q)
    have d5 : x ≠ 61 := fun q => c5 ((lit 61 (by omega)).mpr q)
    have d6 : x ≠ 60 := fun q => c6 ((lit 60 (by omega)).mpr q)
    have d7 : x ≠ 62 := fun q => c7 ((lit 62 (by omega)).mpr q)
    rw [bI_F (by omega)] at h; exact h
theorem m_word {Q : Int32 → Int32 → Int32 → Int32 → Int32 → Int32 → Prop} {b : Nat → Nat} {L q : Nat} {all : Nat → Int32} {tok nu sg wd : Int32} (H : BY b L (fun p => all (10340 + p))) (hq : q < L) (hl : isLet (b q)) (h : ∀ tok' wd', (tkW b q (leE b L q - q) = 258 ∧ tok' = 4) ∨ (tkW b q (leE b L q - q) < 20 ∧ tok' = 3 ∧ wd' = nI (wordR (tkW b q (leE b L q - q)))) → Q (nI (leE b L q)) (nI q) tok' nu sg wd') : ∃ j_, wX11_advance_77 Q j_ 0 (nI L) (nI q) (nI q) tok nu sg wd all := by
  have hL := H.1
  obtain ⟨l1, l2, l3, l4⟩ := runF_spec isLet b (L - q) q
  have l1' : q ≤ leE b L q := l1
  have l2' : leE b L q ≤ L := by have : leE b L q ≤ q + (L - q) := l2; omega
  refine ⟨L + 2 - q, ?_⟩
  have lp : ∀ (n m : Nat) (V : Int64), q + m + n = L + 1 → q + m ≤ leE b L q → (m ≤ 6 → V = lN (encG (fun k => b (q + k)) m)) → wX11_advance_77 Q (n + 1) V (nI L) (nI (q + m)) (nI q) tok nu sg wd all := by
    intro n
    induction n with
    | zero => intro m V h1 h2; omega
    | succ n ih =>
      intro m V h1 h2 h3
      have fin : leE b L q = q + m → (((nI (q + m) - nI q) ≤ (6 : Int32) → (wX11_wordOf (fun r_6 => (wX11_advance_162 Q r_6 (nI L) (nI (q + m)) (nI q) tok nu sg wd all)) V)) ∧ (¬ (nI (q + m) - nI q) ≤ (6 : Int32) → (wX11_advance_162 Q (99 : Int32) (nI L) (nI (q + m)) (nI q) tok nu sg wd all))) := by
        intro e
        rw [e, show q + m - q = m by omega] at h
        rw [pk_sub (by omega), show q + m - q = m by omega, show (6 : Int32) = nI 6 from rfl, nI_leI (by omega) (by omega)]
        have let' : ∀ k, k < m → 97 ≤ b (q + k) ∧ b (q + k) ≤ 122 := fun k hk => l3 (q + k) (by omega) (by show q + k < leE b L q; omega)
        refine ip_split (fun c => ?_) (fun c => ?_)
        · rw [h3 c]
          have hlt := encG_lt (f := fun k => b (q + k)) m let'
          have h32 : (32 : Nat) ^ m ≤ 32 ^ 6 := Nat.pow_le_pow_right (by omega) c
          have e32 : (32 : Nat) ^ 6 = 1073741824 := by decide
          refine m_wordOf (by omega) ?_
          unfold wX11_advance_162 wX11_advance_180
          rcases tkW_ref (b := b) (q := q) c let' with ⟨t1, t2⟩ | ⟨t1, t2, t3⟩
          · rw [t2]
            exact ip_T' (by decide) (h 4 _ (Or.inl ⟨t1, rfl⟩))
          · rw [t3]
            have w99 : wordR (tkW b q m) < 99 := by unfold wordR; split <;> (try split) <;> (try split) <;> (try split) <;> omega
            refine ip_F' (by rw [show (99 : Int32) = nI 99 from rfl, nI_eq (by omega) (by omega)]; omega) (h 3 _ (Or.inr ⟨t1, rfl, rfl⟩))
        · unfold wX11_advance_162 wX11_advance_180
          exact ip_T' rfl (h 4 _ (Or.inl ⟨by unfold tkW; rw [if_neg c], rfl⟩))
      refine m_byteAt H (by omega) (fun e => ?_) (fun e => m_isLetter (H.2 (q + m) (by omega)).2 ?_)
      · unfold wX11_isLetter
        refine ip_T (by decide) (ip_T rfl (fin (by omega)))
      · by_cases c : isLet (b (q + m))
        · rw [bI_T c]
          refine ip_F (by decide) ?_
          have lt : q + m < leE b L q := by
            by_cases z : q + m = leE b L q
            · have z' : runF isLet b (L - q) q = q + m := z.symm
              have := l4 (by rw [z']; omega)
              rw [z'] at this
              exact absurd c this
            · omega
          rw [pk_sub (by omega), show q + m - q = m by omega, show (7 : Int32) = nI 7 from rfl, nI_leI (by omega) (by omega)]
          unfold wX11_advance_125
          rw [nI_1]
          refine ip_split (fun d => ih (m + 1) V (by omega) (by omega) (fun x => absurd x (by omega))) (fun d => m_byteAt H (by omega) (fun z => absurd z (by omega)) (fun _ => ih (m + 1) _ (by omega) (by omega) (fun x => ?_)))
          rw [h3 (by omega), nI_l (by omega)]
          have : 96 ≤ b (q + m) := by omega
          show (32 : Int64) * lN (encG (fun k => b (q + k)) m) + lN (b (q + m)) - 96 = lN (32 * encG (fun k => b (q + k)) m + (b (q + m) - 96))
          rw [show (32 : Int64) = lN 32 from rfl, show (96 : Int64) = lN 96 from rfl, lN_mul, lN_add, lN_sub (by omega)]
          congr 1
          omega
        · rw [bI_F c]
          refine ip_T rfl (fin ?_)
          exact runF_uniq isLet b (by omega) (by omega) (fun i a d => l3 i a (by show i < leE b L q; omega)) (fun _ => c)
  have key := lp (L + 1 - q) 0 0 (by omega) (by omega) (fun _ => rfl)
  rw [show L + 1 - q + 1 = L + 2 - q by omega] at key
  exact key
theorem nuF_small {b : Nat → Nat} : ∀ (m q v : Nat), v < 10 ^ 4 → nuF b m q v < 10 ^ 4 := by
  intro m
  induction m with
  | zero => intro q v h; exact h
  | succ m ih => intro q v _; exact ih (q + 1) _ (Nat.mod_lt _ (by omega))
theorem nuF_s (b : Nat → Nat) : ∀ (m q v : Nat), nuF b (m + 1) q v = (nuF b m q v * 10 + (b (q + m) - 48)) % 10000 := by
  intro m
  induction m with
  | zero => intro q v; rfl
  | succ m ih =>
    intro q v
    show nuF b (m + 1) (q + 1) ((v * 10 + (b q - 48)) % 10000) = _
    rw [ih]
    show (nuF b m (q + 1) ((v * 10 + (b q - 48)) % 10000) * 10 + (b (q + 1 + m) - 48)) % 10000 = (nuF b m (q + 1) ((v * 10 + (b q - 48)) % 10000) * 10 + (b (q + (m + 1)) - 48)) % 10000
    rw [show q + 1 + m = q + (m + 1) by omega]
theorem nuF_bd {b : Nat → Nat} {q : Nat} (hd : ∀ k, isDgt (b (q + k)) ∨ True) : ∀ m, m ≤ 4 → (∀ k, k < m → isDgt (b (q + k))) → nuF b m q 0 < 10 ^ m ∧ (∀ m', m' + 1 = m → nuF b m q 0 = nuF b m' q 0 * 10 + (b (q + m') - 48)) := by
  intro m
  induction m with
  | zero => intro _ _; exact ⟨(show 0 < 1 by omega), fun m' h => absurd h (by omega)⟩
  | succ m ih =>
    intro h4 h
    obtain ⟨i1, -⟩ := ih (by omega) (fun k hk => h k (by omega))
    have d := h m (by omega)
    have : (10 : Nat) ^ (m + 1) ≤ 10 ^ 4 := Nat.pow_le_pow_right (by omega) h4
    have e4 : (10 : Nat) ^ 4 = 10000 := by decide
    rw [Nat.pow_succ] at this ⊢
    have e : nuF b (m + 1) q 0 = nuF b m q 0 * 10 + (b (q + m) - 48) := by
      rw [nuF_s, Nat.mod_eq_of_lt (by omega)]
    refine ⟨by rw [e]; omega, fun m' h' => ?_⟩
    have : m' = m := by omega
    subst this
    exact e
theorem m_number {Q : Int32 → Int32 → Int32 → Int32 → Int32 → Int32 → Prop} {b : Nat → Nat} {L q : Nat} {all : Nat → Int32} {tok sg wd : Int32} (H : BY b L (fun p => all (10340 + p))) (hq : q < L) (h : ∀ tok' nu', (dgE b L q - q ≤ 4 ∧ tok' = 1 ∧ nu' = nI (nuF b (dgE b L q - q) q 0)) ∨ (¬ dgE b L q - q ≤ 4 ∧ tok' = 4) → Q (nI (dgE b L q)) (nI q) tok' nu' sg wd) : ∃ j_, wX11_advance_198 Q j_ (nI L) (nI q) (nI q) tok 0 sg wd all := by
  have hL := H.1
  obtain ⟨l1, l2, l3, l4⟩ := runF_spec isDgt b (L - q) q
  have l1' : q ≤ dgE b L q := l1
  have l2' : dgE b L q ≤ L := by have : dgE b L q ≤ q + (L - q) := l2; omega
  refine ⟨L + 2 - q, ?_⟩
  have lp : ∀ (n m : Nat) (nu : Int32), q + m + n = L + 1 → q + m ≤ dgE b L q → (m ≤ 4 → nu = nI (nuF b m q 0)) → wX11_advance_198 Q (n + 1) (nI L) (nI (q + m)) (nI q) tok nu sg wd all := by
    intro n
    induction n with
    | zero => intro m nu h1 h2; omega
    | succ n ih =>
      intro m nu h1 h2 h3
      have fin : dgE b L q = q + m → (((nI (q + m) - nI q) ≤ (4 : Int32) → (wX11_advance_280 Q (1 : Int32) (nI L) (nI (q + m)) (nI q) tok nu sg wd all)) ∧ (¬ (nI (q + m) - nI q) ≤ (4 : Int32) → (wX11_advance_280 Q (4 : Int32) (nI L) (nI (q + m)) (nI q) tok nu sg wd all))) := by
        intro e
        rw [e, show q + m - q = m by omega] at h
        rw [pk_sub (by omega), show q + m - q = m by omega, show (4 : Int32) = nI 4 from rfl, nI_leI (by omega) (by omega)]
        exact ip_split (fun c => h 1 _ (Or.inl ⟨c, rfl, h3 c⟩)) (fun c => h 4 _ (Or.inr ⟨c, rfl⟩))
      refine m_byteAt H (by omega) (fun e => ?_) (fun e => m_isDigit (H.2 (q + m) (by omega)).2 ?_)
      · unfold wX11_isDigit
        refine ip_T (by decide) (ip_T rfl (fin (by omega)))
      · by_cases c : isDgt (b (q + m))
        · rw [bI_T c]
          refine ip_F (by decide) ?_
          have lt : q + m < dgE b L q := by
            by_cases z : q + m = dgE b L q
            · have z' : runF isDgt b (L - q) q = q + m := z.symm
              have := l4 (by rw [z']; omega)
              rw [z'] at this
              exact absurd c this
            · omega
          rw [pk_sub (by omega), show q + m - q = m by omega, show (4 : Int32) = nI 4 from rfl, nI_leI (by omega) (by omega)]
          unfold wX11_advance_248
          rw [nI_1]
          refine ip_split (fun d => ih (m + 1) nu (by omega) (by omega) (fun x => absurd x (by omega))) (fun d => m_byteAt H (by omega) (fun z => absurd z (by omega)) (fun _ => ih (m + 1) _ (by omega) (by omega) (fun x => ?_)))
          have dg : ∀ k, k < m + 1 → isDgt (b (q + k)) := fun k hk => l3 (q + k) (by omega) (by show q + k < dgE b L q; omega)
          have e := (nuF_bd (b := b) (q := q) (fun _ => Or.inr trivial) (m + 1) x dg).2 m rfl
          rw [h3 (by omega), e, show (10 : Int32) = nI 10 from rfl, show (48 : Int32) = nI 48 from rfl, pk_mul, nI_add, pk_sub (by omega)]
          congr 1
          omega
        · rw [bI_F c]
          refine ip_T rfl (fin ?_)
          exact runF_uniq isDgt b (by omega) (by omega) (fun i a d => l3 i a (by show i < dgE b L q; omega)) (fun _ => c)
  have key := lp (L + 1 - q) 0 0 (by omega) (by omega) (fun _ => rfl)
  rw [show L + 1 - q + 1 = L + 2 - q by omega] at key
  exact key
theorem m_advance {Q : Int32 → Int32 → Int32 → Int32 → Int32 → Int32 → Prop} {b : Nat → Nat} {L p : Nat} {all : Nat → Int32} {wh tok nu sg wd : Int32} (H : BY b L (fun p => all (10340 + p))) (hp : p ≤ L) (h : ∀ tok' nu' sg' wd', RTk b L p tok' nu' sg' wd' → Q (nI (nxO b L p)) (nI (skP b L p)) tok' nu' sg' wd') : wX11_advance Q (nI L) (nI p) wh tok nu sg wd all := by
  have hL := H.1
  refine ⟨L + 1 - p, ?_⟩
  have lp : ∀ (n x : Nat), x + n = L → skP b L x = skP b L p → wX11_advance_0 Q (n + 1) (nI L) (nI x) wh tok nu sg wd all := by
    intro n
    induction n with
    | zero =>
      intro x hx hs
      have e : x = L := by omega
      subst e
      have sl : skP b x p = x := by
        rw [← hs]
        exact runF_uniq isWs b (Nat.le_refl _) (by omega) (fun i a d => absurd d (by omega)) (fun h => absurd h (by omega))
      refine m_byteAt H (by omega) (fun _ => ip_F (by decide) (m_byteAt H (by omega) (fun _ => ip_F' (by decide) (m_byteAt H (by omega) (fun _ => ip_F (by decide) ?_) (fun z => absurd z (by omega)))) (fun z => absurd z (by omega)))) (fun z => absurd z (by omega))
      have key := h 0 nu sg wd (Or.inl ⟨by unfold tkO; rw [if_pos (by omega)], rfl⟩)
      unfold nxO at key
      rw [if_pos (by omega), sl] at key
      exact key
    | succ n ih =>
      intro x hx hs
      have bx := (H.2 x (by omega)).2
      have lit : ∀ z : Nat, z < 256 → ((nI (b x) = nI z) ↔ b x = z) := fun z hz => nI_eq (by omega) (by omega)
      refine m_byteAt H (by omega) (fun z => absurd z (by omega)) (fun _ => ip_split (fun c => ?_) (fun c1 => m_byteAt H (by omega) (fun z => absurd z (by omega)) (fun _ => ip_split' (fun c => ?_) (fun c2 => m_byteAt H (by omega) (fun z => absurd z (by omega)) (fun _ => ?_)))))
      · unfold wX11_advance_26
        rw [nI_1]
        exact ih (x + 1) (by omega) (by rw [sk_step (by omega) (Or.inl ((lit 10 (by omega)).mp c)), hs])
      · unfold wX11_advance_26
        rw [nI_1]
        exact ih (x + 1) (by omega) (by rw [sk_step (by omega) (Or.inr ((lit 32 (by omega)).mp c)), hs])
      · have nw : ¬ isWs (b x) := fun q => by
          rcases q with q | q
          · exact c1 ((lit 10 (by omega)).mpr q)
          · exact c2 ((lit 32 (by omega)).mpr q)
        have ex : skP b L p = x := by rw [← hs]; exact sk_id (by omega) nw
        unfold RTk nxO tkO vlO at h
        rw [ex] at h
        rw [if_neg (show ¬ L ≤ x by omega), if_neg (show ¬ L ≤ x by omega)] at h
        refine ip_T (nI_pos' (by omega)) (m_isLetter bx ?_)
        by_cases c : isLet (b x)
        · rw [bI_T c]
          rw [if_pos c, if_pos c] at h
          refine ip_F (by decide) (m_word H (by omega) c (fun tok' wd' q => h tok' nu sg wd' ?_))
          rcases q with ⟨q1, q2⟩ | ⟨q1, q2, q3⟩
          · exact Or.inr (Or.inr (Or.inr (Or.inr ⟨q1, q2⟩)))
          · exact Or.inr (Or.inr (Or.inr (Or.inl ⟨q1, q2, q3⟩)))
        · rw [bI_F c]
          rw [if_neg c, if_neg c] at h
          refine ip_T rfl (m_isDigit bx ?_)
          by_cases d : isDgt (b x)
          · rw [bI_T d]
            rw [if_pos d, if_pos d] at h
            refine ip_F (by decide) (m_number H (by omega) (fun tok' nu' q => h tok' nu' sg wd ?_))
            rcases q with ⟨q1, q2, q3⟩ | ⟨q1, q2⟩
            · rw [if_pos q1]; exact Or.inr (Or.inl ⟨rfl, q2, q3⟩)
            · rw [if_neg q1]; exact Or.inr (Or.inr (Or.inr (Or.inr ⟨rfl, q2⟩)))
          · rw [bI_F d]
            rw [if_neg d, if_neg d] at h
            refine ip_T rfl (m_isSgn bx ?_)
            unfold wX11_advance_314
            rw [nI_1]
            by_cases e : isSgn (b x)
            · rw [bI_T e]
              rw [if_pos e] at h
              exact ip_F (by decide) (h 2 nu _ wd (Or.inr (Or.inr (Or.inl ⟨e, rfl, rfl⟩))))
            · rw [bI_F e]
              rw [if_neg e] at h
              exact ip_T rfl (h 4 nu _ wd (Or.inr (Or.inr (Or.inr (Or.inr ⟨rfl, rfl⟩)))))
  have key := lp (L - p) p (by omega) rfl
  rw [show L - p + 1 = L + 1 - p by omega] at key
  exact key
