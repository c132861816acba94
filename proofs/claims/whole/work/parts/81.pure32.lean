/-! PURE LEVEL 31: tokens of a text -/
abbrev isLet (x : Nat) : Prop := 97 ≤ x ∧ x ≤ 122
abbrev isDgt (x : Nat) : Prop := 48 ≤ x ∧ x ≤ 57
abbrev isSgn (x : Nat) : Prop := x = 40 ∨ x = 41 ∨ x = 58 ∨ x = 59 ∨ x = 60 ∨ x = 61 ∨ x = 62
abbrev isWs (x : Nat) : Prop := x = 10 ∨ x = 32
/-- the end of a run -/
def runF (P : Nat → Prop) [DecidablePred P] (b : Nat → Nat) : Nat → Nat → Nat
  | 0, p => p
  | m + 1, p => if P (b p) then runF P b m (p + 1) else p
theorem runF_s (P : Nat → Prop) [DecidablePred P] (b : Nat → Nat) (m p : Nat) : runF P b (m + 1) p = if P (b p) then runF P b m (p + 1) else p := rfl
theorem runF_spec (P : Nat → Prop) [DecidablePred P] (b : Nat → Nat) : ∀ m p, p ≤ runF P b m p ∧ runF P b m p ≤ p + m ∧ (∀ i, p ≤ i → i < runF P b m p → P (b i)) ∧ (runF P b m p < p + m → ¬ P (b (runF P b m p))) := by
  intro m
  induction m with
  | zero => intro p; exact ⟨Nat.le_refl _, Nat.le_refl _, fun i h1 h2 => absurd h2 (by show ¬ i < p; omega), fun h => absurd h (by show ¬ p < p + 0; omega)⟩
  | succ m ih =>
    intro p
    rw [runF_s]
    by_cases c : P (b p)
    · rw [if_pos c]
      obtain ⟨h1, h2, h3, h4⟩ := ih (p + 1)
      refine ⟨by omega, by omega, fun i a d => ?_, fun h => h4 (by omega)⟩
      by_cases e : i = p
      · subst e; exact c
      · exact h3 i (by omega) d
    · rw [if_neg c]
      exact ⟨Nat.le_refl _, by omega, fun i a d => absurd d (by omega), fun _ => c⟩
theorem runF_uniq (P : Nat → Prop) [DecidablePred P] (b : Nat → Nat) {m p e : Nat} (h1 : p ≤ e) (h2 : e ≤ p + m) (h3 : ∀ i, p ≤ i → i < e → P (b i)) (h4 : e < p + m → ¬ P (b e)) : runF P b m p = e := by
  obtain ⟨k1, k2, k3, k4⟩ := runF_spec P b m p
  by_cases c : runF P b m p < e
  · exact absurd (h3 _ k1 c) (k4 (by omega))
  · by_cases d : e < runF P b m p
    · exact absurd (k3 e h1 d) (h4 (by omega))
    · omega
def skP (b : Nat → Nat) (L p : Nat) : Nat := runF isWs b (L - p) p
def leE (b : Nat → Nat) (L q : Nat) : Nat := runF isLet b (L - q) q
def dgE (b : Nat → Nat) (L q : Nat) : Nat := runF isDgt b (L - q) q
def nuF (b : Nat → Nat) : Nat → Nat → Nat → Nat
  | 0, _, v => v
  | m + 1, q, v => nuF b m (q + 1) ((v * 10 + (b q - 48)) % 10000)
def tkO (b : Nat → Nat) (L p : Nat) : Nat := if L ≤ skP b L p then 257 else if isLet (b (skP b L p)) then tkW b (skP b L p) (leE b L (skP b L p) - skP b L p) else if isDgt (b (skP b L p)) then (if dgE b L (skP b L p) - skP b L p ≤ 4 then 256 else 258) else if isSgn (b (skP b L p)) then b (skP b L p) else 258
def nxO (b : Nat → Nat) (L p : Nat) : Nat := if L ≤ skP b L p then skP b L p else if isLet (b (skP b L p)) then leE b L (skP b L p) else if isDgt (b (skP b L p)) then dgE b L (skP b L p) else skP b L p + 1
def vlO (b : Nat → Nat) (L p : Nat) : Nat := nuF b (dgE b L (skP b L p) - skP b L p) (skP b L p) 0
theorem sk_spec {b : Nat → Nat} {L p : Nat} (hp : p ≤ L) : p ≤ skP b L p ∧ skP b L p ≤ L ∧ (∀ i, p ≤ i → i < skP b L p → isWs (b i)) ∧ (skP b L p < L → ¬ isWs (b (skP b L p))) := by
  obtain ⟨k1, k2, k3, k4⟩ := runF_spec isWs b (L - p) p
  exact ⟨k1, by unfold skP; omega, k3, fun h => k4 (by unfold skP at h; omega)⟩
theorem sk_step {b : Nat → Nat} {L p : Nat} (hp : p < L) (hw : isWs (b p)) : skP b L (p + 1) = skP b L p := by
  obtain ⟨k1, k2, k3, k4⟩ := sk_spec (b := b) (L := L) (p := p) (by omega)
  have ne : skP b L p ≠ p := fun e => by
    have := k4 (by omega)
    rw [e] at this
    exact this hw
  exact runF_uniq isWs b (by omega) (by omega) (fun i a d => k3 i (by omega) d) (fun h => k4 (by omega))
theorem sk_id {b : Nat → Nat} {L p : Nat} (hp : p < L) (hw : ¬ isWs (b p)) : skP b L p = p :=
  runF_uniq isWs b (Nat.le_refl _) (by omega) (fun i a d => absurd d (by omega)) (fun _ => hw)
theorem tk_sk {b : Nat → Nat} {L p : Nat} (hp : p ≤ L) : tkO b L (skP b L p) = tkO b L p ∧ nxO b L (skP b L p) = nxO b L p ∧ vlO b L (skP b L p) = vlO b L p ∧ skP b L (skP b L p) = skP b L p := by
  have e : skP b L (skP b L p) = skP b L p := by
    obtain ⟨k1, k2, k3, k4⟩ := sk_spec (b := b) hp
    by_cases c : skP b L p < L
    · exact sk_id c (k4 c)
    · have : skP b L p = L := by omega
      rw [this]
      exact runF_uniq isWs b (Nat.le_refl _) (by omega) (fun i a d => absurd d (by omega)) (fun h => absurd h (by omega))
  unfold tkO nxO vlO
  rw [e]
  exact ⟨rfl, rfl, rfl, rfl⟩
/-- the i-th token's start of search -/
def NO (b : Nat → Nat) (L : Nat) : Nat → Nat
  | 0 => 0
  | i + 1 => nxO b L (NO b L i)
theorem nx_spec {b : Nat → Nat} {L p : Nat} (hp : p ≤ L) : skP b L p ≤ nxO b L p ∧ nxO b L p ≤ L ∧ (skP b L p < L → skP b L p < nxO b L p) ∧ (tkO b L p < 20 → skP b L p + 2 ≤ nxO b L p) := by
  obtain ⟨k1, k2, k3, k4⟩ := sk_spec (b := b) hp
  unfold nxO tkO
  by_cases c : L ≤ skP b L p
  · rw [if_pos c, if_pos c]
    exact ⟨Nat.le_refl _, k2, fun h => absurd h (by omega), fun h => absurd h (by omega)⟩
  · rw [if_neg c, if_neg c]
    by_cases d : isLet (b (skP b L p))
    · rw [if_pos d, if_pos d]
      obtain ⟨l1, l2, l3, l4⟩ := runF_spec isLet b (L - skP b L p) (skP b L p)
      have ne : leE b L (skP b L p) ≠ skP b L p := fun e => by
        have e' : runF isLet b (L - skP b L p) (skP b L p) = skP b L p := e
        have := l4 (by rw [e']; omega)
        rw [e'] at this
        exact this d
      have l1' : skP b L p ≤ leE b L (skP b L p) := l1
      have l2' : leE b L (skP b L p) ≤ skP b L p + (L - skP b L p) := l2
      refine ⟨l1', by omega, fun _ => by omega, fun h => ?_⟩
      by_cases m6 : leE b L (skP b L p) - skP b L p ≤ 6
      · rcases tkW_ref (b := b) (q := skP b L p) m6 (fun k hk => l3 (skP b L p + k) (by omega) (by show skP b L p + k < leE b L (skP b L p); omega)) with ⟨e, -⟩ | ⟨-, e, -⟩
        · rw [e] at h; omega
        · omega
      · unfold tkW at h
        rw [if_neg m6] at h; omega
    · rw [if_neg d, if_neg d]
      by_cases f : isDgt (b (skP b L p))
      · rw [if_pos f, if_pos f]
        obtain ⟨l1, l2, l3, l4⟩ := runF_spec isDgt b (L - skP b L p) (skP b L p)
        have ne : dgE b L (skP b L p) ≠ skP b L p := fun e => by
          have e' : runF isDgt b (L - skP b L p) (skP b L p) = skP b L p := e
          have := l4 (by rw [e']; omega)
          rw [e'] at this
          exact this f
        have l1' : skP b L p ≤ dgE b L (skP b L p) := l1
        have l2' : dgE b L (skP b L p) ≤ skP b L p + (L - skP b L p) := l2
        refine ⟨l1', by omega, fun _ => by omega, fun h => ?_⟩
        split at h <;> omega
      · rw [if_neg f, if_neg f]
        refine ⟨by omega, by omega, fun _ => by omega, fun h => ?_⟩
        split at h
        · rename_i g
          omega
        · omega
theorem tk_kind {b : Nat → Nat} {L p : Nat} : (tkO b L p = 257 ∧ L ≤ skP b L p) ∨ (skP b L p < L ∧ (tkO b L p < 20 ∨ tkO b L p = 256 ∨ tkO b L p = 258 ∨ isSgn (tkO b L p))) := by
  unfold tkO
  by_cases c : L ≤ skP b L p
  · rw [if_pos c]; exact Or.inl ⟨rfl, c⟩
  · rw [if_neg c]
    refine Or.inr ⟨by omega, ?_⟩
    split
    · unfold tkW
      split
      · rcases findW_cases (b := b) (q := skP b L p) (m := leE b L (skP b L p) - skP b L p) 20 0 with ⟨h1, -⟩ | ⟨i, h1, h2, h3, h4⟩
        · rw [h1]; exact Or.inr (Or.inr (Or.inl rfl))
        · rw [h4]; exact Or.inl (by omega)
      · exact Or.inr (Or.inr (Or.inl rfl))
    · split
      · split
        · exact Or.inr (Or.inl rfl)
        · exact Or.inr (Or.inr (Or.inl rfl))
      · split
        · rename_i g; exact Or.inr (Or.inr (Or.inr g))
        · exact Or.inr (Or.inr (Or.inl rfl))
def TKo (b : Nat → Nat) (L i : Nat) : Nat := tkO b L (NO b L i)
def PLo (b : Nat → Nat) (L i : Nat) : Nat := skP b L (NO b L i)
def VLo (b : Nat → Nat) (L i : Nat) : Nat := vlO b L (NO b L i)
theorem NO_le {b : Nat → Nat} {L : Nat} : ∀ i, NO b L i ≤ L := by
  intro i
  induction i with
  | zero => exact Nat.zero_le _
  | succ i ih => exact (nx_spec ih).2.1
theorem PL_le {b : Nat → Nat} {L i : Nat} : NO b L i ≤ PLo b L i ∧ PLo b L i ≤ L := ⟨(sk_spec (NO_le i)).1, (sk_spec (NO_le i)).2.1⟩
theorem PL_s {b : Nat → Nat} {L i : Nat} : PLo b L i ≤ PLo b L (i + 1) ∧ (TKo b L i ≠ 257 → PLo b L i + 1 ≤ PLo b L (i + 1)) ∧ (TKo b L i < 20 → PLo b L i + 2 ≤ PLo b L (i + 1)) := by
  obtain ⟨n1, n2, n3, n4⟩ := nx_spec (b := b) (L := L) (p := NO b L i) (NO_le i)
  have h : NO b L (i + 1) ≤ PLo b L (i + 1) := PL_le.1
  have h' : nxO b L (NO b L i) ≤ PLo b L (i + 1) := h
  have n1' : PLo b L i ≤ nxO b L (NO b L i) := n1
  refine ⟨by omega, fun t => ?_, fun t => ?_⟩
  · rcases tk_kind (b := b) (L := L) (p := NO b L i) with ⟨e, -⟩ | ⟨e, -⟩
    · exact absurd e t
    · have : PLo b L i < nxO b L (NO b L i) := n3 e
      omega
  · have : PLo b L i + 2 ≤ nxO b L (NO b L i) := n4 t
    omega
theorem TK_end {b : Nat → Nat} {L i : Nat} (h : TKo b L i = 257) : PLo b L i = L := by
  rcases tk_kind (b := b) (L := L) (p := NO b L i) with ⟨-, e⟩ | ⟨-, e⟩
  · have : L ≤ PLo b L i := e
    have := (PL_le (b := b) (L := L) (i := i)).2
    omega
  · have h' : tkO b L (NO b L i) = 257 := h
    rw [h'] at e
    exact absurd e (by decide)
