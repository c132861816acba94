/-! PURE LEVEL 30: words -/
def tbL : List Nat := [110, 111, 114, 116, 104, 32, 101, 97, 115, 116, 32, 32, 115, 111, 117, 116, 104, 32, 119, 101, 115, 116, 32, 32, 104, 111, 117, 114, 32, 32, 108, 101, 118, 101, 108, 32, 114, 105, 100, 103, 101, 32, 102, 117, 101, 108, 32, 32, 104, 101, 108, 100, 32, 32, 110, 101, 97, 114, 32, 32, 114, 111, 119, 32, 32, 32, 99, 111, 108, 117, 109, 110, 116, 111, 108, 100, 32, 32, 119, 97, 105, 116, 32, 32, 99, 117, 116, 32, 32, 32, 99, 97, 108, 108, 32, 32, 105, 102, 32, 32, 32, 32, 111, 114, 32, 32, 32, 32, 97, 110, 100, 32, 32, 32, 110, 111, 116, 32, 32, 32]
def tb (i : Nat) : Nat := tbL.getD i 0
theorem tch_tb : ∀ i, i < 120 → tch (nI i) = nI (tb i) := by decide +kernel
theorem tb_lt : ∀ i, i < 120 → tb i < 256 := by decide +kernel
def encG (f : Nat → Nat) : Nat → Nat
  | 0 => 0
  | m + 1 => 32 * encG f m + (f m - 96)
theorem encG_congr {f h : Nat → Nat} : ∀ m, (∀ k, k < m → f k = h k) → encG f m = encG h m := by
  intro m
  induction m with
  | zero => intro _; rfl
  | succ m ih =>
    intro e
    unfold encG
    rw [ih (fun k hk => e k (by omega)), e m (by omega)]
theorem encG_inj {f h : Nat → Nat} : ∀ m n, (∀ k, k < m → 97 ≤ f k ∧ f k ≤ 122) → (∀ k, k < n → 97 ≤ h k ∧ h k ≤ 122) → encG f m = encG h n → m = n ∧ ∀ k, k < m → f k = h k := by
  intro m
  induction m with
  | zero =>
    intro n _ h2 e
    cases n with
    | zero => exact ⟨rfl, fun k hk => absurd hk (by omega)⟩
    | succ n =>
      have := h2 n (by omega)
      unfold encG at e
      omega
  | succ m ih =>
    intro n h1 h2 e
    have a := h1 m (by omega)
    cases n with
    | zero => unfold encG at e; omega
    | succ n =>
      have b := h2 n (by omega)
      have e' : 32 * encG f m + (f m - 96) = 32 * encG h n + (h n - 96) := e
      obtain ⟨e1, e2⟩ := ih n (fun k hk => h1 k (by omega)) (fun k hk => h2 k (by omega)) (by omega)
      subst e1
      refine ⟨rfl, fun k hk => ?_⟩
      by_cases q : k = m
      · subst q; omega
      · exact e2 k (by omega)
theorem encG_lt {f : Nat → Nat} : ∀ m, (∀ k, k < m → 97 ≤ f k ∧ f k ≤ 122) → encG f m < 32 ^ m := by
  intro m
  induction m with
  | zero => intro _; show 0 < 1; omega
  | succ m ih =>
    intro h
    have a := h m (by omega)
    have b := ih (fun k hk => h k (by omega))
    unfold encG
    rw [Nat.pow_succ]
    omega
def lenT (j : Nat) : Nat := if tb (6 * j + 2) = 32 then 2 else if tb (6 * j + 3) = 32 then 3 else if tb (6 * j + 4) = 32 then 4 else if tb (6 * j + 5) = 32 then 5 else 6
def codT (j : Nat) : Nat := encG (fun k => tb (6 * j + k)) (lenT j)
theorem tb_let : ∀ j, j < 20 → 2 ≤ lenT j ∧ lenT j ≤ 6 ∧ (∀ k, k < lenT j → 97 ≤ tb (6 * j + k) ∧ tb (6 * j + k) ≤ 122) ∧ ∀ k, k < 6 → lenT j ≤ k → tb (6 * j + k) = 32 := by decide +kernel
def refW (V : Nat) : Nat := if V = 278194 then 0 else if V = 12769452 then 1 else if V = 19173605 then 2 else if V = 218284 then 3 else if V = 267652 then 4 else if V = 463922 then 5 else if V = 18935 then 6 else if V = 116807086 then 7 else if V = 15190664 then 8 else if V = 165492 then 9 else if V = 20436616 then 10 else if V = 759412 then 11 else if V = 671108 then 12 else if V = 754996 then 24 else if V = 3764 then 25 else if V = 99724 then 26 else if V = 294 then 30 else if V = 498 then 31 else if V = 1476 then 32 else if V = 14836 then 33 else 99
theorem refW_cod : ∀ j, j < 20 → refW (codT j) = wordR j := by decide +kernel
theorem cod_all : ∀ c, c ∈ [278194, 12769452, 19173605, 218284, 267652, 463922, 18935, 116807086, 15190664, 165492, 20436616, 759412, 671108, 754996, 3764, 99724, 294, 498, 1476, 14836] → ∃ j, j < 20 ∧ codT j = c := by decide +kernel
theorem refW_none {V : Nat} (h : ∀ j, j < 20 → V ≠ codT j) : refW V = 99 := by
  have n : ∀ c, c ∈ [278194, 12769452, 19173605, 218284, 267652, 463922, 18935, 116807086, 15190664, 165492, 20436616, 759412, 671108, 754996, 3764, 99724, 294, 498, 1476, 14836] → V ≠ c := fun c hc e => by
    obtain ⟨j, hj, ej⟩ := cod_all c hc
    exact h j hj (by rw [e, ej])
  unfold refW
  rw [if_neg (n 278194 (by decide)), if_neg (n 12769452 (by decide)), if_neg (n 19173605 (by decide)), if_neg (n 218284 (by decide)), if_neg (n 267652 (by decide)), if_neg (n 463922 (by decide)), if_neg (n 18935 (by decide)), if_neg (n 116807086 (by decide)), if_neg (n 15190664 (by decide)), if_neg (n 165492 (by decide)), if_neg (n 20436616 (by decide)), if_neg (n 759412 (by decide)), if_neg (n 671108 (by decide)), if_neg (n 754996 (by decide)), if_neg (n 3764 (by decide)), if_neg (n 99724 (by decide)), if_neg (n 294 (by decide)), if_neg (n 498 (by decide)), if_neg (n 1476 (by decide)), if_neg (n 14836 (by decide))]
theorem m_wordOf {Q : Int32 → Prop} {V : Nat} (hV : V < 2 ^ 31) (hQ : Q (nI (refW V))) : wX11_wordOf Q (lN V) := by
  have hy : ∀ (c k : Nat) (x : Int64), c < 2 ^ 31 → x = lN c → lg_cmp (lN V) x = 0 → refW c = k → Q (nI k) := fun c k x hc hx h hk => by
    have e : V = c := (lN_eq hV hc).mp (((lg_cmp_eq _ _).mp h).trans hx)
    subst e
    rw [← hk]; exact hQ
  have hn : ∀ (c : Nat) (x : Int64), x = lN c → ¬ lg_cmp (lN V) x = 0 → V ≠ c := fun c x hx h q => h ((lg_cmp_eq _ _).mpr (by rw [q, hx]))
  unfold wX11_wordOf wX11_four wX11_two
  refine ip_split' (fun h => hy 278194 0 ((((((32 : Int64) * ((104 : Int32) - (96 : Int32)).toInt64) + (111 : Int32).toInt64) - (96 : Int64)) * (1024 : Int64)) + ((((32 : Int64) * ((117 : Int32) - (96 : Int32)).toInt64) + (114 : Int32).toInt64) - (96 : Int64))) (by decide) (by decide) h (by decide)) (fun h => ?_)
  have n0 := hn 278194 ((((((32 : Int64) * ((104 : Int32) - (96 : Int32)).toInt64) + (111 : Int32).toInt64) - (96 : Int64)) * (1024 : Int64)) + ((((32 : Int64) * ((117 : Int32) - (96 : Int32)).toInt64) + (114 : Int32).toInt64) - (96 : Int64))) (by decide) h
  unfold wX11_wordOf_18 wX11_four wX11_two
  refine ip_split' (fun h => hy 12769452 1 (((((((((32 : Int64) * ((108 : Int32) - (96 : Int32)).toInt64) + (101 : Int32).toInt64) - (96 : Int64)) * (1024 : Int64)) + ((((32 : Int64) * ((118 : Int32) - (96 : Int32)).toInt64) + (101 : Int32).toInt64) - (96 : Int64))) * (32 : Int64)) + (108 : Int64)) - (96 : Int64)) (by decide) (by decide) h (by decide)) (fun h => ?_)
  have n1 := hn 12769452 (((((((((32 : Int64) * ((108 : Int32) - (96 : Int32)).toInt64) + (101 : Int32).toInt64) - (96 : Int64)) * (1024 : Int64)) + ((((32 : Int64) * ((118 : Int32) - (96 : Int32)).toInt64) + (101 : Int32).toInt64) - (96 : Int64))) * (32 : Int64)) + (108 : Int64)) - (96 : Int64)) (by decide) h
  unfold wX11_wordOf_48 wX11_four wX11_two
  refine ip_split' (fun h => hy 19173605 2 (((((((((32 : Int64) * ((114 : Int32) - (96 : Int32)).toInt64) + (105 : Int32).toInt64) - (96 : Int64)) * (1024 : Int64)) + ((((32 : Int64) * ((100 : Int32) - (96 : Int32)).toInt64) + (103 : Int32).toInt64) - (96 : Int64))) * (32 : Int64)) + (101 : Int64)) - (96 : Int64)) (by decide) (by decide) h (by decide)) (fun h => ?_)
  have n2 := hn 19173605 (((((((((32 : Int64) * ((114 : Int32) - (96 : Int32)).toInt64) + (105 : Int32).toInt64) - (96 : Int64)) * (1024 : Int64)) + ((((32 : Int64) * ((100 : Int32) - (96 : Int32)).toInt64) + (103 : Int32).toInt64) - (96 : Int64))) * (32 : Int64)) + (101 : Int64)) - (96 : Int64)) (by decide) h
  unfold wX11_wordOf_78 wX11_four wX11_two
  refine ip_split' (fun h => hy 218284 3 ((((((32 : Int64) * ((102 : Int32) - (96 : Int32)).toInt64) + (117 : Int32).toInt64) - (96 : Int64)) * (1024 : Int64)) + ((((32 : Int64) * ((101 : Int32) - (96 : Int32)).toInt64) + (108 : Int32).toInt64) - (96 : Int64))) (by decide) (by decide) h (by decide)) (fun h => ?_)
  have n3 := hn 218284 ((((((32 : Int64) * ((102 : Int32) - (96 : Int32)).toInt64) + (117 : Int32).toInt64) - (96 : Int64)) * (1024 : Int64)) + ((((32 : Int64) * ((101 : Int32) - (96 : Int32)).toInt64) + (108 : Int32).toInt64) - (96 : Int64))) (by decide) h
  unfold wX11_wordOf_96 wX11_four wX11_two
  refine ip_split' (fun h => hy 267652 4 ((((((32 : Int64) * ((104 : Int32) - (96 : Int32)).toInt64) + (101 : Int32).toInt64) - (96 : Int64)) * (1024 : Int64)) + ((((32 : Int64) * ((108 : Int32) - (96 : Int32)).toInt64) + (100 : Int32).toInt64) - (96 : Int64))) (by decide) (by decide) h (by decide)) (fun h => ?_)
  have n4 := hn 267652 ((((((32 : Int64) * ((104 : Int32) - (96 : Int32)).toInt64) + (101 : Int32).toInt64) - (96 : Int64)) * (1024 : Int64)) + ((((32 : Int64) * ((108 : Int32) - (96 : Int32)).toInt64) + (100 : Int32).toInt64) - (96 : Int64))) (by decide) h
  unfold wX11_wordOf_114 wX11_four wX11_two
  refine ip_split' (fun h => hy 463922 5 ((((((32 : Int64) * ((110 : Int32) - (96 : Int32)).toInt64) + (101 : Int32).toInt64) - (96 : Int64)) * (1024 : Int64)) + ((((32 : Int64) * ((97 : Int32) - (96 : Int32)).toInt64) + (114 : Int32).toInt64) - (96 : Int64))) (by decide) (by decide) h (by decide)) (fun h => ?_)
  have n5 := hn 463922 ((((((32 : Int64) * ((110 : Int32) - (96 : Int32)).toInt64) + (101 : Int32).toInt64) - (96 : Int64)) * (1024 : Int64)) + ((((32 : Int64) * ((97 : Int32) - (96 : Int32)).toInt64) + (114 : Int32).toInt64) - (96 : Int64))) (by decide) h
  unfold wX11_wordOf_132 wX11_two
  refine ip_split' (fun h => hy 18935 6 (((((((32 : Int64) * ((114 : Int32) - (96 : Int32)).toInt64) + (111 : Int32).toInt64) - (96 : Int64)) * (32 : Int64)) + (119 : Int64)) - (96 : Int64)) (by decide) (by decide) h (by decide)) (fun h => ?_)
  have n6 := hn 18935 (((((((32 : Int64) * ((114 : Int32) - (96 : Int32)).toInt64) + (111 : Int32).toInt64) - (96 : Int64)) * (32 : Int64)) + (119 : Int64)) - (96 : Int64)) (by decide) h
  unfold wX11_wordOf_159 wX11_four wX11_two
  refine ip_split' (fun h => hy 116807086 7 ((((((((32 : Int64) * ((99 : Int32) - (96 : Int32)).toInt64) + (111 : Int32).toInt64) - (96 : Int64)) * (1024 : Int64)) + ((((32 : Int64) * ((108 : Int32) - (96 : Int32)).toInt64) + (117 : Int32).toInt64) - (96 : Int64))) * (1024 : Int64)) + ((((32 : Int64) * ((109 : Int32) - (96 : Int32)).toInt64) + (110 : Int32).toInt64) - (96 : Int64))) (by decide) (by decide) h (by decide)) (fun h => ?_)
  have n7 := hn 116807086 ((((((((32 : Int64) * ((99 : Int32) - (96 : Int32)).toInt64) + (111 : Int32).toInt64) - (96 : Int64)) * (1024 : Int64)) + ((((32 : Int64) * ((108 : Int32) - (96 : Int32)).toInt64) + (117 : Int32).toInt64) - (96 : Int64))) * (1024 : Int64)) + ((((32 : Int64) * ((109 : Int32) - (96 : Int32)).toInt64) + (110 : Int32).toInt64) - (96 : Int64))) (by decide) h
  unfold wX11_wordOf_190 wX11_four wX11_two
  refine ip_split' (fun h => hy 15190664 8 (((((((((32 : Int64) * ((110 : Int32) - (96 : Int32)).toInt64) + (111 : Int32).toInt64) - (96 : Int64)) * (1024 : Int64)) + ((((32 : Int64) * ((114 : Int32) - (96 : Int32)).toInt64) + (116 : Int32).toInt64) - (96 : Int64))) * (32 : Int64)) + (104 : Int64)) - (96 : Int64)) (by decide) (by decide) h (by decide)) (fun h => ?_)
  have n8 := hn 15190664 (((((((((32 : Int64) * ((110 : Int32) - (96 : Int32)).toInt64) + (111 : Int32).toInt64) - (96 : Int64)) * (1024 : Int64)) + ((((32 : Int64) * ((114 : Int32) - (96 : Int32)).toInt64) + (116 : Int32).toInt64) - (96 : Int64))) * (32 : Int64)) + (104 : Int64)) - (96 : Int64)) (by decide) h
  unfold wX11_wordOf_221 wX11_four wX11_two
  refine ip_split' (fun h => hy 165492 9 ((((((32 : Int64) * ((101 : Int32) - (96 : Int32)).toInt64) + (97 : Int32).toInt64) - (96 : Int64)) * (1024 : Int64)) + ((((32 : Int64) * ((115 : Int32) - (96 : Int32)).toInt64) + (116 : Int32).toInt64) - (96 : Int64))) (by decide) (by decide) h (by decide)) (fun h => ?_)
  have n9 := hn 165492 ((((((32 : Int64) * ((101 : Int32) - (96 : Int32)).toInt64) + (97 : Int32).toInt64) - (96 : Int64)) * (1024 : Int64)) + ((((32 : Int64) * ((115 : Int32) - (96 : Int32)).toInt64) + (116 : Int32).toInt64) - (96 : Int64))) (by decide) h
  unfold wX11_wordOf_240 wX11_four wX11_two
  refine ip_split' (fun h => hy 20436616 10 (((((((((32 : Int64) * ((115 : Int32) - (96 : Int32)).toInt64) + (111 : Int32).toInt64) - (96 : Int64)) * (1024 : Int64)) + ((((32 : Int64) * ((117 : Int32) - (96 : Int32)).toInt64) + (116 : Int32).toInt64) - (96 : Int64))) * (32 : Int64)) + (104 : Int64)) - (96 : Int64)) (by decide) (by decide) h (by decide)) (fun h => ?_)
  have n10 := hn 20436616 (((((((((32 : Int64) * ((115 : Int32) - (96 : Int32)).toInt64) + (111 : Int32).toInt64) - (96 : Int64)) * (1024 : Int64)) + ((((32 : Int64) * ((117 : Int32) - (96 : Int32)).toInt64) + (116 : Int32).toInt64) - (96 : Int64))) * (32 : Int64)) + (104 : Int64)) - (96 : Int64)) (by decide) h
  unfold wX11_wordOf_271 wX11_four wX11_two
  refine ip_split' (fun h => hy 759412 11 ((((((32 : Int64) * ((119 : Int32) - (96 : Int32)).toInt64) + (101 : Int32).toInt64) - (96 : Int64)) * (1024 : Int64)) + ((((32 : Int64) * ((115 : Int32) - (96 : Int32)).toInt64) + (116 : Int32).toInt64) - (96 : Int64))) (by decide) (by decide) h (by decide)) (fun h => ?_)
  have n11 := hn 759412 ((((((32 : Int64) * ((119 : Int32) - (96 : Int32)).toInt64) + (101 : Int32).toInt64) - (96 : Int64)) * (1024 : Int64)) + ((((32 : Int64) * ((115 : Int32) - (96 : Int32)).toInt64) + (116 : Int32).toInt64) - (96 : Int64))) (by decide) h
  unfold wX11_wordOf_290 wX11_four wX11_two
  refine ip_split' (fun h => hy 671108 12 ((((((32 : Int64) * ((116 : Int32) - (96 : Int32)).toInt64) + (111 : Int32).toInt64) - (96 : Int64)) * (1024 : Int64)) + ((((32 : Int64) * ((108 : Int32) - (96 : Int32)).toInt64) + (100 : Int32).toInt64) - (96 : Int64))) (by decide) (by decide) h (by decide)) (fun h => ?_)
  have n12 := hn 671108 ((((((32 : Int64) * ((116 : Int32) - (96 : Int32)).toInt64) + (111 : Int32).toInt64) - (96 : Int64)) * (1024 : Int64)) + ((((32 : Int64) * ((108 : Int32) - (96 : Int32)).toInt64) + (100 : Int32).toInt64) - (96 : Int64))) (by decide) h
  unfold wX11_wordOf_309 wX11_four wX11_two
  refine ip_split' (fun h => hy 754996 24 ((((((32 : Int64) * ((119 : Int32) - (96 : Int32)).toInt64) + (97 : Int32).toInt64) - (96 : Int64)) * (1024 : Int64)) + ((((32 : Int64) * ((105 : Int32) - (96 : Int32)).toInt64) + (116 : Int32).toInt64) - (96 : Int64))) (by decide) (by decide) h (by decide)) (fun h => ?_)
  have n13 := hn 754996 ((((((32 : Int64) * ((119 : Int32) - (96 : Int32)).toInt64) + (97 : Int32).toInt64) - (96 : Int64)) * (1024 : Int64)) + ((((32 : Int64) * ((105 : Int32) - (96 : Int32)).toInt64) + (116 : Int32).toInt64) - (96 : Int64))) (by decide) h
  unfold wX11_wordOf_328 wX11_two
  refine ip_split' (fun h => hy 3764 25 (((((((32 : Int64) * ((99 : Int32) - (96 : Int32)).toInt64) + (117 : Int32).toInt64) - (96 : Int64)) * (32 : Int64)) + (116 : Int64)) - (96 : Int64)) (by decide) (by decide) h (by decide)) (fun h => ?_)
  have n14 := hn 3764 (((((((32 : Int64) * ((99 : Int32) - (96 : Int32)).toInt64) + (117 : Int32).toInt64) - (96 : Int64)) * (32 : Int64)) + (116 : Int64)) - (96 : Int64)) (by decide) h
  unfold wX11_wordOf_355 wX11_four wX11_two
  refine ip_split' (fun h => hy 99724 26 ((((((32 : Int64) * ((99 : Int32) - (96 : Int32)).toInt64) + (97 : Int32).toInt64) - (96 : Int64)) * (1024 : Int64)) + ((((32 : Int64) * ((108 : Int32) - (96 : Int32)).toInt64) + (108 : Int32).toInt64) - (96 : Int64))) (by decide) (by decide) h (by decide)) (fun h => ?_)
  have n15 := hn 99724 ((((((32 : Int64) * ((99 : Int32) - (96 : Int32)).toInt64) + (97 : Int32).toInt64) - (96 : Int64)) * (1024 : Int64)) + ((((32 : Int64) * ((108 : Int32) - (96 : Int32)).toInt64) + (108 : Int32).toInt64) - (96 : Int64))) (by decide) h
  unfold wX11_wordOf_374 wX11_two
  refine ip_split' (fun h => hy 294 30 ((((32 : Int64) * ((105 : Int32) - (96 : Int32)).toInt64) + (102 : Int32).toInt64) - (96 : Int64)) (by decide) (by decide) h (by decide)) (fun h => ?_)
  have n16 := hn 294 ((((32 : Int64) * ((105 : Int32) - (96 : Int32)).toInt64) + (102 : Int32).toInt64) - (96 : Int64)) (by decide) h
  unfold wX11_wordOf_389 wX11_two
  refine ip_split' (fun h => hy 498 31 ((((32 : Int64) * ((111 : Int32) - (96 : Int32)).toInt64) + (114 : Int32).toInt64) - (96 : Int64)) (by decide) (by decide) h (by decide)) (fun h => ?_)
  have n17 := hn 498 ((((32 : Int64) * ((111 : Int32) - (96 : Int32)).toInt64) + (114 : Int32).toInt64) - (96 : Int64)) (by decide) h
  unfold wX11_wordOf_404 wX11_two
  refine ip_split' (fun h => hy 1476 32 (((((((32 : Int64) * ((97 : Int32) - (96 : Int32)).toInt64) + (110 : Int32).toInt64) - (96 : Int64)) * (32 : Int64)) + (100 : Int64)) - (96 : Int64)) (by decide) (by decide) h (by decide)) (fun h => ?_)
  have n18 := hn 1476 (((((((32 : Int64) * ((97 : Int32) - (96 : Int32)).toInt64) + (110 : Int32).toInt64) - (96 : Int64)) * (32 : Int64)) + (100 : Int64)) - (96 : Int64)) (by decide) h
  unfold wX11_wordOf_431 wX11_two
  refine ip_split' (fun h => hy 14836 33 (((((((32 : Int64) * ((110 : Int32) - (96 : Int32)).toInt64) + (111 : Int32).toInt64) - (96 : Int64)) * (32 : Int64)) + (116 : Int64)) - (96 : Int64)) (by decide) (by decide) h (by decide)) (fun h => ?_)
  have n19 := hn 14836 (((((((32 : Int64) * ((110 : Int32) - (96 : Int32)).toInt64) + (111 : Int32).toInt64) - (96 : Int64)) * (32 : Int64)) + (116 : Int64)) - (96 : Int64)) (by decide) h
  have e99 : refW V = 99 := by
    unfold refW
    rw [if_neg n0, if_neg n1, if_neg n2, if_neg n3, if_neg n4, if_neg n5, if_neg n6, if_neg n7, if_neg n8, if_neg n9, if_neg n10, if_neg n11, if_neg n12, if_neg n13, if_neg n14, if_neg n15, if_neg n16, if_neg n17, if_neg n18, if_neg n19]
  rw [e99] at hQ
  exact hQ
/-- the word of the table in these places -/
abbrev stnd (b : Nat → Nat) (q m j : Nat) : Prop := ∀ k, k < 6 → tb (6 * j + k) = if k < m then b (q + k) else 32
def findW (b : Nat → Nat) (q m : Nat) : Nat → Nat → Nat
  | 0, _ => 258
  | n + 1, j => if stnd b q m j then j else findW b q m n (j + 1)
theorem findW_s (b : Nat → Nat) (q m n j : Nat) : findW b q m (n + 1) j = if stnd b q m j then j else findW b q m n (j + 1) := rfl
theorem findW_cases {b : Nat → Nat} {q m : Nat} : ∀ n j, (findW b q m n j = 258 ∧ ∀ i, j ≤ i → i < j + n → ¬ stnd b q m i) ∨ ∃ i, j ≤ i ∧ i < j + n ∧ stnd b q m i ∧ findW b q m n j = i := by
  intro n
  induction n with
  | zero => intro j; exact Or.inl ⟨rfl, fun i h1 h2 => absurd h2 (by omega)⟩
  | succ n ih =>
    intro j
    by_cases c : stnd b q m j
    · exact Or.inr ⟨j, by omega, by omega, c, by unfold findW; rw [if_pos c]⟩
    · have e : findW b q m (n + 1) j = findW b q m n (j + 1) := by
        rw [findW, if_neg c]
      rw [e]
      rcases ih (j + 1) with ⟨h1, h2⟩ | ⟨i, h1, h2, h3, h4⟩
      · refine Or.inl ⟨h1, fun i a d => ?_⟩
        by_cases q : i = j
        · subst q; exact c
        · exact h2 i (by omega) (by omega)
      · exact Or.inr ⟨i, by omega, by omega, h3, h4⟩
theorem stnd_iff {b : Nat → Nat} {q m j : Nat} (hj : j < 20) (hm : m ≤ 6) (hl : ∀ k, k < m → 97 ≤ b (q + k) ∧ b (q + k) ≤ 122) : stnd b q m j ↔ encG (fun k => b (q + k)) m = codT j := by
  obtain ⟨t1, t2, t3, t4⟩ := tb_let j hj
  constructor
  · intro s
    have em : m = lenT j := by
      by_cases c : m < lenT j
      · have a := s m (by omega)
        rw [if_neg (by omega)] at a
        have := (t3 m c).1
        omega
      · by_cases d : lenT j < m
        · have a := s (lenT j) (by omega)
          rw [if_pos d] at a
          have b1 := t4 (lenT j) (by omega) (Nat.le_refl _)
          have := (hl (lenT j) d).1
          omega
        · omega
    unfold codT
    rw [← em]
    refine encG_congr m (fun k hk => ?_)
    have a := s k (by omega)
    rw [if_pos hk] at a
    exact a.symm
  · intro e
    obtain ⟨em, ek⟩ := encG_inj m (lenT j) hl t3 e
    intro k hk
    by_cases c : k < m
    · rw [if_pos c]; exact (ek k c).symm
    · rw [if_neg c]; exact t4 k hk (by omega)
def tkW (b : Nat → Nat) (q m : Nat) : Nat := if m ≤ 6 then findW b q m 20 0 else 258
theorem tkW_ref {b : Nat → Nat} {q m : Nat} (hm : m ≤ 6) (hl : ∀ k, k < m → 97 ≤ b (q + k) ∧ b (q + k) ≤ 122) : (tkW b q m = 258 ∧ refW (encG (fun k => b (q + k)) m) = 99) ∨ (tkW b q m < 20 ∧ 2 ≤ m ∧ refW (encG (fun k => b (q + k)) m) = wordR (tkW b q m)) := by
  unfold tkW
  rw [if_pos hm]
  rcases findW_cases (b := b) (q := q) (m := m) 20 0 with ⟨h1, h2⟩ | ⟨i, h1, h2, h3, h4⟩
  · exact Or.inl ⟨h1, refW_none (fun j hj e => h2 j (by omega) (by omega) ((stnd_iff hj hm hl).mpr e))⟩
  · have e := (stnd_iff (by omega) hm hl).mp h3
    rw [h4, e]
    refine Or.inr ⟨by omega, ?_, refW_cod i (by omega)⟩
    obtain ⟨t1, t2, t3, t4⟩ := tb_let i (by omega)
    have := (encG_inj m (lenT i) hl t3 e).1
    omega
theorem c_stands {Q : Int32 → Prop} {b : Nat → Nat} {by' : Nat → Int32} {L q m j : Nat} (hL : L ≤ 400) (hb : ∀ p, p < L → by' p = nI (b p) ∧ b p < 256) (hq : q + m ≤ L) (hm : m ≤ 6) (hj : j < 20) (h1 : stnd b q m j → Q 1) (h0 : ¬ stnd b q m j → Q 0) : wX9_stands Q (nI j) (nI q) (nI (q + m)) (nI L) by' := by
  refine ⟨7, ?_⟩
  have lp : ∀ (n k : Nat), k + n = 6 → (∀ i, i < k → tb (6 * j + i) = if i < m then b (q + i) else 32) → wX9_stands_3 Q (n + 1) (nI j) (nI q) (nI (q + m)) (nI k) (nI L) by' := by
    intro n
    induction n with
    | zero =>
      intro k hk a
      have e : k = 6 := by omega
      subst e
      exact ip_T (by decide) (h1 a)
    | succ n ih =>
      intro k hk a
      refine ip_F (nI_ge (a := k) (b := 6) (by omega) (by omega)) ?_
      have ea : nI j * 6 + nI k = nI (6 * j + k) := by
        rw [show (6 : Int32) = nI 6 from rfl, pk_mul, nI_add, Nat.mul_comm]
      have t256 := tb_lt (6 * j + k) (by omega)
      have go : ∀ (s : Nat), s < 256 → s = (if k < m then b (q + k) else 32) → wX9_stands_31 Q (wX9_stands_3 Q (n + 1)) (nI j) (nI q) (nI (q + m)) (nI k) (nI s) (nI L) by' := by
        intro s hs es
        unfold wX9_stands_31
        rw [ea, tch_tb _ (by omega), nI_1, nI_eq (by omega) (by omega)]
        refine ⟨vp_in_nI (by omega) (by omega), ip_split (fun c => ih (k + 1) (by omega) (fun i hi => ?_)) (fun c => h0 (fun q' => c ?_))⟩
        · by_cases z : i = k
          · subst z; rw [c, es]
          · exact a i (by omega)
        · rw [q' k (by omega), es]
      rw [nI_add, nI_leI (by omega) (by omega)]
      refine ip_split (fun c => go 32 (by omega) (by rw [if_neg (by omega)])) (fun c => ?_)
      have e' := hb (q + k) (by omega)
      refine ip_F (nI_pos (by omega)) (ip_F (nI_ge (by omega) (by omega)) ⟨vp_in_nI (by omega) (by omega), ?_⟩)
      rw [nI_clamp (by omega), e'.1]
      exact go _ e'.2 (by rw [if_pos (by omega)])
  exact lp 6 0 (by omega) (fun i hi => absurd hi (by omega))
theorem c_find {Q : Int32 → Prop} {b : Nat → Nat} {by' : Nat → Int32} {L q m : Nat} (hL : L ≤ 400) (hb : ∀ p, p < L → by' p = nI (b p) ∧ b p < 256) (hq : q + m ≤ L) (h0 : tkW b q m = 258 → Q (-1)) (h1 : tkW b q m < 20 → Q (nI (tkW b q m))) : wX9_find Q (nI q) (nI (q + m)) (nI L) by' := by
  unfold wX9_find
  rw [pk_sub (by omega), show q + m - q = m by omega, show (6 : Int32) = nI 6 from rfl, nI_leI (by omega) (by omega)]
  unfold tkW at h0 h1
  refine ip_split (fun c => ⟨21, ?_⟩) (fun c => h0 (by rw [if_neg c]))
  rw [if_pos c] at h0 h1
  have lp : ∀ (n j : Nat), j + n = 20 → findW b q m 20 0 = findW b q m n j → wX9_find_12 Q (n + 1) (nI q) (nI (q + m)) (nI j) (nI L) by' := by
    intro n
    induction n with
    | zero =>
      intro j hj e
      have ej : j = 20 := by omega
      subst ej
      exact ip_T (by decide) (h0 e)
    | succ n ih =>
      intro j hj e
      rw [findW_s b q m n j] at e
      refine ip_F (nI_ge (a := j) (b := 20) (by omega) (by omega)) (c_stands hL hb hq c (by omega) (fun s => ip_F (by decide) ?_) (fun s => ip_T rfl ?_))
      · rw [if_pos s] at e
        rw [e] at h1
        exact h1 (by omega)
      · rw [if_neg s] at e
        rw [nI_1]
        exact ih (j + 1) (by omega) e
  exact lp 20 0 (by omega) rfl
