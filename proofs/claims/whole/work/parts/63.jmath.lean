/-! JOURNEYS, AS NUMBERS -/
/-- the first that f names; -1 none -/
def ft (P : Int → Bool) : Nat → Int
  | 0 => -1
  | k + 1 => if 0 ≤ ft P k then ft P k else if P k = true then (k : Int) else -1
theorem ft_cases (P : Int → Bool) : ∀ n : Nat, (ft P n = -1 ∧ ∀ j, 0 ≤ j → j < (n : Int) → P j = false) ∨ (0 ≤ ft P n ∧ ft P n < n ∧ P (ft P n) = true ∧ ∀ j, 0 ≤ j → j < ft P n → P j = false)
  | 0 => Or.inl ⟨rfl, fun j j0 j1 => absurd j1 (by omega)⟩
  | n + 1 => by
    unfold ft
    rcases ft_cases P n with ⟨h1, h2⟩ | ⟨h1, h2, h3, h4⟩
    · rw [if_neg (by omega)]
      by_cases h : P n = true
      · rw [if_pos h]
        exact Or.inr ⟨by omega, by omega, h, fun j j0 j1 => h2 j j0 j1⟩
      · rw [if_neg h]
        refine Or.inl ⟨rfl, fun j j0 j1 => ?_⟩
        by_cases e : j = (n : Int)
        · rw [e]
          exact Bool.eq_false_iff.mpr h
        · exact h2 j j0 (by omega)
    · rw [if_pos h1]
      exact Or.inr ⟨h1, by omega, h3, h4⟩
theorem ft_at {P : Int → Bool} {n : Nat} {k : Int} (k0 : 0 ≤ k) (k1 : k < (n : Int)) (h : P k = true) (h2 : ∀ j, 0 ≤ j → j < k → P j = false) : ft P n = k := by
  rcases ft_cases P n with ⟨q1, q2⟩ | ⟨q1, q2, q3, q4⟩
  · rw [q2 k k0 k1] at h
    exact absurd h (by decide)
  · by_cases e : ft P n < k
    · rw [h2 _ q1 e] at q3
      exact absurd q3 (by decide)
    · by_cases e2 : k < ft P n
      · rw [q4 k k0 e2] at h
        exact absurd h (by decide)
      · omega
theorem ft_no {P : Int → Bool} {n : Nat} (h2 : ∀ j, 0 ≤ j → j < (n : Int) → P j = false) : ft P n = -1 := by
  rcases ft_cases P n with ⟨q1, q2⟩ | ⟨q1, q2, q3, q4⟩
  · exact q1
  · rw [h2 _ q1 q2] at q3
    exact absurd q3 (by decide)
theorem ft_hit {P : Int → Bool} {n : Nat} {k : Int} (k0 : 0 ≤ k) (k1 : k < (n : Int)) (h : P k = true) : 0 ≤ ft P n := by
  rcases ft_cases P n with ⟨q1, q2⟩ | ⟨q1, q2, q3, q4⟩
  · rw [q2 k k0 k1] at h
    exact absurd h (by decide)
  · exact q1
/-- where one gets on, the latest ahead of a place -/
def bdN (N : Net) (ah : Int → Int) (l t : Int) : Nat → Int
  | 0 => -1
  | i + 1 => if ah (N.sp l i) ≤ N.mi l t i then (i : Int) else bdN N ah l t i
theorem bdN_cases (N : Net) (ah : Int → Int) (l t : Int) : ∀ n : Nat, bdN N ah l t n = -1 ∨ (0 ≤ bdN N ah l t n ∧ bdN N ah l t n < n ∧ ah (N.sp l (bdN N ah l t n)) ≤ N.mi l t (bdN N ah l t n))
  | 0 => Or.inl rfl
  | n + 1 => by
    unfold bdN
    split
    · rename_i h
      exact Or.inr ⟨by omega, by omega, h⟩
    · rcases bdN_cases N ah l t n with q | ⟨q1, q2, q3⟩
      · exact Or.inl q
      · exact Or.inr ⟨q1, by omega, q3⟩
theorem bdN_hit {N : Net} {ah : Int → Int} {l t : Int} {j : Nat} (h : ah (N.sp l j) ≤ N.mi l t j) : ∀ n : Nat, j < n → 0 ≤ bdN N ah l t n
  | 0, q => absurd q (by omega)
  | n + 1, q => by
    unfold bdN
    split
    · omega
    · rename_i h2
      by_cases e : j = n
      · rw [e] at h
        exact absurd h h2
      · exact bdN_hit h n (by omega)
/-- where one gets on line l, trip t, so as to be at s at m; -1: not so -/
def rA (N : Net) (fr at_ r s m l t : Int) : Int := if N.rn l t = 1 ∧ 0 ≤ plc N l s ∧ N.mi l t (plc N l s) = m then bdN N (fun q => BS N fr at_ (r - 1) q) l t (plc N l s).toNat else -1
def hR (N : Net) (fr at_ r s m : Int) (j : Int) : Bool := decide (j / 6 < N.ln ∧ j % 6 < N.tr (j / 6) ∧ 0 ≤ rA N fr at_ r s m (j / 6) (j % 6))
/-- the ride by so many that ends at s at m: 6 times the line, and the trip; -1 none -/
def sk (N : Net) (fr at_ r s m : Int) : Int := if r ≤ 0 then -1 else ft (hR N fr at_ r s m) (6 * N.ln.toNat)
def hW (N : Net) (fr at_ r s m : Int) (p : Int) : Bool := decide (N.pt p s ≠ 0 ∧ if p = fr then m - N.pt p s = at_ else 0 ≤ sk N fr at_ r p (m - N.pt p s))
/-- the stop from which one walks to s, so as to be there at m -/
def wf (N : Net) (fr at_ r s m : Int) : Int := ft (hW N fr at_ r s m) 12
abbrev skI (N : Net) (fr at_ r s m : Int) : Int := rA N fr at_ r s m (sk N fr at_ r s m / 6) (sk N fr at_ r s m % 6)
theorem rA_cases {N : Net} {l : Int} (fr at_ r s m t : Int) (hg : Good N) (l0 : 0 ≤ l) (l1 : l < N.ln) : rA N fr at_ r s m l t = -1 ∨ (0 ≤ rA N fr at_ r s m l t ∧ rA N fr at_ r s m l t < plc N l s ∧ plc N l s < N.sz l ∧ N.sp l (plc N l s) = s ∧ N.rn l t = 1 ∧ N.mi l t (plc N l s) = m ∧ BS N fr at_ (r - 1) (N.sp l (rA N fr at_ r s m l t)) ≤ N.mi l t (rA N fr at_ r s m l t)) := by
  unfold rA
  split
  · rename_i h
    rcases bdN_cases N (fun q => BS N fr at_ (r - 1) q) l t (plc N l s).toNat with q | ⟨q1, q2, q3⟩
    · exact Or.inl q
    · have hp := (plc_cases hg l0 l1 s).resolve_left (by omega)
      exact Or.inr ⟨q1, by omega, hp.2.1, hp.2.2, h.1, h.2.2, q3⟩
  · exact Or.inl rfl
/-- what is so of a ride that was found -/
theorem sk_cases {N : Net} (fr at_ r s m : Int) (hg : Good N) : sk N fr at_ r s m = -1 ∨ (1 ≤ r ∧ (0 ≤ sk N fr at_ r s m / 6 ∧ sk N fr at_ r s m / 6 < N.ln) ∧ (0 ≤ sk N fr at_ r s m % 6 ∧ sk N fr at_ r s m % 6 < N.tr (sk N fr at_ r s m / 6)) ∧ 0 ≤ sk N fr at_ r s m ∧ (0 ≤ skI N fr at_ r s m ∧ skI N fr at_ r s m < plc N (sk N fr at_ r s m / 6) s ∧ plc N (sk N fr at_ r s m / 6) s < N.sz (sk N fr at_ r s m / 6) ∧ N.sp (sk N fr at_ r s m / 6) (plc N (sk N fr at_ r s m / 6) s) = s ∧ N.rn (sk N fr at_ r s m / 6) (sk N fr at_ r s m % 6) = 1 ∧ N.mi (sk N fr at_ r s m / 6) (sk N fr at_ r s m % 6) (plc N (sk N fr at_ r s m / 6) s) = m ∧ BS N fr at_ (r - 1) (N.sp (sk N fr at_ r s m / 6) (skI N fr at_ r s m)) ≤ N.mi (sk N fr at_ r s m / 6) (sk N fr at_ r s m % 6) (skI N fr at_ r s m))) := by
  have hd : sk N fr at_ r s m = if r ≤ 0 then -1 else ft (hR N fr at_ r s m) (6 * N.ln.toNat) := rfl
  by_cases hr : r ≤ 0
  · rw [if_pos hr] at hd
    exact Or.inl hd
  · rw [if_neg hr] at hd
    rcases ft_cases (hR N fr at_ r s m) (6 * N.ln.toNat) with ⟨q, -⟩ | ⟨q1, q2, q3, -⟩
    · exact Or.inl (hd.trans q)
    · rw [← hd] at q1 q2 q3
      have q3 := of_decide_eq_true q3
      refine Or.inr ⟨by omega, ⟨by omega, q3.1⟩, ⟨by omega, q3.2.1⟩, q1, ?_⟩
      exact (rA_cases fr at_ r s m (sk N fr at_ r s m % 6) hg (by omega) q3.1).resolve_left (by have := q3.2.2; omega)
-- what is attained
theorem rdE_att {N : Net} {l t sh : Int} {ah e : Int → Int} {s : Int} : ∀ i : Nat, rdE N l t sh ah e i s = e s ∨ ∃ j : Nat, j < i ∧ N.sp l j = s ∧ onB N l t ah j = true ∧ rdE N l t sh ah e i s = N.mi l t j
  | 0 => Or.inl rfl
  | i + 1 => by
    rw [rdE_s]
    split
    · rename_i h
      rcases min_cases (rdE N l t sh ah e i s) (N.mi l t i) with q | q
      · rw [q]
        rcases rdE_att (ah := ah) (e := e) i with q2 | ⟨j, j1, j2, j3, j4⟩
        · exact Or.inl q2
        · exact Or.inr ⟨j, by omega, j2, j3, j4⟩
      · rw [q]
        exact Or.inr ⟨i, by omega, h.1.symm, h.2.1, rfl⟩
    · rcases rdE_att (ah := ah) (e := e) i with q2 | ⟨j, j1, j2, j3, j4⟩
      · exact Or.inl q2
      · exact Or.inr ⟨j, by omega, j2, j3, j4⟩
theorem rdT_att {N : Net} {ll lt sh l : Int} {ah e : Int → Int} {s : Int} : ∀ t : Nat, rdT N ll lt sh ah e l t s = e s ∨ ∃ t2 j : Nat, t2 < t ∧ j < (N.sz l).toNat ∧ N.rn l t2 = 1 ∧ N.sp l j = s ∧ onB N l t2 ah j = true ∧ rdT N ll lt sh ah e l t s = N.mi l t2 j
  | 0 => Or.inl rfl
  | t + 1 => by
    rw [rdT_s]
    split
    · rename_i h
      rcases rdE_att (N := N) (l := l) (t := (t : Int)) (sh := sh) (ah := ah) (e := rdT N ll lt sh ah e l t) (s := s) (N.sz l).toNat with q | ⟨j, j1, j2, j3, j4⟩
      · rw [q]
        rcases rdT_att (ah := ah) (e := e) t with q2 | ⟨t2, j, j0, j1, j2⟩
        · exact Or.inl q2
        · exact Or.inr ⟨t2, j, by omega, j1, j2⟩
      · exact Or.inr ⟨t, j, by omega, j1, h.1, j2, j3, j4⟩
    · rcases rdT_att (ah := ah) (e := e) t with q2 | ⟨t2, j, j0, j1, j2⟩
      · exact Or.inl q2
      · exact Or.inr ⟨t2, j, by omega, j1, j2⟩
theorem rdL_att {N : Net} {ll lt sh : Int} {ah e : Int → Int} {s : Int} : ∀ l : Nat, rdL N ll lt sh ah e l s = e s ∨ ∃ l2 t2 j : Nat, l2 < l ∧ t2 < (N.tr l2).toNat ∧ j < (N.sz l2).toNat ∧ N.rn l2 t2 = 1 ∧ N.sp l2 j = s ∧ onB N l2 t2 ah j = true ∧ rdL N ll lt sh ah e l s = N.mi l2 t2 j
  | 0 => Or.inl rfl
  | l + 1 => by
    rw [rdL_s]
    rcases rdT_att (N := N) (ll := ll) (lt := lt) (sh := sh) (l := (l : Int)) (ah := ah) (e := rdL N ll lt sh ah e l) (s := s) (N.tr l).toNat with q | ⟨t2, j, j0, j1⟩
    · rw [q]
      rcases rdL_att (ah := ah) (e := e) l with q2 | ⟨l2, t2, j, j0, j1⟩
      · exact Or.inl q2
      · exact Or.inr ⟨l2, t2, j, by omega, j1⟩
    · exact Or.inr ⟨l, t2, j, by omega, j0, j1⟩
/-- a ride's end is some trip's minute, and that ride is found -/
theorem rdn_sk {N : Net} {fr at_ s : Int} (hg : Good N) : ∀ r : Nat, rdn N (-1) (-1) (-1) fr at_ r s ≠ 10000 → 0 ≤ sk N fr at_ r s (rdn N (-1) (-1) (-1) fr at_ r s)
  | 0, h => absurd rfl h
  | r + 1, h => by
    have hl := hg.1
    rcases rdL_att (N := N) (ll := -1) (lt := -1) (sh := -1) (ah := arv N (-1) fr at_ (rdn N (-1) (-1) (-1) fr at_ r)) (e := fun _ => 10000) (s := s) N.ln.toNat with q | ⟨l, t, j, h1, h2, h3, h4, h5, h6, h7⟩
    · exact absurd q h
    · have hk := hg.lineK (l := (l : Int)) (by omega) (by omega)
      have hp := plc_at (s := s) hg (l := (l : Int)) (by omega) (by omega) (i := (j : Int)) (by omega) (by omega) h5
      obtain ⟨i, i1, i2⟩ := onB_ex j h6
      have e : rdn N (-1) (-1) (-1) fr at_ (r + 1) s = N.mi l t j := h7
      rw [e]
      unfold sk
      rw [if_neg (by omega)]
      refine ft_hit (k := 6 * (l : Int) + t) (by omega) (by omega) ?_
      refine decide_eq_true ⟨by omega, ?_, ?_⟩
      · rw [show (6 * (l : Int) + t) / 6 = l by omega]
        omega
      · rw [show (6 * (l : Int) + t) / 6 = l by omega, show (6 * (l : Int) + t) % 6 = t by omega]
        unfold rA
        rw [hp, if_pos ⟨h4, by omega, rfl⟩, Int.toNat_natCast]
        refine bdN_hit (j := i) ?_ j i1
        show BS N fr at_ (((r + 1 : Nat) : Int) - 1) (N.sp l i) ≤ N.mi l t i
        rw [show ((r + 1 : Nat) : Int) - 1 = (r : Int) by omega]
        exact i2
theorem wkM_att {N : Net} {fr at_ : Int} {e : Int → Int} {s : Int} : ∀ n : Nat, wkM N fr at_ e s n = e s ∨ ∃ p : Nat, p < n ∧ N.pt p s ≠ 0 ∧ beg fr at_ e p ≠ 10000 ∧ wkM N fr at_ e s n = beg fr at_ e p + N.pt p s
  | 0 => Or.inl rfl
  | n + 1 => by
    rw [wkM_s]
    split
    · rename_i h
      rcases min_cases (wkM N fr at_ e s n) (beg fr at_ e n + N.pt n s) with q | q
      · rw [q]
        rcases wkM_att (fr := fr) (at_ := at_) (e := e) n with q2 | ⟨p, p1, p2⟩
        · exact Or.inl q2
        · exact Or.inr ⟨p, by omega, p2⟩
      · rw [q]
        exact Or.inr ⟨n, by omega, h.1, h.2, rfl⟩
    · rcases wkM_att (fr := fr) (at_ := at_) (e := e) n with q2 | ⟨p, p1, p2⟩
      · exact Or.inl q2
      · exact Or.inr ⟨p, by omega, p2⟩
/-- one is never anywhere without a way -/
theorem way {N : Net} {fr at_ s : Int} {r : Nat} (hg : Good N) (hs : s ≠ fr) (s0 : 0 ≤ s) (hb : BS N fr at_ r s ≠ 10000) : 0 ≤ sk N fr at_ r s (BS N fr at_ r s) ∨ 0 ≤ wf N fr at_ r s (BS N fr at_ r s) := by
  have e : BS N fr at_ r s = wkM N fr at_ (rdn N (-1) (-1) (-1) fr at_ r) s 12 := by
    show arv N (-1) fr at_ (rdn N (-1) (-1) (-1) fr at_ r) s = _
    unfold arv
    rw [if_neg (by omega), if_neg hs]
  rcases wkM_att (N := N) (fr := fr) (at_ := at_) (e := rdn N (-1) (-1) (-1) fr at_ r) (s := s) 12 with q | ⟨p, p1, p2, p3, p4⟩
  · left
    rw [e, q] at hb ⊢
    exact rdn_sk hg r hb
  · right
    unfold wf
    refine ft_hit (k := (p : Int)) (by omega) (by omega) (decide_eq_true ⟨p2, ?_⟩)
    rw [e, p4]
    unfold beg at p3 ⊢
    by_cases hp : (p : Int) = fr
    · rw [if_pos hp, if_pos hp]
      omega
    · rw [if_neg hp] at p3
      rw [if_neg hp, if_neg hp, show rdn N (-1) (-1) (-1) fr at_ r p + N.pt p s - N.pt p s = rdn N (-1) (-1) (-1) fr at_ r p by omega]
      exact rdn_sk hg r p3
theorem wf_cases (N : Net) (fr at_ r s m : Int) : wf N fr at_ r s m = -1 ∨ (0 ≤ wf N fr at_ r s m ∧ wf N fr at_ r s m < 12 ∧ N.pt (wf N fr at_ r s m) s ≠ 0 ∧ if wf N fr at_ r s m = fr then m - N.pt (wf N fr at_ r s m) s = at_ else 0 ≤ sk N fr at_ r (wf N fr at_ r s m) (m - N.pt (wf N fr at_ r s m) s)) := by
  rcases ft_cases (hW N fr at_ r s m) 12 with ⟨q, -⟩ | ⟨q1, q2, q3, -⟩
  · exact Or.inl q
  · have q3 := of_decide_eq_true q3
    exact Or.inr ⟨q1, q2, q3.1, q3.2⟩
-- LEGS
def prc (k n : Int) : Int := if k = 1 then n + 2 + 1 else if k = 3 then 2 * (n + 2) else if k = 4 then n + 2 + 1 + 5 else if k = 5 then 2 * (n + 2) - 3 else n + 2
def wlg (N : Net) (p s m : Int) : Int → Int := fun w => if w = 0 then -5 else if w = 1 then -5 else if w = 2 then p else if w = 3 then s else if w = 4 then m - N.pt p s else if w = 5 then m else 0
def rlg (N : Net) (l t i s m : Int) : Int → Int := fun w => if w = 0 then l else if w = 1 then t else if w = 2 then N.sp l i else if w = 3 then s else if w = 4 then N.mi l t i else if w = 5 then m else if w = 6 then prc (N.kd l) (plc N l s - i) else plc N l s - i
abbrev rlgS (N : Net) (fr at_ r s m : Int) : Int → Int := rlg N (sk N fr at_ r s m / 6) (sk N fr at_ r s m % 6) (skI N fr at_ r s m) s m
abbrev nxS (N : Net) (fr at_ r s m : Int) : Int := N.sp (sk N fr at_ r s m / 6) (skI N fr at_ r s m)
abbrev Lgs : Type := Int × (Int → Int → Int)
def nilJ : Lgs := (0, fun _ _ => 0)
def consJ (x : Int → Int) (p : Lgs) : Lgs := (p.1 + 1, fun k => if k = 0 then x else p.2 (k - 1))
/-- the legs, the last first; the first number counts down the rounds that are left -/
def jf (N : Net) (fr at_ : Int) : Nat → Int → Int → Lgs
  | 0, _, _ => nilJ
  | f + 1, r, s => if s = fr then nilJ else
      if 0 ≤ sk N fr at_ r s (BS N fr at_ r s) then consJ (rlgS N fr at_ r s (BS N fr at_ r s)) (jf N fr at_ f (r - 1) (nxS N fr at_ r s (BS N fr at_ r s)))
      else if wf N fr at_ r s (BS N fr at_ r s) = fr then consJ (wlg N (wf N fr at_ r s (BS N fr at_ r s)) s (BS N fr at_ r s)) nilJ
      else consJ (wlg N (wf N fr at_ r s (BS N fr at_ r s)) s (BS N fr at_ r s)) (consJ (rlgS N fr at_ r (wf N fr at_ r s (BS N fr at_ r s)) (BS N fr at_ r s - N.pt (wf N fr at_ r s (BS N fr at_ r s)) s)) (jf N fr at_ f (r - 1) (nxS N fr at_ r (wf N fr at_ r s (BS N fr at_ r s)) (BS N fr at_ r s - N.pt (wf N fr at_ r s (BS N fr at_ r s)) s))))
theorem jf_s (N : Net) (fr at_ : Int) (f : Nat) (r s : Int) : jf N fr at_ (f + 1) r s = if s = fr then nilJ else
      if 0 ≤ sk N fr at_ r s (BS N fr at_ r s) then consJ (rlgS N fr at_ r s (BS N fr at_ r s)) (jf N fr at_ f (r - 1) (nxS N fr at_ r s (BS N fr at_ r s)))
      else if wf N fr at_ r s (BS N fr at_ r s) = fr then consJ (wlg N (wf N fr at_ r s (BS N fr at_ r s)) s (BS N fr at_ r s)) nilJ
      else consJ (wlg N (wf N fr at_ r s (BS N fr at_ r s)) s (BS N fr at_ r s)) (consJ (rlgS N fr at_ r (wf N fr at_ r s (BS N fr at_ r s)) (BS N fr at_ r s - N.pt (wf N fr at_ r s (BS N fr at_ r s)) s)) (jf N fr at_ f (r - 1) (nxS N fr at_ r (wf N fr at_ r s (BS N fr at_ r s)) (BS N fr at_ r s - N.pt (wf N fr at_ r s (BS N fr at_ r s)) s)))) := rfl
