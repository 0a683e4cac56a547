/-! BOTH SEARCHES SAY THE SAME -/
theorem min_cases (a b : Int) : min a b = a ∨ min a b = b := by omega
theorem rdE_pr {N : Net} {l t sh : Int} {ah e : Int → Int} {P : Int → Prop} (hm : ∀ i, 0 ≤ i → i < N.sz l → P (N.mi l t i)) (he : ∀ s, P (e s)) : ∀ i : Nat, (i : Int) ≤ N.sz l → ∀ s, P (rdE N l t sh ah e i s)
  | 0, _, s => he s
  | i + 1, hi, s => by
    have ih := rdE_pr (sh := sh) (ah := ah) hm he i (by omega) s
    rw [rdE_s]
    split
    · rcases min_cases (rdE N l t sh ah e i s) (N.mi l t i) with q | q <;> rw [q]
      · exact ih
      · exact hm i (by omega) (by omega)
    · exact ih
theorem rdT_pr {N : Net} {ll lt sh l : Int} {ah e : Int → Int} {P : Int → Prop} (hg : Good N) (l0 : 0 ≤ l) (l1 : l < N.ln) (hm : ∀ t i, 0 ≤ t → t < N.tr l → 0 ≤ i → i < N.sz l → P (N.mi l t i)) (he : ∀ s, P (e s)) : ∀ t : Nat, (t : Int) ≤ N.tr l → ∀ s, P (rdT N ll lt sh ah e l t s)
  | 0, _, s => he s
  | t + 1, ht, s => by
    have ih := rdT_pr (ll := ll) (lt := lt) (sh := sh) (ah := ah) hg l0 l1 hm he t (by omega)
    have hk := hg.lineK l0 l1
    rw [rdT_s]
    split
    · exact rdE_pr (fun i i0 i1 => hm t i (by omega) (by omega) i0 i1) ih _ (by omega) s
    · exact ih s
theorem rdL_pr {N : Net} {ll lt sh : Int} {ah e : Int → Int} {P : Int → Prop} (hg : Good N) (hm : ∀ l t i, 0 ≤ l → l < N.ln → 0 ≤ t → t < N.tr l → 0 ≤ i → i < N.sz l → P (N.mi l t i)) (he : ∀ s, P (e s)) : ∀ l : Nat, (l : Int) ≤ N.ln → ∀ s, P (rdL N ll lt sh ah e l s)
  | 0, _, s => he s
  | l + 1, hl, s => by
    have ih := rdL_pr (ll := ll) (lt := lt) (sh := sh) (ah := ah) hg hm he l (by omega)
    have hk := hg.lineK (l := l) (by omega) (by omega)
    rw [rdL_s]
    exact rdT_pr hg (by omega) (by omega) (fun t i => hm l t i (by omega) (by omega)) ih _ (by omega) s
theorem rdn_90 {N : Net} {ll lt sh fr at_ : Int} (hg : Good N) : ∀ (r : Nat) (s : Int), rdn N ll lt sh fr at_ r s = 10000 ∨ rdn N ll lt sh fr at_ r s ≤ 9000
  | 0, s => Or.inl rfl
  | r + 1, s => by
    have h0 := hg.1
    exact rdL_pr (P := fun v => v = 10000 ∨ v ≤ 9000) hg (fun l t i l0 l1 t0 t1 i0 i1 => Or.inr (hg.min l0 l1 t0 t1 i0 i1).2) (fun _ => Or.inl rfl) _ (by omega) s
-- the shut stop is not reached
theorem rdE_sh {N : Net} {l t sh : Int} {ah e : Int → Int} : ∀ i : Nat, rdE N l t sh ah e i sh = e sh
  | 0 => rfl
  | i + 1 => by rw [rdE_s, if_neg (fun q => q.2.2 rfl)]; exact rdE_sh i
theorem rdT_sh {N : Net} {ll lt sh l : Int} {ah e : Int → Int} : ∀ t : Nat, rdT N ll lt sh ah e l t sh = e sh
  | 0 => rfl
  | t + 1 => by
    rw [rdT_s]
    split
    · rw [rdE_sh]; exact rdT_sh t
    · exact rdT_sh t
theorem rdL_sh {N : Net} {ll lt sh : Int} {ah e : Int → Int} : ∀ l : Nat, rdL N ll lt sh ah e l sh = e sh
  | 0 => rfl
  | l + 1 => by rw [rdL_s, rdT_sh]; exact rdL_sh l
theorem rdn_sh {N : Net} {ll lt sh fr at_ : Int} : ∀ r : Nat, rdn N ll lt sh fr at_ r sh = 10000
  | 0 => rfl
  | r + 1 => rdL_sh _
-- what one had already, and what the round brings
theorem rdE_min {N : Net} {l t sh : Int} {ah e : Int → Int} (hm : ∀ i, 0 ≤ i → i < N.sz l → N.mi l t i ≤ 9000) (he : ∀ s, e s ≤ 10000) : ∀ i : Nat, (i : Int) ≤ N.sz l → ∀ s, rdE N l t sh ah e i s = min (e s) (rdE N l t sh ah (fun _ => 10000) i s)
  | 0, _, s => by
    have := he s
    show e s = min (e s) 10000
    omega
  | i + 1, hi, s => by
    have ih := rdE_min (sh := sh) (ah := ah) hm he i (by omega) s
    have := hm i (by omega) (by omega)
    rw [rdE_s, rdE_s]
    split <;> omega
theorem rdT_min {N : Net} {ll lt sh l : Int} {ah e : Int → Int} (hg : Good N) (l0 : 0 ≤ l) (l1 : l < N.ln) (he : ∀ s, e s ≤ 10000) : ∀ t : Nat, (t : Int) ≤ N.tr l → ∀ s, rdT N ll lt sh ah e l t s = min (e s) (rdT N ll lt sh ah (fun _ => 10000) l t s)
  | 0, _, s => by
    have := he s
    show e s = min (e s) 10000
    omega
  | t + 1, ht, s => by
    have ih := rdT_min (ll := ll) (lt := lt) (sh := sh) (ah := ah) hg l0 l1 he t (by omega)
    have hk := hg.lineK l0 l1
    rw [rdT_s, rdT_s]
    split
    · have hb : ∀ s, rdT N ll lt sh ah e l t s ≤ 10000 := rdT_pr (P := fun v => v ≤ 10000) hg l0 l1 (fun t i t0 t1 i0 i1 => by have := hg.min l0 l1 t0 t1 i0 i1; omega) he t (by omega)
      have hb2 : ∀ s, rdT N ll lt sh ah (fun _ => 10000) l t s ≤ 10000 := rdT_pr (P := fun v => v ≤ 10000) hg l0 l1 (fun t i t0 t1 i0 i1 => by have := hg.min l0 l1 t0 t1 i0 i1; omega) (fun _ => Int.le_refl _) t (by omega)
      have hm : ∀ i, 0 ≤ i → i < N.sz l → N.mi l t i ≤ 9000 := fun i i0 i1 => (hg.min l0 l1 (by omega) (by omega) i0 i1).2
      rw [rdE_min hm hb _ (by omega) s, rdE_min hm hb2 _ (by omega) s, ih s]
      omega
    · exact ih s
theorem rdL_min {N : Net} {ll lt sh : Int} {ah e : Int → Int} (hg : Good N) (he : ∀ s, e s ≤ 10000) : ∀ l : Nat, (l : Int) ≤ N.ln → ∀ s, rdL N ll lt sh ah e l s = min (e s) (rdL N ll lt sh ah (fun _ => 10000) l s)
  | 0, _, s => by
    have := he s
    show e s = min (e s) 10000
    omega
  | l + 1, hl, s => by
    have ih := rdL_min (ll := ll) (lt := lt) (sh := sh) (ah := ah) hg he l (by omega)
    have hk := hg.lineK (l := l) (by omega) (by omega)
    have hb : ∀ s, rdL N ll lt sh ah e l s ≤ 10000 := rdL_pr (P := fun v => v ≤ 10000) hg (fun l t i l0 l1 t0 t1 i0 i1 => by have := hg.min l0 l1 t0 t1 i0 i1; omega) he l (by omega)
    have hb2 : ∀ s, rdL N ll lt sh ah (fun _ => 10000) l s ≤ 10000 := rdL_pr (P := fun v => v ≤ 10000) hg (fun l t i l0 l1 t0 t1 i0 i1 => by have := hg.min l0 l1 t0 t1 i0 i1; omega) (fun _ => Int.le_refl _) l (by omega)
    rw [rdL_s, rdL_s, rdT_min hg (by omega) (by omega) hb _ (by omega) s, rdT_min hg (by omega) (by omega) hb2 _ (by omega) s, ih s]
    omega
-- one is there earlier: one goes on no later
theorem onB_anti {N : Net} {l t : Int} {ah ah2 : Int → Int} (hg : Good N) (l0 : 0 ≤ l) (l1 : l < N.ln) (h : ∀ s, 0 ≤ s → s < 12 → ah s ≤ ah2 s) : ∀ i : Nat, (i : Int) ≤ N.sz l → onB N l t ah2 i = true → onB N l t ah i = true
  | 0, _, q => q
  | i + 1, hi, q => by
    have ih := onB_anti (t := t) hg l0 l1 h i (by omega)
    have hs := hg.stop (i := (i : Int)) l0 l1 (by omega) (by omega)
    have := h _ hs.1 hs.2
    rw [onB_s, Bool.or_eq_true] at q ⊢
    rcases q with q | q
    · exact Or.inl (ih q)
    · have h1 := of_decide_eq_true q
      exact Or.inr (decide_eq_true (by omega))
theorem rdE_anti {N : Net} {l t sh : Int} {ah ah2 e e2 : Int → Int} (hg : Good N) (l0 : 0 ≤ l) (l1 : l < N.ln) (h : ∀ s, 0 ≤ s → s < 12 → ah s ≤ ah2 s) (he : ∀ s, e s ≤ e2 s) : ∀ i : Nat, (i : Int) ≤ N.sz l → ∀ s, rdE N l t sh ah e i s ≤ rdE N l t sh ah2 e2 i s
  | 0, _, s => he s
  | i + 1, hi, s => by
    have ih := rdE_anti (t := t) (sh := sh) hg l0 l1 h he i (by omega) s
    have ho := onB_anti (t := t) hg l0 l1 h i (by omega)
    rw [rdE_s, rdE_s]
    by_cases hc : s = N.sp l i ∧ onB N l t ah2 i = true ∧ s ≠ sh
    · rw [if_pos hc, if_pos ⟨hc.1, ho hc.2.1, hc.2.2⟩]
      omega
    · rw [if_neg hc]
      split <;> omega
theorem rdT_anti {N : Net} {ll lt sh l : Int} {ah ah2 e e2 : Int → Int} (hg : Good N) (l0 : 0 ≤ l) (l1 : l < N.ln) (h : ∀ s, 0 ≤ s → s < 12 → ah s ≤ ah2 s) (he : ∀ s, e s ≤ e2 s) : ∀ t : Nat, (t : Int) ≤ N.tr l → ∀ s, rdT N ll lt sh ah e l t s ≤ rdT N ll lt sh ah2 e2 l t s
  | 0, _, s => he s
  | t + 1, ht, s => by
    have ih := rdT_anti (ll := ll) (lt := lt) (sh := sh) hg l0 l1 h he t (by omega)
    have hk := hg.lineK l0 l1
    rw [rdT_s, rdT_s]
    split
    · exact rdE_anti hg l0 l1 h ih _ (by omega) s
    · exact ih s
theorem rdL_anti {N : Net} {ll lt sh : Int} {ah ah2 e e2 : Int → Int} (hg : Good N) (h : ∀ s, 0 ≤ s → s < 12 → ah s ≤ ah2 s) (he : ∀ s, e s ≤ e2 s) : ∀ l : Nat, (l : Int) ≤ N.ln → ∀ s, rdL N ll lt sh ah e l s ≤ rdL N ll lt sh ah2 e2 l s
  | 0, _, s => he s
  | l + 1, hl, s => by
    have ih := rdL_anti (ll := ll) (lt := lt) (sh := sh) hg h he l (by omega)
    have hk := hg.lineK (l := l) (by omega) (by omega)
    rw [rdL_s, rdL_s]
    exact rdT_anti hg (by omega) (by omega) h ih _ (by omega) s
theorem rdL_cong {N : Net} {ll lt sh : Int} {ah ah2 e : Int → Int} (hg : Good N) (h : ∀ s, 0 ≤ s → s < 12 → ah s = ah2 s) (l : Nat) (hl : (l : Int) ≤ N.ln) (s : Int) : rdL N ll lt sh ah e l s = rdL N ll lt sh ah2 e l s :=
  Int.le_antisymm (rdL_anti hg (fun s a b => by rw [h s a b]; exact Int.le_refl _) (fun _ => Int.le_refl _) l hl s) (rdL_anti hg (fun s a b => by rw [h s a b]; exact Int.le_refl _) (fun _ => Int.le_refl _) l hl s)
theorem wkM_mono {N : Net} {fr at_ at2 : Int} {e e2 : Int → Int} {s : Int} (hat : at_ ≤ at2) (ha2 : at2 < 10000) (s0 : 0 ≤ s) (s1 : s < 12) (h : ∀ q, 0 ≤ q → q < 12 → e q ≤ e2 q) (h2 : ∀ q, 0 ≤ q → q < 12 → e2 q ≤ 10000) : ∀ p : Nat, p ≤ 12 → wkM N fr at_ e s p ≤ wkM N fr at2 e2 s p
  | 0, _ => h s s0 s1
  | p + 1, hp => by
    have ih := wkM_mono (N := N) (fr := fr) hat ha2 s0 s1 h h2 p (by omega)
    have q1 := h p (by omega) (by omega)
    have q2 := h2 p (by omega) (by omega)
    rw [wkM_s, wkM_s]
    have hb : beg fr at_ e p ≤ beg fr at2 e2 p ∧ beg fr at2 e2 p ≤ 10000 := by
      unfold beg
      split <;> omega
    by_cases hc : N.pt p s ≠ 0 ∧ beg fr at2 e2 p ≠ 10000
    · rw [if_pos hc, if_pos ⟨hc.1, by omega⟩]
      omega
    · rw [if_neg hc]
      split <;> omega
theorem arv_mono {N : Net} {sh fr at_ at2 : Int} {e e2 : Int → Int} {s : Int} (hat : at_ ≤ at2) (ha2 : at2 < 10000) (s0 : 0 ≤ s) (s1 : s < 12) (h : ∀ q, 0 ≤ q → q < 12 → e q ≤ e2 q) (h2 : ∀ q, 0 ≤ q → q < 12 → e2 q ≤ 10000) : arv N sh fr at_ e s ≤ arv N sh fr at2 e2 s := by
  unfold arv
  split
  · exact Int.le_refl _
  · split
    · exact hat
    · exact wkM_mono hat ha2 s0 s1 h h2 12 (Nat.le_refl _)
theorem rdn_dec {N : Net} {ll lt sh fr at_ : Int} (hg : Good N) (ha : at_ ≤ 2000) : ∀ (r : Nat) (s : Int), rdn N ll lt sh fr at_ (r + 1) s ≤ rdn N ll lt sh fr at_ r s
  | 0, s => (rdn_bd hg 1 s).2
  | r + 1, s => by
    have ih := rdn_dec (ll := ll) (lt := lt) (sh := sh) (fr := fr) hg ha r
    have h0 := hg.1
    exact rdL_anti hg (fun q q0 q1 => arv_mono (Int.le_refl _) (by omega) q0 q1 (fun z _ _ => ih z) (fun z _ _ => (rdn_bd hg _ z).2)) (fun _ => Int.le_refl _) _ (by omega) s
/-- leaving later one is never there earlier -/
theorem rdn_later {N : Net} {ll lt sh fr at_ at2 : Int} (hg : Good N) (h : at_ ≤ at2) (ha : at2 ≤ 2000) : ∀ (r : Nat) (s : Int), rdn N ll lt sh fr at_ r s ≤ rdn N ll lt sh fr at2 r s
  | 0, s => Int.le_refl _
  | r + 1, s => by
    have ih := rdn_later (ll := ll) (lt := lt) (sh := sh) (fr := fr) hg h ha r
    have h0 := hg.1
    exact rdL_anti hg (fun q q0 q1 => arv_mono h (by omega) q0 q1 (fun z _ _ => ih z) (fun z _ _ => (rdn_bd hg _ z).2)) (fun _ => Int.le_refl _) _ (by omega) s
theorem bst_later {N : Net} {ll lt sh fr at_ at2 s : Int} (hg : Good N) (h : at_ ≤ at2) (ha : at2 ≤ 2000) (s0 : 0 ≤ s) (s1 : s < 12) (r : Nat) : bst N ll lt sh fr at_ r s ≤ bst N ll lt sh fr at2 r s :=
  arv_mono h (by omega) s0 s1 (fun z _ _ => rdn_later hg h ha r z) (fun z _ _ => (rdn_bd hg _ z).2)
theorem bst_dec {N : Net} {ll lt sh fr at_ s : Int} (hg : Good N) (ha : at_ ≤ 2000) (s0 : 0 ≤ s) (s1 : s < 12) (r : Nat) : bst N ll lt sh fr at_ (r + 1) s ≤ bst N ll lt sh fr at_ r s :=
  arv_mono (Int.le_refl _) (by omega) s0 s1 (fun z _ _ => rdn_dec hg ha r z) (fun z _ _ => (rdn_bd hg _ z).2)
theorem onB_ex {N : Net} {l t : Int} {ah : Int → Int} : ∀ i : Nat, onB N l t ah i = true → ∃ j : Nat, j < i ∧ ah (N.sp l j) ≤ N.mi l t j
  | 0, h => by cases h
  | i + 1, h => by
    rw [onB_s, Bool.or_eq_true] at h
    rcases h with h | h
    · obtain ⟨j, hj, q⟩ := onB_ex i h
      exact ⟨j, by omega, q⟩
    · exact ⟨i, by omega, of_decide_eq_true h⟩
theorem rdn_at {N : Net} {ll lt sh fr at_ : Int} (hg : Good N) (ha : at_ ≤ 2000) : ∀ (r : Nat) (s : Int), at_ ≤ rdn N ll lt sh fr at_ r s
  | 0, s => by
    show at_ ≤ 10000
    omega
  | r + 1, s => by
    have ih := rdn_at (ll := ll) (lt := lt) (sh := sh) (fr := fr) hg ha r
    have h0 := hg.1
    have hb : ∀ q, 0 ≤ q → q < 12 → at_ ≤ bst N ll lt sh fr at_ r q := by
      intro q q0 q1
      unfold bst arv
      split
      · omega
      · split
        · exact Int.le_refl _
        · exact wkM_ge hg q0 q1 (Int.le_refl _) (fun z _ _ => ih z) 12 (Nat.le_refl _)
    refine (rdL_bd (b := 10000) hg (fun l t i l0 l1 t0 t1 i0 i1 ho => ?_) (fun _ => by omega) _ (by omega) s).1
    obtain ⟨j, hj, q⟩ := onB_ex _ ho
    have hs := hg.stop (i := (j : Int)) l0 l1 (by omega) (by omega)
    have h1 := hb _ hs.1 hs.2
    have h2 := hg.mono l0 l1 t0 t1 (show (0 : Int) ≤ j by omega) (show (j : Int) ≤ i by omega) i1
    unfold bst at h1
    omega
theorem bst_at {N : Net} {ll lt sh fr at_ s : Int} (hg : Good N) (ha : at_ ≤ 2000) (s0 : 0 ≤ s) (s1 : s < 12) (r : Nat) : at_ ≤ bst N ll lt sh fr at_ r s := by
  unfold bst arv
  split
  · omega
  · split
    · exact Int.le_refl _
    · exact wkM_ge hg s0 s1 (Int.le_refl _) (fun z _ _ => rdn_at hg ha r z) 12 (Nat.le_refl _)
theorem bst_le {N : Net} {ll lt sh fr at_ s : Int} (hg : Good N) (ha : at_ ≤ 2000) (r : Nat) : bst N ll lt sh fr at_ r s ≤ 10000 := by
  unfold bst arv
  split
  · omega
  · split
    · omega
    · exact Int.le_trans (wkM_le _ _ _ _ _ _) (rdn_bd hg r s).2
theorem wkM_90 {N : Net} {fr at_ : Int} {e : Int → Int} {s : Int} (hg : Good N) (s0 : 0 ≤ s) (s1 : s < 12) (ha : at_ ≤ 2000) (he : ∀ q, 0 ≤ q → q < 12 → e q = 10000 ∨ e q ≤ 9000) : ∀ p : Nat, p ≤ 12 → wkM N fr at_ e s p = 10000 ∨ wkM N fr at_ e s p ≤ 9060
  | 0, _ => by
    rcases he s s0 s1 with q | q
    · exact Or.inl q
    · exact Or.inr (by show e s ≤ 9060; omega)
  | p + 1, hp => by
    have ih := wkM_90 (fr := fr) hg s0 s1 ha he p (by omega)
    have h1 := hg.path (a := p) (b := s) (by omega) (by omega) s0 s1
    have h2 := he p (by omega) (by omega)
    rw [wkM_s]
    unfold beg
    by_cases hc : (p : Int) = fr
    · rw [if_pos hc]
      split <;> omega
    · rw [if_neg hc]
      split <;> omega
theorem bst_90 {N : Net} {ll lt sh fr at_ s : Int} (hg : Good N) (ha : at_ ≤ 2000) (s0 : 0 ≤ s) (s1 : s < 12) (r : Nat) : bst N ll lt sh fr at_ r s = 10000 ∨ bst N ll lt sh fr at_ r s ≤ 9060 := by
  unfold bst arv
  split
  · exact Or.inl rfl
  · split
    · right; omega
    · exact wkM_90 hg s0 s1 ha (fun q _ _ => rdn_90 hg r q) 12 (Nat.le_refl _)
/-- the reference's rounds -/
def rdR (N : Net) (ll lt sh fr at_ : Int) : Nat → Int → Int
  | 0 => fun s => if s = fr then at_ else 10000
  | r + 1 => rdL N ll lt sh (fun s => wkR N sh (rdR N ll lt sh fr at_ r) s 12) (rdR N ll lt sh fr at_ r) N.ln.toNat
theorem rdR_le {N : Net} {ll lt sh fr at_ : Int} (hg : Good N) (ha : at_ ≤ 2000) : ∀ (r : Nat) (s : Int), rdR N ll lt sh fr at_ r s ≤ 10000
  | 0, s => by
    show (if s = fr then at_ else 10000) ≤ (10000 : Int)
    split <;> omega
  | r + 1, s => by
    have h0 := hg.1
    exact rdL_pr (P := fun v => v ≤ 10000) hg (fun l t i l0 l1 t0 t1 i0 i1 => by have := hg.min l0 l1 t0 t1 i0 i1; omega) (rdR_le hg ha r) _ (by omega) s
theorem wkR_le (N : Net) (sh : Int) (e : Int → Int) (s : Int) : ∀ p : Nat, wkR N sh e s p ≤ e s
  | 0 => Int.le_refl _
  | p + 1 => by
    have := wkR_le N sh e s p
    rw [wkR_s]
    split <;> omega
theorem wkR_ge {N : Net} {sh : Int} {e : Int → Int} {s b : Int} (hg : Good N) (s0 : 0 ≤ s) (s1 : s < 12) (he : ∀ q, 0 ≤ q → q < 12 → b ≤ e q) : ∀ p : Nat, p ≤ 12 → b ≤ wkR N sh e s p
  | 0, _ => he s s0 s1
  | p + 1, hp => by
    have := wkR_ge (sh := sh) hg s0 s1 he p (by omega)
    have h1 := hg.path (a := p) (b := s) (by omega) (by omega) s0 s1
    have h2 := he p (by omega) (by omega)
    rw [wkR_s]
    split <;> omega
theorem wkR_shut {N : Net} {sh : Int} {e : Int → Int} : ∀ p : Nat, wkR N sh e sh p = e sh
  | 0 => rfl
  | p + 1 => by rw [wkR_s, if_neg (fun q => q.2.2.1 rfl)]; exact wkR_shut p
theorem wk_same {N : Net} {sh fr at_ s : Int} {e e2 : Int → Int} (hg : Good N) (s0 : 0 ≤ s) (s1 : s < 12) (hs : s ≠ sh) (hf : s ≠ fr) (he : ∀ q, 0 ≤ q → q < 12 → e2 q = beg fr at_ e q) (hsh : ∀ q, 0 ≤ q → q < 12 → q = sh → e2 q = 10000) : ∀ p : Nat, p ≤ 12 → wkR N sh e2 s p = wkM N fr at_ e s p
  | 0, _ => by
    show e2 s = e s
    rw [he s s0 s1]
    unfold beg
    rw [if_neg hf]
  | p + 1, hp => by
    have ih := wk_same (N := N) hg s0 s1 hs hf he hsh p (by omega)
    have h1 := (hg.2.2 s s s0 s1 s0 s1).2.2
    rw [wkR_s, wkM_s, ih, he p (by omega) (by omega)]
    by_cases hc : N.pt p s ≠ 0 ∧ beg fr at_ e p ≠ 10000
    · rw [if_pos hc, if_pos ⟨fun q => hc.1 (by rw [q]; exact h1), fun q => hc.2 (by rw [← he p (by omega) (by omega)]; exact hsh p (by omega) (by omega) q), hs, hc⟩]
    · rw [if_neg hc, if_neg (fun q => hc q.2.2.2)]
/-- .. are the class's -/
theorem rdR_eq {N : Net} {ll lt sh fr at_ : Int} (hg : Good N) (ha0 : 0 ≤ at_) (ha : at_ ≤ 2000) (hsf : sh ≠ fr) : ∀ r : Nat, (∀ s, 0 ≤ s → s < 12 → rdR N ll lt sh fr at_ r s = beg fr at_ (rdn N ll lt sh fr at_ r) s) ∧ ∀ s, 0 ≤ s → s < 12 → wkR N sh (rdR N ll lt sh fr at_ r) s 12 = bst N ll lt sh fr at_ r s := by
  have second : ∀ r : Nat, (∀ s, 0 ≤ s → s < 12 → rdR N ll lt sh fr at_ r s = beg fr at_ (rdn N ll lt sh fr at_ r) s) → ∀ s, 0 ≤ s → s < 12 → wkR N sh (rdR N ll lt sh fr at_ r) s 12 = bst N ll lt sh fr at_ r s := by
    intro r h s s0 s1
    unfold bst arv
    by_cases h1 : s = sh
    · subst h1
      rw [if_pos rfl, wkR_shut, h s s0 s1]
      unfold beg
      rw [if_neg hsf]
      exact rdn_sh r
    · rw [if_neg h1]
      by_cases h2 : s = fr
      · subst h2
        rw [if_pos rfl]
        refine Int.le_antisymm ?_ ?_
        · refine Int.le_trans (wkR_le _ _ _ _ _) ?_
          rw [h s s0 s1]
          unfold beg
          rw [if_pos rfl]
          exact Int.le_refl _
        · refine wkR_ge hg s0 s1 (fun q q0 q1 => ?_) 12 (Nat.le_refl _)
          rw [h q q0 q1]
          unfold beg
          split
          · exact Int.le_refl _
          · exact rdn_at hg ha r q
      · rw [if_neg h2]
        refine wk_same hg s0 s1 h1 h2 h (fun q q0 q1 e => ?_) 12 (Nat.le_refl _)
        subst e
        rw [h q q0 q1]
        unfold beg
        rw [if_neg hsf]
        exact rdn_sh r
  intro r
  induction r with
  | zero => exact ⟨fun s _ _ => rfl, second 0 (fun s _ _ => rfl)⟩
  | succ r ih =>
    have h0 := hg.1
    have first : ∀ s, 0 ≤ s → s < 12 → rdR N ll lt sh fr at_ (r + 1) s = beg fr at_ (rdn N ll lt sh fr at_ (r + 1)) s := by
      intro s s0 s1
      show rdL N ll lt sh (fun s => wkR N sh (rdR N ll lt sh fr at_ r) s 12) (rdR N ll lt sh fr at_ r) N.ln.toNat s = _
      rw [rdL_cong hg ih.2 _ (by omega), rdL_min hg (rdR_le hg ha r) _ (by omega)]
      show min (rdR N ll lt sh fr at_ r s) (rdn N ll lt sh fr at_ (r + 1) s) = _
      rw [ih.1 s s0 s1]
      unfold beg
      have h1 := rdn_at (ll := ll) (lt := lt) (sh := sh) (fr := fr) hg ha (r + 1) s
      have h2 := rdn_dec (ll := ll) (lt := lt) (sh := sh) (fr := fr) hg ha r s
      split <;> omega
    exact ⟨first, second _ first⟩
