/-! worst, cut -/
/-- which of them loses most, and how much: the first of those that lose most -/
def mx (f code : Int → Int) : Nat → Int × Int
  | 0 => (-5, 0)
  | k + 1 => if (mx f code k).2 < f k then (code k, f k) else mx f code k
theorem mx_s (f code : Int → Int) (k : Nat) : mx f code (k + 1) = if (mx f code k).2 < f k then (code k, f k) else mx f code k := rfl
theorem mx_bd {f code : Int → Int} : ∀ n : Nat, (∀ k : Nat, k < n → 0 ≤ code k ∧ f k ≤ 10000) → (0 ≤ (mx f code n).2 ∧ (mx f code n).2 ≤ 10000) ∧ ((mx f code n).1 = -5 ∨ 0 ≤ (mx f code n).1)
  | 0, _ => ⟨⟨Int.le_refl _, by show (0 : Int) ≤ 10000; omega⟩, Or.inl rfl⟩
  | n + 1, h => by
    have ih := mx_bd n (fun k hk => h k (by omega))
    have hn := h n (by omega)
    rw [mx_s]
    split
    · exact ⟨⟨by show 0 ≤ f n; omega, hn.2⟩, Or.inr hn.1⟩
    · exact ih
theorem mx_skip {f code : Int → Int} {k : Nat} (h0 : 0 ≤ (mx f code k).2) : ∀ d : Nat, (∀ j : Nat, k ≤ j → j < k + d → f j ≤ 0) → mx f code (k + d) = mx f code k
  | 0, _ => rfl
  | d + 1, h => by
    have ih := mx_skip h0 d (fun j j0 j1 => h j j0 (by omega))
    have := h (k + d) (by omega) (by omega)
    rw [show k + (d + 1) = (k + d) + 1 by omega, mx_s, ih, if_neg (by omega)]
def lsA (p : Int × Int) (w : Int) : Int := if p.1 = -5 then -5 else if w = 0 then p.1 else p.2
def wsF (N : Net) (fr at_ to r : Int) (j : Int) : Int := if j / 6 < N.ln ∧ j % 6 < N.tr (j / 6) then bst N (j / 6) (j % 6) (-1) fr at_ r.toNat to - BS N fr at_ r to else 0
def wsC (j : Int) : Int := 10 * (j / 6) + j % 6
def ctF (N : Net) (fr at_ to r : Int) (s : Int) : Int := if s = fr ∨ s = to then 0 else bst N (-1) (-1) s fr at_ r.toNat to - BS N fr at_ r to
def fWorst (N : Net) (fr at_ to r w : Int) : Int := if w < 0 ∨ 1 < w then -1 else if rfz fr at_ to r = 0 then lsA (mx (wsF N fr at_ to r) wsC (6 * N.ln.toNat)) w else rfz fr at_ to r
def fCut (N : Net) (fr at_ to r w : Int) : Int := if w < 0 ∨ 1 < w ∨ fr = to then -1 else if rfz fr at_ to r = 0 then lsA (mx (ctF N fr at_ to r) (fun s => s) 12) w else rfz fr at_ to r
theorem bst_bd {N : Net} {ll lt sh fr at_ s : Int} (hg : Good N) (ha : 0 ≤ at_ ∧ at_ ≤ 2000) (s0 : 0 ≤ s) (s1 : s < 12) (r : Nat) : 0 ≤ bst N ll lt sh fr at_ r s ∧ bst N ll lt sh fr at_ r s ≤ 10000 := ⟨Int.le_trans ha.1 (bst_at hg ha.2 s0 s1 r), bst_le hg ha.2 r⟩
theorem wsF_bd {N : Net} {fr at_ to r : Int} (hg : Good N) (ha : 0 ≤ at_ ∧ at_ ≤ 2000) (s0 : 0 ≤ to) (s1 : to < 12) (j : Int) : wsF N fr at_ to r j ≤ 10000 := by
  have h1 := bst_bd (ll := j / 6) (lt := j % 6) (sh := -1) (fr := fr) hg ha s0 s1 r.toNat
  have h2 : 0 ≤ BS N fr at_ r to ∧ BS N fr at_ r to ≤ 10000 := bst_bd hg ha s0 s1 r.toNat
  unfold wsF
  split <;> omega
theorem ctF_bd {N : Net} {fr at_ to r : Int} (hg : Good N) (ha : 0 ≤ at_ ∧ at_ ≤ 2000) (s0 : 0 ≤ to) (s1 : to < 12) (j : Int) : ctF N fr at_ to r j ≤ 10000 := by
  have h1 := bst_bd (ll := -1) (lt := -1) (sh := j) (fr := fr) hg ha s0 s1 r.toNat
  have h2 : 0 ≤ BS N fr at_ r to ∧ BS N fr at_ r to ≤ 10000 := bst_bd hg ha s0 s1 r.toNat
  unfold ctF
  split <;> omega
theorem c_lostTrip {N : Net} {M : Mem} {Q : Int → Mem → Prop} {fr at_ to r l t : Int} (hI : IN N M) (hat : 0 ≤ at_ ∧ at_ ≤ 2000) (hr : 0 ≤ r ∧ r ≤ 6) (s0 : 0 ≤ to) (s1 : to < 12) (hQ : ∀ M1, Sc M M1 → Q (bst N l t (-1) fr at_ r.toNat to) M1) : Calls mX6_arrivalWithoutTrip [(2, 229), (0, fr), (0, at_), (0, to), (0, r), (0, l), (0, t)] S0 M Q := by
  obtain ⟨a1, a2, a3, -, -⟩ := hI.lo
  have hf : frm 229 230 M (up2 (up2 M 229 3 l) 229 4 t) := (frm.rf.up (by omega) (by omega)).up (by omega) (by omega)
  refine E_Search_arrivalWithoutTrip (B_Search_arrivalWithoutTrip_0 ?_)
  refine c_run (ll := l) (lt := t) (sh := -1) hI.g (hI.c.frm hf (by omega) hI.g) (by unfold up2; rw [if_neg (by omega), if_pos (by omega)]) (by unfold up2; rw [if_pos (by omega)]) (by unfold up2; rw [if_neg (by omega), if_neg (by omega)]; exact a3) hat hr (fun M1 hf1 hb => ⟨by omega, by omega, ?_⟩)
  have := hb r.toNat (by omega) to s0 s1
  rw [show ((r.toNat : Nat) : Int) = r by omega] at this
  rw [up2_ne (by omega), up2_ne (by omega), up2_ne (by omega), this]
  refine hQ _ (fun a i q => ?_)
  unfold up2
  by_cases h5 : a = 229 ∧ i = 5
  · rw [if_pos h5, h5.1, h5.2, a3]
  · by_cases h4 : a = 229 ∧ i = 4
    · rw [if_neg h5, if_pos h4, h4.1, h4.2, a2]
    · by_cases h3 : a = 229 ∧ i = 3
      · rw [if_neg h5, if_neg h4, if_pos h3, h3.1, h3.2, a1]
      · rw [if_neg h5, if_neg h4, if_neg h3, hf1 a i (by unfold scr at q; omega)]
        unfold up2
        rw [if_neg h4, if_neg h3]
theorem c_lostStop {N : Net} {M : Mem} {Q : Int → Mem → Prop} {fr at_ to r s : Int} (hI : IN N M) (hat : 0 ≤ at_ ∧ at_ ≤ 2000) (hr : 0 ≤ r ∧ r ≤ 6) (s0 : 0 ≤ to) (s1 : to < 12) (hQ : ∀ M1, Sc M M1 → Q (bst N (-1) (-1) s fr at_ r.toNat to) M1) : Calls mX6_arrivalWithoutStop [(2, 229), (0, fr), (0, at_), (0, to), (0, r), (0, s)] S0 M Q := by
  obtain ⟨a1, a2, a3, -, -⟩ := hI.lo
  have hf : frm 229 230 M (up2 M 229 5 s) := frm.rf.up (by omega) (by omega)
  refine E_Search_arrivalWithoutStop (B_Search_arrivalWithoutStop_0 ?_)
  refine c_run (ll := -1) (lt := -1) (sh := s) hI.g (hI.c.frm hf (by omega) hI.g) (by unfold up2; rw [if_neg (by omega)]; exact a1) (by unfold up2; rw [if_neg (by omega)]; exact a2) (by unfold up2; rw [if_pos (by omega)]) hat hr (fun M1 hf1 hb => ⟨by omega, by omega, ?_⟩)
  have := hb r.toNat (by omega) to s0 s1
  rw [show ((r.toNat : Nat) : Int) = r by omega] at this
  rw [up2_ne (by omega), up2_ne (by omega), up2_ne (by omega), this]
  refine hQ _ (fun a i q => ?_)
  unfold up2
  by_cases h5 : a = 229 ∧ i = 5
  · rw [if_pos h5, h5.1, h5.2, a3]
  · by_cases h4 : a = 229 ∧ i = 4
    · rw [if_neg h5, if_pos h4, h4.1, h4.2, a2]
    · by_cases h3 : a = 229 ∧ i = 3
      · rw [if_neg h5, if_neg h4, if_pos h3, h3.1, h3.2, a1]
      · rw [if_neg h5, if_neg h4, if_neg h3, hf1 a i (by unfold scr at q; omega)]
        unfold up2
        rw [if_neg h5]
set_option maxHeartbeats 4000000 in
theorem c_worst {N : Net} {M : Mem} {Q : Int → Mem → Prop} {fr at_ to r w : Int} (hI : IN N M) (hQ : ∀ M1, Sc M M1 → Q (fWorst N fr at_ to r w) M1) : Calls mX8_worst [(2, 0), (0, fr), (0, at_), (0, to), (0, r), (0, w)] S0 M Q := by
  have hg := hI.g
  have hc := rfz_cases fr at_ to r
  have h0 := hg.1
  unfold fWorst at hQ
  have hQ0 := hQ M Sc.rf
  refine E_C_worst (B_C_worst_0 ⟨fun q0 => ?_, fun q0 => ⟨fun q1 => c_refusal ⟨fun q => ?_, fun q => ?_⟩, fun q1 => ?_⟩⟩)
  · rw [if_pos (by omega)] at hQ0
    exact hQ0
  rotate_left
  · rw [if_neg (by omega), if_neg q] at hQ0
    exact hQ0
  · rw [if_pos (by omega)] at hQ0
    exact hQ0
  rw [if_neg (by omega), if_pos q] at hQ
  refine c_run0 hI (by omega) (by omega) (fun M1 hs hb => ⟨by omega, by omega, ?_⟩)
  rw [hb r to (by omega) (by omega) (by omega) (by omega)]
  have hbd : ∀ n : Nat, (0 ≤ (mx (wsF N fr at_ to r) wsC n).2 ∧ (mx (wsF N fr at_ to r) wsC n).2 ≤ 10000) ∧ ((mx (wsF N fr at_ to r) wsC n).1 = -5 ∨ 0 ≤ (mx (wsF N fr at_ to r) wsC n).1) := fun n => mx_bd n (fun k _ => ⟨by unfold wsC; omega, wsF_bd hg (by omega) (by omega) (by omega) k⟩)
  have hB : 0 ≤ BS N fr at_ r to ∧ BS N fr at_ r to ≤ 10000 := bst_bd hg (by omega) (by omega) (by omega) _
  have key : ∀ k : Nat, k ≤ N.ln.toNat → ∀ m c i M1, Sc M M1 → m = (mx (wsF N fr at_ to r) wsC (6 * k)).2 → c = (mx (wsF N fr at_ to r) wsC (6 * k)).1 → i = (k : Int) → AW mX8_worst 55 [(2, 0), (0, fr), (0, at_), (0, to), (0, r), (0, w), (9, 0), (0, BS N fr at_ r to), (0, m), (0, c), (0, i), (9, 0), (9, 0)] M1 Q := by
    refine up_ind _ ?_ ?_
    · intro m c i M1 hs hm hcc hi
      have hln := (hI.sc hs).c.lines
      have hx := hQ M1 hs
      unfold lsA at hx
      rw [← hm, ← hcc] at hx
      refine B_C_worst_55 ⟨fun _ => ⟨fun z => ⟨fun z2 => ?_, fun z2 => ?_⟩, fun z => ?_⟩, fun z => absurd (by omega) z⟩
      · rw [if_neg z, if_neg z2] at hx
        exact hx
      · rw [if_neg z, if_pos z2] at hx
        exact hx
      · rw [if_pos z] at hx
        exact hx
    · intro k hk ih m c i M1 hs hm hcc hi
      have hln := (hI.sc hs).c.lines
      have hkk := hg.lineK (l := i) (by omega) (by omega)
      refine B_C_worst_55 ⟨fun z => absurd z (by omega), fun _ => ?_⟩
      have inner : ∀ n : Nat, n ≤ (N.tr i).toNat → ∀ m c j M1, Sc M M1 → m = (mx (wsF N fr at_ to r) wsC (6 * k + n)).2 → c = (mx (wsF N fr at_ to r) wsC (6 * k + n)).1 → j = (n : Int) → AW mX8_worst 70 [(2, 0), (0, fr), (0, at_), (0, to), (0, r), (0, w), (9, 0), (0, BS N fr at_ r to), (0, m), (0, c), (0, i), (0, j), (9, 0)] M1 Q := by
        refine up_ind _ ?_ ?_
        · intro m c j M1 hs hm hcc hj
          have htr := ((hI.sc hs).c.line (l := i) (by omega) (by omega)).2.2
          have e := mx_skip (f := wsF N fr at_ to r) (code := wsC) (k := 6 * k + (N.tr i).toNat) (hbd _).1.1 (6 - (N.tr i).toNat) (fun j j0 j1 => by
            unfold wsF
            rw [show (j : Int) / 6 = i by omega]
            rw [if_neg (by omega)]
            exact Int.le_refl _)
          rw [show 6 * k + (N.tr i).toNat + (6 - (N.tr i).toNat) = 6 * (k + 1) by omega] at e
          exact B_C_worst_70 ⟨by omega, fun _ => ⟨by omega, ih _ _ _ _ hs (by rw [e]; exact hm) (by rw [e]; exact hcc) (by omega)⟩, fun z => absurd (by omega) z⟩
        · intro n hn ih2 m c j M1 hs hm hcc hj
          have htr := ((hI.sc hs).c.line (l := i) (by omega) (by omega)).2.2
          have b1 := bst_bd (ll := i) (lt := j) (sh := -1) (fr := fr) hg (at_ := at_) (s := to) (by omega) (by omega) (by omega) r.toNat
          have b2 := (hbd (6 * k + n)).1
          have ef : wsF N fr at_ to r ((6 * k + n : Nat) : Int) = bst N i j (-1) fr at_ r.toNat to - BS N fr at_ r to := by
            unfold wsF
            rw [show ((6 * k + n : Nat) : Int) / 6 = i by omega, show ((6 * k + n : Nat) : Int) % 6 = j by omega, if_pos (by omega)]
          have ec : wsC ((6 * k + n : Nat) : Int) = 10 * i + j := by unfold wsC; omega
          refine B_C_worst_70 ⟨by omega, fun z => absurd z (by omega), fun _ => c_lostTrip (hI.sc hs) (by omega) (by omega) (by omega) (by omega) (fun M2 hs2 => ⟨by omega, fun z => ⟨by omega, ih2 _ _ _ _ (hs.tr hs2) ?_ ?_ (by omega)⟩, fun z => ⟨by omega, by omega, by omega, ih2 _ _ _ _ (hs.tr hs2) ?_ ?_ (by omega)⟩⟩)⟩
          · rw [show 6 * k + (n + 1) = (6 * k + n) + 1 by omega, mx_s, if_neg (by omega)]
            exact hm
          · rw [show 6 * k + (n + 1) = (6 * k + n) + 1 by omega, mx_s, if_neg (by omega)]
            exact hcc
          · rw [show 6 * k + (n + 1) = (6 * k + n) + 1 by omega, mx_s, if_pos (by omega)]
            exact ef.symm
          · rw [show 6 * k + (n + 1) = (6 * k + n) + 1 by omega, mx_s, if_pos (by omega)]
            exact ec.symm
      exact inner 0 (Nat.zero_le _) _ _ 0 _ hs hm hcc rfl
  exact key 0 (Nat.zero_le _) _ _ 0 _ hs rfl rfl rfl
/-- as Sc, but for the trip and the stop that are lost -/
def Sl (M M1 : Mem) : Prop := ∀ a i, ¬ scr a i → ¬ (a = 275 ∧ (i = 9 ∨ i = 10)) → M1 a i = M a i
theorem Sc.sl {M M1 : Mem} (h : Sc M M1) : Sl M M1 := fun a i q _ => h a i q
theorem Sl.rh {N : Net} {M M1 : Mem} (hI : IN N M) (h : Sl M M1) : RH N M1 := hI.r.keep (fun a i q => h a i (by unfold scr; omega) (by omega))
theorem r_roundsL {N : Net} {M M0 : Mem} {Q : Int → Mem → Prop} {ll lt sh fr at_ : Int} (hI : IN N M0) (hl : Sl M0 M) (hlost : ∀ l t, 0 ≤ l → 0 ≤ t → t < 6 → (M 275 9 = 6 * l + t ↔ l = ll ∧ t = lt)) (hsh : M 275 10 = sh) (hsf : sh ≠ fr) (f0 : 0 ≤ fr) (f1 : fr < 12) (hat : 0 ≤ at_ ∧ at_ ≤ 2000)
    (hQ : ∀ M1, Sl M0 M1 → M1 275 9 = M 275 9 → M1 275 10 = M 275 10 → (∀ k s, 0 ≤ k → k ≤ 6 → 0 ≤ s → s < 12 → M1 284 (12 * k + s) = upv (bst N ll lt sh fr at_ k.toNat s)) → Q 0 M1) : Calls mX9_layRounds [(2, 275), (0, fr), (0, at_)] S0 M Q := by
  refine r_layRounds (ll := ll) (lt := lt) hI.g (hl.rh hI) hlost hsh hsf f0 f1 hat.1 hat.2 (fun M1 hf _ hro => hQ M1 (fun a i q q2 => (hf a i (by unfold scr at q; omega) (by unfold scr at q; omega) (by unfold scr at q; omega)).trans (hl a i q q2)) (hf _ _ (by omega) (by omega) (by omega)) (hf _ _ (by omega) (by omega) (by omega)) (fun k s k0 k1 s0 s1 => ?_))
  have := hro.2 k.toNat (by omega) s s0 s1
  rw [show ((k.toNat : Nat) : Int) = k by omega] at this
  exact this
theorem Sl.up {M M1 : Mem} {i v : Int} (h : Sl M M1) (hi : i = 9 ∨ i = 10) : Sl M (up2 M1 275 i v) := fun b j q q2 => by
  unfold up2
  rw [if_neg (by omega)]
  exact h b j q q2
theorem Sl.back {M M1 : Mem} {i : Int} (h : Sl M M1) (hi : i = 9 ∧ M 275 9 = -1 ∧ M1 275 10 = M 275 10 ∨ i = 10 ∧ M 275 10 = -1 ∧ M1 275 9 = M 275 9) : Sc M (up2 M1 275 i (-1)) := fun b j q => by
  unfold up2
  by_cases h1 : b = 275 ∧ j = i
  · rw [if_pos h1, h1.1, h1.2]
    rcases hi with ⟨z, z2, -⟩ | ⟨z, z2, -⟩
    · rw [z, z2]
    · rw [z, z2]
  · rw [if_neg h1]
    by_cases h2 : b = 275 ∧ (j = 9 ∨ j = 10)
    · rw [h2.1]
      rcases hi with ⟨z, -, z2⟩ | ⟨z, -, z2⟩
      · rw [show j = 10 by omega, z2]
      · rw [show j = 9 by omega, z2]
    · exact h b j q h2
set_option maxHeartbeats 8000000 in
theorem r_worst {N : Net} {M : Mem} {Q : Int → Mem → Prop} {fr at_ to r w : Int} (hI : IN N M) (hQ : ∀ M1, Sc M M1 → Q (fWorst N fr at_ to r w) M1) : Calls mX9_worst [(2, 275), (0, fr), (0, at_), (0, to), (0, r), (0, w)] S0 M Q := by
  have hg := hI.g
  have hc := rfz_cases fr at_ to r
  have h0 := hg.1
  obtain ⟨-, -, -, a4, a5⟩ := hI.lo
  have hS : Sc M (up2 M 275 8 0) := Sc.rf.up scr8
  have hv : ∀ v, v = fWorst N fr at_ to r w → Q v (up2 M 275 8 0) := fun v h => h ▸ hQ _ hS
  refine E_R_worst (B_R_worst_0 ?_)
  repeat' (first | refine And.intro ?_ ?_ | refine imp_i (fun _ => ?_))
  all_goals try (exact hv _ (by unfold fWorst rfz; (repeat' split) <;> omega))
  refine r_wrong ⟨fun q => ?_, fun q => hv _ ?_⟩
  rotate_left
  · unfold fWorst
    rw [if_neg (by omega), if_neg (by omega)]
    unfold rfz
    rw [if_neg (by omega), if_pos (by omega)]
  unfold fWorst at hQ
  rw [if_neg (by omega), if_pos (by omega)] at hQ
  have hbd : ∀ n : Nat, (0 ≤ (mx (wsF N fr at_ to r) wsC n).2 ∧ (mx (wsF N fr at_ to r) wsC n).2 ≤ 10000) ∧ ((mx (wsF N fr at_ to r) wsC n).1 = -5 ∨ 0 ≤ (mx (wsF N fr at_ to r) wsC n).1) := fun n => mx_bd n (fun k _ => ⟨by unfold wsC; omega, wsF_bd hg (by omega) (by omega) (by omega) k⟩)
  have hB : 0 ≤ BS N fr at_ r to ∧ BS N fr at_ r to ≤ 10000 := bst_bd hg (by omega) (by omega) (by omega) _
  have key : ∀ k : Nat, k ≤ N.ln.toNat → ∀ m c i M1, Sl M M1 → M1 275 10 = M 275 10 → m = (mx (wsF N fr at_ to r) wsC (6 * k)).2 → c = (mx (wsF N fr at_ to r) wsC (6 * k)).1 → i = (k : Int) → AW mX9_worst 67 [(2, 275), (0, fr), (0, at_), (0, to), (0, r), (0, w), (0, BS N fr at_ r to), (0, m), (0, c), (0, i), (9, 0), (9, 0)] M1 Q := by
    refine up_ind _ ?_ ?_
    · intro m c i M1 hs h10 hm hcc hi
      have hln := (hs.rh hI).1
      have hx := hQ _ (hs.back (i := 9) (Or.inl ⟨rfl, a4, h10⟩))
      have hb2 := (hbd (6 * N.ln.toNat)).2
      unfold lsA at hx
      rw [← hm, ← hcc] at hx
      rw [← hcc] at hb2
      refine B_R_worst_67 ⟨fun _ => ⟨fun z => ?_, fun z => ⟨fun z2 => ?_, fun z2 => ?_⟩⟩, fun z => absurd (by omega) z⟩
      · rw [if_pos (by omega)] at hx
        rw [show c = -5 by omega]
        exact hx
      · rw [if_neg (by omega), if_neg z2] at hx
        exact hx
      · rw [if_neg (by omega), if_pos z2] at hx
        exact hx
    · intro k hk ih m c i M1 hs h10 hm hcc hi
      have hln := (hs.rh hI).1
      have hkk := hg.lineK (l := i) (by omega) (by omega)
      refine B_R_worst_67 ⟨fun z => absurd z (by omega), fun _ => ?_⟩
      have inner : ∀ n : Nat, n ≤ (N.tr i).toNat → ∀ m c j M1, Sl M M1 → M1 275 10 = M 275 10 → m = (mx (wsF N fr at_ to r) wsC (6 * k + n)).2 → c = (mx (wsF N fr at_ to r) wsC (6 * k + n)).1 → j = (n : Int) → AW mX9_worst 79 [(2, 275), (0, fr), (0, at_), (0, to), (0, r), (0, w), (0, BS N fr at_ r to), (0, m), (0, c), (0, i), (0, j), (9, 0)] M1 Q := by
        refine up_ind _ ?_ ?_
        · intro m c j M1 hs h10 hm hcc hj
          have htr := ((hs.rh hI).line (l := i) (by omega) (by omega)).2.2
          have e := mx_skip (f := wsF N fr at_ to r) (code := wsC) (k := 6 * k + (N.tr i).toNat) (hbd _).1.1 (6 - (N.tr i).toNat) (fun j j0 j1 => by
            unfold wsF
            rw [show (j : Int) / 6 = i by omega]
            rw [if_neg (by omega)]
            exact Int.le_refl _)
          rw [show 6 * k + (N.tr i).toNat + (6 - (N.tr i).toNat) = 6 * (k + 1) by omega] at e
          exact B_R_worst_79 ⟨by omega, fun _ => ⟨by omega, ih _ _ _ _ hs h10 (by rw [e]; exact hm) (by rw [e]; exact hcc) (by omega)⟩, fun z => absurd (by omega) z⟩
        · intro n hn ih2 m c j M1 hs h10 hm hcc hj
          have htr := ((hs.rh hI).line (l := i) (by omega) (by omega)).2.2
          have b1 := bst_bd (ll := i) (lt := j) (sh := -1) (fr := fr) hg (at_ := at_) (s := to) (by omega) (by omega) (by omega) r.toNat
          have b2 := (hbd (6 * k + n)).1
          have ef : wsF N fr at_ to r ((6 * k + n : Nat) : Int) = bst N i j (-1) fr at_ r.toNat to - BS N fr at_ r to := by
            unfold wsF
            rw [show ((6 * k + n : Nat) : Int) / 6 = i by omega, show ((6 * k + n : Nat) : Int) % 6 = j by omega, if_pos (by omega)]
          have ec : wsC ((6 * k + n : Nat) : Int) = 10 * i + j := by unfold wsC; omega
          refine B_R_worst_79 ⟨by omega, fun z => absurd z (by omega), fun _ => ⟨by omega, by omega, ?_⟩⟩
          refine r_roundsL (ll := i) (lt := j) (sh := -1) hI (hs.up (Or.inl rfl)) (fun l t l0 t0 t1 => by unfold up2; rw [if_pos (by omega)]; omega) (by unfold up2; rw [if_neg (by omega), h10]; exact a5) (by omega) (by omega) (by omega) (by omega) (fun M2 hs2 _ h10b hb => ⟨by omega, by omega, by omega, ?_⟩)
          have h10c : M2 275 10 = M 275 10 := by rw [h10b]; unfold up2; rw [if_neg (by omega)]; exact h10
          rw [hb r to (by omega) (by omega) (by omega) (by omega)]
          have go : ∀ d, d = bst N i j (-1) fr at_ r.toNat to - BS N fr at_ r to → ((d ≤ m → (-2147483648 ≤ j + 1 ∧ j + 1 ≤ 2147483647) ∧ AW mX9_worst 79 [(2, 275), (0, fr), (0, at_), (0, to), (0, r), (0, w), (0, BS N fr at_ r to), (0, m), (0, c), (0, i), (0, j + 1), (9, 0)] M2 Q) ∧ (¬ (d ≤ m) → (-2147483648 ≤ 10 * i ∧ 10 * i ≤ 2147483647) ∧ (-2147483648 ≤ (10 * i) + j ∧ (10 * i) + j ≤ 2147483647) ∧ (-2147483648 ≤ j + 1 ∧ j + 1 ≤ 2147483647) ∧ AW mX9_worst 79 [(2, 275), (0, fr), (0, at_), (0, to), (0, r), (0, w), (0, BS N fr at_ r to), (0, d), (0, (10 * i) + j), (0, i), (0, j + 1), (9, 0)] M2 Q)) := by
            intro d hd
            refine ⟨fun z => ⟨by omega, ih2 _ _ _ _ hs2 h10c ?_ ?_ (by omega)⟩, fun z => ⟨by omega, by omega, by omega, ih2 _ _ _ _ hs2 h10c ?_ ?_ (by omega)⟩⟩
            · rw [show 6 * k + (n + 1) = (6 * k + n) + 1 by omega, mx_s, if_neg (by omega)]
              exact hm
            · rw [show 6 * k + (n + 1) = (6 * k + n) + 1 by omega, mx_s, if_neg (by omega)]
              exact hcc
            · rw [show 6 * k + (n + 1) = (6 * k + n) + 1 by omega, mx_s, if_pos (by omega)]
              exact hd.trans ef.symm
            · rw [show 6 * k + (n + 1) = (6 * k + n) + 1 by omega, mx_s, if_pos (by omega)]
              exact ec.symm
          refine ⟨fun z => ⟨?_, go _ ?_⟩, fun z => ⟨by omega, go _ ?_⟩⟩
          · unfold upv at z ⊢
            split at z
            · omega
            · rename_i e
              rw [if_neg e]
              omega
          · unfold upv at z ⊢
            split at z
            · omega
            · rename_i e
              rw [if_neg e]
          · unfold upv at z
            split at z <;> omega
      exact inner 0 (Nat.zero_le _) _ _ 0 _ hs h10 hm hcc rfl
  refine r_rounds0 (hI.sc hS) (by omega) (by omega) (by omega) (fun M1 hs _ hb _ => ⟨by omega, by omega, by omega, ?_⟩)
  have h10 : M1 275 10 = M 275 10 := (hS.tr hs) _ _ (by unfold scr; omega)
  rw [hb r to (by omega) (by omega) (by omega) (by omega)]
  refine ⟨fun z => ?_, fun z => ?_⟩
  · have e : upv (BS N fr at_ r to) = BS N fr at_ r to := by
      unfold upv at z ⊢
      split at z
      · omega
      · rename_i e
        rw [if_neg e]
    rw [e]
    exact key 0 (Nat.zero_le _) _ _ 0 _ (hS.tr hs).sl h10 rfl rfl rfl
  · have e : (10000 : Int) = BS N fr at_ r to := by
      unfold upv at z
      split at z <;> omega
    have := key 0 (Nat.zero_le _) _ _ 0 M1 (hS.tr hs).sl h10 rfl rfl rfl
    rw [← e] at this
    exact this
