/-! A PART OF A TABLE: lines -/
def nLine (N : Net) (kd sz : Int) (f : Int → Int) : Net := (N.ln + 1, (fun x => if x = N.ln then kd else N.kd x), (fun x => if x = N.ln then sz else N.sz x), (fun x => if x = N.ln then 0 else N.tr x), (fun x i => if x = N.ln then f i else N.sp x i), N.mi, N.rn, N.pt, N.fi)
theorem nLine_ln (N : Net) (kd sz : Int) (f : Int → Int) : (nLine N kd sz f).ln = N.ln + 1 := rfl
theorem nLine_kd (N : Net) (kd sz : Int) (f : Int → Int) (x : Int) : (nLine N kd sz f).kd x = if x = N.ln then kd else N.kd x := rfl
theorem nLine_sz (N : Net) (kd sz : Int) (f : Int → Int) (x : Int) : (nLine N kd sz f).sz x = if x = N.ln then sz else N.sz x := rfl
theorem nLine_tr (N : Net) (kd sz : Int) (f : Int → Int) (x : Int) : (nLine N kd sz f).tr x = if x = N.ln then 0 else N.tr x := rfl
theorem nLine_sp (N : Net) (kd sz : Int) (f : Int → Int) (x i : Int) : (nLine N kd sz f).sp x i = if x = N.ln then f i else N.sp x i := rfl
theorem nLine_good {N : Net} {kd sz : Int} {f : Int → Int} (hg : Good N) (h8 : N.ln < 8) (hk : 0 ≤ kd ∧ kd ≤ 5) (hs : 2 ≤ sz ∧ sz ≤ 6) (hb : ∀ i, 0 ≤ i → i < sz → 0 ≤ f i ∧ f i < 12) (hd : ∀ i j, 0 ≤ i → i < sz → 0 ≤ j → j < sz → f i = f j → i = j) : Good (nLine N kd sz f) := by
  obtain ⟨h1, h2, h3⟩ := hg
  refine ⟨by rw [nLine_ln]; omega, fun x x0 x1 => ?_, h3⟩
  rw [nLine_ln] at x1
  unfold GoodL
  rw [nLine_kd, nLine_sz, nLine_tr]
  by_cases e : x = N.ln
  · rw [if_pos e, if_pos e, if_pos e]
    refine ⟨hk, hs, by omega, fun i i0 i1 => ?_, fun i j i0 i1 j0 j1 hij => ?_, fun t t0 t1 => absurd t1 (by omega)⟩
    · rw [nLine_sp, if_pos e]
      exact hb i i0 i1
    · rw [nLine_sp, nLine_sp, if_pos e, if_pos e] at hij
      exact hd i j i0 i1 j0 j1 hij
  · rw [if_neg e, if_neg e, if_neg e]
    obtain ⟨g1, g2, g3, g4, g5, g6⟩ := h2 x x0 (by omega)
    refine ⟨g1, g2, g3, fun i i0 i1 => ?_, fun i j i0 i1 j0 j1 hij => ?_, g6⟩
    · rw [nLine_sp, if_neg e]
      exact g4 i i0 i1
    · rw [nLine_sp, nLine_sp, if_neg e, if_neg e] at hij
      exact g5 i j i0 i1 j0 j1 hij
/-- whether one of the first so many is it -/
def dupF (f : Int → Int) (s : Int) : Nat → Bool
  | 0 => false
  | i + 1 => dupF f s i || decide (f i = s)
theorem dupF_s (f : Int → Int) (s : Int) (i : Nat) : dupF f s (i + 1) = (dupF f s i || decide (f i = s)) := rfl
theorem dupF_no (f : Int → Int) (s : Int) : ∀ i : Nat, (dupF f s i = false ↔ ∀ j : Int, 0 ≤ j → j < i → f j ≠ s)
  | 0 => ⟨fun _ j j0 j1 => absurd j1 (by omega), fun _ => rfl⟩
  | i + 1 => by
    rw [dupF_s, Bool.or_eq_false_iff, dupF_no f s i, decide_eq_false_iff_not]
    refine ⟨fun h j j0 j1 => ?_, fun h => ⟨fun j j0 j1 => h j j0 (by omega), h i (by omega) (by omega)⟩⟩
    by_cases e : j = i
    · rw [e]
      exact h.2
    · exact h.1 j j0 (by omega)
theorem dupF_cong {f g : Int → Int} {s : Int} : ∀ i : Nat, (∀ j : Int, 0 ≤ j → j < i → f j = g j) → dupF f s i = dupF g s i
  | 0, _ => rfl
  | i + 1, h => by
    rw [dupF_s, dupF_s, dupF_cong i (fun j j0 j1 => h j j0 (by omega)), h i (by omega) (by omega)]
abbrev put1 (f : Int → Int) (i s : Int) : Int → Int := fun j => if j = i then s else f j
/-- behind a stop, so many read by now -/
def nxL (B : Int → Int) (N : Net) (kd : Int) (k i : Nat) (e : Int) (f : Int → Int) (go : Int → Out) : Out := if 2 ≤ i ∧ (k = 0 ∨ B e = 0 ∨ B e = 59) then (1, e, nLine N kd i f) else byt B N 62 e go
/-- at a stop, so many read by now -/
def slN (B : Int → Int) (N : Net) (kd : Int) : Nat → Nat → Int → (Int → Int) → Out
  | 0, _, q, _ => (0, q, N)
  | k + 1, i, q, f => num B N 2 0 11 q fun e s => if dupF f s i = true then (0, q, N) else nxL B N kd k (i + 1) e (put1 f i s) fun q2 => slN B N kd k (i + 1) q2 (put1 f i s)
theorem slN_s (B : Int → Int) (N : Net) (kd : Int) (k i : Nat) (q : Int) (f : Int → Int) : slN B N kd (k + 1) i q f = num B N 2 0 11 q fun e s => if dupF f s i = true then (0, q, N) else nxL B N kd k (i + 1) e (put1 f i s) fun q2 => slN B N kd k (i + 1) q2 (put1 f i s) := rfl
def oL (B : Int → Int) (N : Net) (p : Int) : Out := if 8 ≤ N.ln then (0, p, N) else num B N 1 0 5 (p + 1) fun e1 kd => byt B N 58 e1 fun q1 => slN B N kd 6 0 q1 (fun _ => 0)
theorem slN_ok {B : Int → Int} {N : Net} {n kd p0 : Int} (hB : TP B n) (hg : Good N) (h8 : N.ln < 8) (hk : 0 ≤ kd ∧ kd ≤ 5) : ∀ (k i : Nat) (q : Int) (f : Int → Int), k + i = 6 → p0 + 1 ≤ q → q ≤ n → (∀ j, 0 ≤ j → j < (i : Int) → 0 ≤ f j ∧ f j < 12) → (∀ j h, 0 ≤ j → j < (i : Int) → 0 ≤ h → h < (i : Int) → f j = f h → j = h) → OkO n p0 (slN B N kd k i q f) := by
  intro k
  induction k with
  | zero =>
    intro i q f hi hp hpn hb hs
    exact okO_0 (by omega) hpn
  | succ k ih =>
    intro i q f hi hp hpn hb hs
    rw [slN_s]
    refine okO_num hB (by omega) hpn (fun c0 c1 c2 c3 => ?_)
    by_cases hd : dupF f (eV B 2 q) i = true
    · rw [if_pos hd]
      exact okO_0 (by omega) hpn
    · rw [if_neg hd]
      rw [Bool.not_eq_true, dupF_no] at hd
      have hb' : ∀ j, 0 ≤ j → j < ((i + 1 : Nat) : Int) → 0 ≤ put1 f i (eV B 2 q) j ∧ put1 f i (eV B 2 q) j < 12 := fun j j0 j1 => by
        show 0 ≤ (if j = (i : Int) then eV B 2 q else f j) ∧ (if j = (i : Int) then eV B 2 q else f j) < 12
        split
        · omega
        · exact hb j j0 (by omega)
      have hs' : ∀ j h, 0 ≤ j → j < ((i + 1 : Nat) : Int) → 0 ≤ h → h < ((i + 1 : Nat) : Int) → put1 f i (eV B 2 q) j = put1 f i (eV B 2 q) h → j = h := fun j h j0 j1 h0 h1 hjh => by
        have hjh' : (if j = (i : Int) then eV B 2 q else f j) = (if h = (i : Int) then eV B 2 q else f h) := hjh
        by_cases ej : j = (i : Int)
        · by_cases eh : h = (i : Int)
          · omega
          · rw [if_pos ej, if_neg eh] at hjh'
            exact absurd hjh'.symm (hd h h0 (by omega))
        · by_cases eh : h = (i : Int)
          · rw [if_neg ej, if_pos eh] at hjh'
            exact absurd hjh' (hd j j0 (by omega))
          · rw [if_neg ej, if_neg eh] at hjh'
            exact hs j h j0 (by omega) h0 (by omega) hjh'
      unfold nxL
      split
      · rename_i h2
        exact okO_1 (by omega) c1 (nLine_good hg h8 hk (by omega) hb' hs')
      · refine okO_byt hB (by omega) c1 (by decide) (fun d1 => ?_)
        exact ih (i + 1) _ _ (by omega) (by omega) d1 hb' hs'
theorem oL_ok {B : Int → Int} {N : Net} {n p : Int} (hB : TP B n) (hg : Good N) (h : p + 1 ≤ n) : OkO n p (oL B N p) := by
  unfold oL
  split
  · exact okO_0 (by omega) (by omega)
  · refine okO_num hB (by omega) h (fun _ c1 c2 c3 => ?_)
    refine okO_byt hB (by omega) c1 (by decide) (fun d1 => ?_)
    exact slN_ok hB hg (by omega) ⟨c2, c3⟩ 6 0 _ _ rfl (by omega) d1 (fun j j0 j1 => absurd j1 (by omega)) (fun j h j0 j1 => absurd j1 (by omega))
-- THE CLASS
def LIc (N : Net) (Ms : Mem) (kd i : Int) (f : Int → Int) (M : Mem) : Prop := (∀ a j, ¬ (a = 1 ∧ j = 0) → ¬ ((a = 2 ∨ a = 3 ∨ a = 4) ∧ j = N.ln) → a ≠ 6 + N.ln → ¬ (a = 267 ∧ j ≠ 3) → M a j = Ms a j) ∧ M 1 0 = N.ln + 1 ∧ M 2 N.ln = kd ∧ M 3 N.ln = i ∧ M 4 N.ln = 0 ∧ ∀ j, 0 ≤ j → j < i → M (6 + N.ln) j = f j
theorem LIc.rd {N : Net} {Ms M M1 : Mem} {kd i : Int} {f : Int → Int} (h : LIc N Ms kd i f M) (h0 : 0 ≤ N.ln ∧ N.ln < 8) (hf : RdF M M1) : LIc N Ms kd i f M1 := by
  obtain ⟨d1, d2, d3, d4, d5, d6⟩ := h
  exact ⟨fun a j q1 q2 q3 q4 => (hf a j q4).trans (d1 a j q1 q2 q3 q4), (hf _ _ (by omega)).trans d2, (hf _ _ (by omega)).trans d3, (hf _ _ (by omega)).trans d4, (hf _ _ (by omega)).trans d5, fun j j0 j1 => (hf _ _ (by omega)).trans (d6 j j0 j1)⟩
theorem nLine_ch {N : Net} {Ms M : Mem} {kd i : Int} {f : Int → Int} (hg : Good N) (h : CH N 0 Ms) (h8 : N.ln < 8) (hT : LIc N Ms kd i f M) : CH (nLine N kd i f) 0 M := by
  obtain ⟨h1, h2, h3⟩ := h
  obtain ⟨d1, d2, d3, d4, d5, d6⟩ := hT
  have h0 := hg.1
  refine ⟨d2, fun x x0 x1 => ?_, fun x y x0 x1 y0 y1 => by rw [d1 _ _ (by omega) (by omega) (by omega) (by omega)]; exact h3 x y x0 x1 y0 y1⟩
  rw [nLine_ln] at x1
  rw [nLine_kd, nLine_sz, nLine_tr]
  by_cases e : x = N.ln
  · rw [if_pos e, if_pos e, if_pos e, e]
    refine ⟨d3, d4, d5, fun j j0 j1 => ?_, fun t t0 t1 => absurd t1 (by omega)⟩
    rw [nLine_sp, if_pos rfl, show 6 + (0 : Int) + N.ln = 6 + N.ln by omega]
    exact d6 j j0 j1
  · rw [if_neg e, if_neg e, if_neg e]
    have hk := hg.lineK x0 (show x < N.ln by omega)
    obtain ⟨q1, q2, q3, q4, q5⟩ := h2 x x0 (by omega)
    refine ⟨by rw [d1 _ _ (by omega) (by omega) (by omega) (by omega)]; exact q1, by rw [d1 _ _ (by omega) (by omega) (by omega) (by omega)]; exact q2, by rw [d1 _ _ (by omega) (by omega) (by omega) (by omega)]; exact q3, fun j j0 j1 => ?_, fun y y0 y1 => ?_⟩
    · rw [nLine_sp, if_neg e, d1 _ _ (by omega) (by omega) (by omega) (by omega)]
      exact q4 j j0 j1
    · obtain ⟨w1, w2⟩ := q5 y y0 y1
      exact ⟨by rw [d1 _ _ (by omega) (by omega) (by omega) (by omega)]; exact w1, fun j j0 j1 => by rw [d1 _ _ (by omega) (by omega) (by omega) (by omega)]; exact w2 j j0 j1⟩
set_option maxHeartbeats 4000000 in
theorem c_placeRaw {M : Mem} {Q : Int → Mem → Prop} {l s : Int} {i : Nat} {f : Int → Int} (l0 : 0 ≤ l) (l1 : l < 8) (hi : i ≤ 6) (h3 : M 3 l = (i : Int)) (hr : ∀ j, 0 ≤ j → j < (i : Int) → M (6 + l) j = f j) (hQ0 : dupF f s i = false → Q (-1) M) (hQ1 : dupF f s i = true → ∀ r, 0 ≤ r → Q r M) : Calls mX3_placeOf [(2, 1), (0, l), (0, s)] S0 M Q := by
  refine E_Net_placeOf (B_Net_placeOf_0 ?_)
  have key : ∀ k : Nat, k ≤ i → ∀ j : Int, j = (k : Int) → (∀ h : Int, 0 ≤ h → h < (k : Int) → f h ≠ s) → AW mX3_placeOf 2 [(2, 1), (0, l), (0, s), (0, j)] M Q := by
    refine up_ind _ ?_ ?_
    · intro j hj hn
      refine B_Net_placeOf_2 ?_
      rw [h3]
      exact ⟨⟨l0, l1⟩, fun _ => hQ0 ((dupF_no f s i).mpr hn), fun z => absurd (by omega) z⟩
    · intro k hk ih j hj hn
      refine B_Net_placeOf_2 ?_
      rw [h3, hr j (by omega) (by omega)]
      refine ⟨⟨l0, l1⟩, fun z => absurd z (by omega), fun _ => ⟨by omega, fun z => ⟨by omega, ih _ (by omega) (fun h h0 h1 => ?_)⟩, fun z => hQ1 ?_ j (by omega)⟩⟩
      · by_cases e : h = j
        · rw [e]
          exact z
        · exact hn h h0 (by omega)
      · cases hd : dupF f s i with
        | true => rfl
        | false => exact absurd z ((dupF_no f s i).mp hd j (by omega) (by omega))
  exact key 0 (Nat.zero_le _) 0 rfl (fun h h0 h1 => absurd h1 (by omega))
set_option maxHeartbeats 4000000 in
theorem c_stopOne {B : Int → Int} {n q : Int} {N : Net} {M0 Ms M : Mem} {Q : Int → Mem → Prop} {kd : Int} {k i : Nat} {f : Int → Int} (hB : TP B n) (hT0 : TC B n M0) (h0 : 0 ≤ N.ln ∧ N.ln < 8) (hki : k + 1 + i = 6) (q0 : 0 ≤ q) (q1 : q ≤ n) (hq : M 267 2 = q) (hT : LIc N Ms kd (i : Int) f M) (hf : CFr M0 M) (H : CQ M0 (slN B N kd (k + 1) i q f) Q)
    (ih : ∀ (e : Int) (g : Int → Int) (M1 : Mem), 0 ≤ e → e ≤ n → M1 267 2 = e → LIc N Ms kd ((i + 1 : Nat) : Int) g M1 → CFr M0 M1 → CQ M0 (nxL B N kd k (i + 1) e g fun q2 => slN B N kd k (i + 1) q2 g) Q → AW mX4_readLine 65 [(2, 267), (0, N.ln), (0, (i : Int) + 1)] M1 Q) :
    Calls mX4_takeNumber [(2, 267), (0, 2), (0, 0), (0, 11)] S0 M (fun r4 M5 => (r4 = 0 ∨ r4 = 1) ∧ ((¬ r4 = 0 → Calls mX3_placeOf [(2, 1), (0, N.ln), (0, M5 267 4)] S0 M5 (fun r8 M9 => ((r8 < 0 → ((0 : Int) ≤ N.ln ∧ N.ln < 8) ∧ ((0 : Int) ≤ M9 3 N.ln ∧ M9 3 N.ln < 6) ∧ (-2147483648 ≤ ((up2 M9 (6 + N.ln) (M9 3 N.ln) (M9 267 4)) 3 N.ln) + 1 ∧ ((up2 M9 (6 + N.ln) (M9 3 N.ln) (M9 267 4)) 3 N.ln) + 1 ≤ 2147483647) ∧ (-2147483648 ≤ (i : Int) + 1 ∧ (i : Int) + 1 ≤ 2147483647) ∧ AW mX4_readLine 65 [(2, 267), (0, N.ln), (0, (i : Int) + 1)] (up2 (up2 M9 (6 + N.ln) (M9 3 N.ln) (M9 267 4)) 3 N.ln (((up2 M9 (6 + N.ln) (M9 3 N.ln) (M9 267 4)) 3 N.ln) + 1)) Q) ∧ (¬ (r8 < 0) → Q 0 (up2 M9 267 6 (M9 267 5)))))) ∧ (r4 = 0 → Q 0 M5))) := by
  have hn := hB.1
  rw [slN_s] at H
  refine c_num 2 rfl hB (hT0.cf hf) hq q0 q1 (by decide) (fun ok M1 f1 e1 v1 g1 => ?_) (fun ok M1 f1 g1 => ?_)
  · rw [num_pos ok] at H
    have l1 := eP_le hB 2 q1
    have T1 := hT.rd h0 f1
    have o1 := ok.2
    obtain ⟨d1, d2, d3, d4, d5, d6⟩ := id T1
    refine ⟨Or.inr rfl, fun _ => c_placeRaw (f := f) (i := i) h0.1 h0.2 (by omega) d4 d6 (fun hd => ⟨fun _ => ?_, fun z => absurd (by decide) z⟩) (fun hd r hr => ⟨fun z => absurd z (by omega), fun _ => ?_⟩), fun z => absurd z (by decide)⟩
    · rw [v1] at hd ⊢
      rw [if_neg (by rw [hd]; decide)] at H
      have e3 : up2 M1 (6 + N.ln) (M1 3 N.ln) (eV B 2 q) 3 N.ln = (i : Int) := by
        rw [up2_ne (by omega)]
        exact d4
      rw [e3, d4]
      refine ⟨h0, by omega, by omega, by omega, ih (eP B 2 q) _ _ (by omega) (by omega) ?_ ⟨fun a j z1 z2 z3 z4 => ?_, ?_, ?_, ?_, ?_, fun j j0 j1 => ?_⟩ (((hf.rd f1).up (by omega)).up (by omega)) H⟩
      · rw [up2_ne (by omega), up2_ne (by omega)]
        exact e1
      · rw [up2_ni (by omega), up2_ne z3]
        exact d1 a j z1 z2 z3 z4
      · rw [up2_ne (by omega), up2_ne (by omega)]
        exact d2
      · rw [up2_ne (by omega), up2_ne (by omega)]
        exact d3
      · rw [up2_at ⟨rfl, rfl⟩]
        omega
      · rw [up2_ne (by omega), up2_ne (by omega)]
        exact d5
      · show _ = if j = (i : Int) then eV B 2 q else f j
        rw [up2_ne (by omega)]
        by_cases e : j = (i : Int)
        · rw [if_pos e, up2_at ⟨rfl, e⟩]
        · rw [if_neg e, up2_ni (fun w => e w.2)]
          exact d6 j j0 (by omega)
    · rw [v1] at hd
      rw [if_pos hd] at H
      refine H.2 rfl _ ((hf.rd f1).up (Or.inr rfl)) ?_
      rw [up2_at ⟨rfl, rfl⟩]
      exact g1
  · rw [num_neg ok] at H
    exact ⟨Or.inl rfl, fun z => absurd rfl z, fun _ => H.2 rfl _ (hf.rd f1) g1⟩
set_option maxHeartbeats 8000000 in
theorem c_stops {B : Int → Int} {n : Int} {N : Net} {M0 Ms : Mem} {Q : Int → Mem → Prop} {kd : Int} (hB : TP B n) (hT0 : TC B n M0) (hg : Good N) (hc : CH N 0 Ms) (h8 : N.ln < 8) : ∀ (k i : Nat) (e : Int) (f : Int → Int) (M : Mem), k + i = 6 → 1 ≤ i → 0 ≤ e → e ≤ n → M 267 2 = e → LIc N Ms kd (i : Int) f M → CFr M0 M → CQ M0 (nxL B N kd k i e f fun q2 => slN B N kd k i q2 f) Q → AW mX4_readLine 65 [(2, 267), (0, N.ln), (0, (i : Int))] M Q := by
  have hn := hB.1
  have h0 := hg.1
  intro k
  induction k with
  | zero =>
    intro i e f M hi i1 e0 e1 he hT hf H
    unfold nxL at H
    rw [if_pos ⟨by omega, Or.inl rfl⟩] at H
    exact B_Reader_readLine_65 ⟨fun _ => H.1 rfl M hf (nLine_ch hg hc h8 hT) he, fun z => absurd (by omega) z⟩
  | succ k ih =>
    intro i e f M hi i1 e0 e1 he hT hf H
    have hTm := hT0.cf hf
    have ih2 : ∀ (e : Int) (g : Int → Int) (M1 : Mem), 0 ≤ e → e ≤ n → M1 267 2 = e → LIc N Ms kd ((i + 1 : Nat) : Int) g M1 → CFr M0 M1 → CQ M0 (nxL B N kd k (i + 1) e g fun q2 => slN B N kd k (i + 1) q2 g) Q → AW mX4_readLine 65 [(2, 267), (0, N.ln), (0, (i : Int) + 1)] M1 Q := fun e g M1 a1 a2 a3 a4 a5 a6 => by
      have := ih (i + 1) e g M1 (by omega) (by omega) a1 a2 a3 a4 a5 a6
      rw [show (((i + 1 : Nat)) : Int) = (i : Int) + 1 by omega] at this
      exact this
    have f1 : RdF M (up2 M 267 2 (e + 1)) := RdF.rf.up (by decide)
    refine B_Reader_readLine_65 ?_
    rw [he, hTm.1]
    unfold nxL at H
    by_cases h2 : 2 ≤ i
    · refine ⟨fun z => absurd z (by omega), fun _ => ⟨fun z => absurd z (by omega), fun _ => ⟨fun z => ?_, fun z => ⟨fun y => absurd y (by omega), fun _ => ⟨by omega, fun h59 => ⟨fun y => absurd y (by omega), fun _ => ?_⟩, fun h59 => ?_⟩⟩⟩⟩⟩
      · rw [if_pos ⟨h2, Or.inr (Or.inl (hB.2.2 e z))⟩] at H
        exact H.1 rfl M hf (nLine_ch hg hc h8 hT) he
      · rw [hTm.2 e e0 (by omega)] at h59 ⊢
        have hb0 := (hB.2.1 e e0 (by omega)).1
        rw [if_neg (by omega)] at H
        refine ⟨fun hb => ⟨by omega, ?_⟩, fun hb => ?_⟩
        · rw [byt_pos hb] at H
          exact c_stopOne hB hT0 ⟨h0.1, h8⟩ hi (by omega) (by omega) (up2_at ⟨rfl, rfl⟩) (hT.rd ⟨h0.1, h8⟩ f1) (hf.rd f1) H ih2
        · rw [byt_neg hb] at H
          exact H.2 rfl _ (hf.up (Or.inr rfl)) (up2_at ⟨rfl, rfl⟩)
      · rw [hTm.2 e e0 (by omega)] at h59
        rw [if_pos ⟨h2, Or.inr (Or.inr h59)⟩] at H
        exact H.1 rfl M hf (nLine_ch hg hc h8 hT) he
    · rw [if_neg (fun z => h2 z.1)] at H
      refine ⟨fun z => absurd z (by omega), fun _ => ⟨fun _ => ⟨fun z => absurd z (by omega), fun _ => ?_⟩, fun z => absurd (by omega) z⟩⟩
      refine tkB hB e0 (fun z => hTm.2 _ e0 z) (by decide) (fun z hb => ?_) (fun hb => ?_)
      · rw [byt_pos hb] at H
        exact ⟨by omega, c_stopOne hB hT0 ⟨h0.1, h8⟩ hi (by omega) (by omega) (up2_at ⟨rfl, rfl⟩) (hT.rd ⟨h0.1, h8⟩ f1) (hf.rd f1) H ih2⟩
      · rw [byt_neg hb] at H
        exact H.2 rfl _ (hf.up (Or.inr rfl)) (up2_at ⟨rfl, rfl⟩)
set_option maxHeartbeats 8000000 in
theorem c_readLine {B : Int → Int} {n p : Int} {N : Net} {M0 M : Mem} {Q : Int → Mem → Prop} (hB : TP B n) (hT0 : TC B n M0) (hg : Good N) (hc : CH N 0 M) (hp : M 267 2 = p + 1) (hb3 : M 267 3 = p) (p0 : 0 ≤ p) (p1 : p + 1 ≤ n) (hf : CFr M0 M) (H : CQ M0 (oL B N p) Q) : Calls mX4_readLine [(2, 267)] S0 M Q := by
  have hn := hB.1
  have h0 := hg.1
  have hT := hT0.cf hf
  unfold oL at H
  refine E_Reader_readLine (B_Reader_readLine_0 ?_)
  rw [hc.lines]
  refine ⟨fun h8 => ?_, fun h8 => ?_⟩
  · rw [if_neg (by omega)] at H
    refine c_num 1 rfl hB hT hp (by omega) p1 (by decide) (fun ok1 M1 f1 e1 v1 g1 => ?_) (fun ok1 M1 f1 g1 => ?_)
    · rw [num_pos ok1] at H
      have l1 := eP_le hB 1 p1
      have hT1 := hT.rd f1
      have hc1 := (hc.rd hg f1).lines
      rw [e1, v1, hT1.1, hc1]
      refine ⟨fun _ => ⟨by omega, by omega, ?_⟩, fun z => absurd z (by decide)⟩
      have hF : ∀ v w, CFr M0 (up2 (up2 (up2 (up2 (up2 M1 2 N.ln (eV B 1 (p + 1))) 3 N.ln 0) 4 N.ln 0) 1 0 (N.ln + 1)) 267 v w) := fun v w => (((((hf.rd f1).up (by omega)).up (by omega)).up (by omega)).up (by omega)).up (by omega)
      refine tkB hB (by omega) (fun q => hT1.2 _ (by omega) q) (by decide) (fun q hb => ?_) (fun hb => ?_)
      · rw [byt_pos hb] at H
        refine ⟨by omega, B_Reader_readLine_65 ⟨fun z => absurd z (by decide), fun _ => ⟨fun _ => ⟨fun _ => ?_, fun z => absurd (by decide) z⟩, fun z => absurd (by decide) z⟩⟩⟩
        have hL : LIc N M (eV B 1 (p + 1)) ((0 : Nat) : Int) (fun _ => 0) (up2 (up2 (up2 (up2 (up2 M1 2 N.ln (eV B 1 (p + 1))) 3 N.ln 0) 4 N.ln 0) 1 0 (N.ln + 1)) 267 2 (eP B 1 (p + 1) + 1)) := by
          refine ⟨fun a j z1 z2 z3 z4 => ?_, ?_, ?_, ?_, ?_, fun j j0 j1 => absurd j1 (by omega)⟩
          · rw [up2_ni (by omega), up2_ni (by omega), up2_ni (by omega), up2_ni (by omega), up2_ni (by omega)]
            exact f1 a j z4
          · rw [up2_ne (by omega), up2_at ⟨rfl, rfl⟩]
          · rw [up2_ne (by omega), up2_ne (by omega), up2_ne (by omega), up2_ne (by omega), up2_at ⟨rfl, rfl⟩]
          · rw [up2_ne (by omega), up2_ne (by omega), up2_ne (by omega), up2_at ⟨rfl, rfl⟩]
            rfl
          · rw [up2_ne (by omega), up2_ne (by omega), up2_at ⟨rfl, rfl⟩]
        refine c_stopOne (i := 0) hB hT0 ⟨h0.1, h8⟩ rfl (by omega) (by omega) (up2_at ⟨rfl, rfl⟩) hL (hF _ _) H (fun e g M2 a1 a2 a3 a4 a5 a6 => ?_)
        exact c_stops hB hT0 hg hc h8 5 1 e g M2 rfl (by decide) a1 a2 a3 a4 a5 a6
      · rw [byt_neg hb] at H
        exact H.2 rfl _ (hF _ _) (up2_at ⟨rfl, rfl⟩)
    · rw [num_neg ok1] at H
      exact ⟨fun z => absurd rfl z, fun _ => H.2 rfl _ (hf.rd f1) g1⟩
  · rw [if_pos (by omega)] at H
    refine H.2 rfl _ (hf.up (Or.inr rfl)) ?_
    rw [up2_at ⟨rfl, rfl⟩]
    exact hb3
