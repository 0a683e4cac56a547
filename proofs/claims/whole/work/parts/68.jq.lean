/-! legs, leg, fare, waiting -/
theorem jf_13 {N : Net} {fr at_ : Int} (hg : Good N) : ∀ (f : Nat) (r s : Int), r + 1 = f → (s ≠ fr → -1 ≠ r) → (0 ≤ (jf N fr at_ f r s).1 ∧ (jf N fr at_ f r s).1 ≤ 2 * f) ∧ (BS N fr at_ r s ≠ 10000 → 1 ≤ f → 0 ≤ s → (jf N fr at_ f r s).1 ≤ 2 * f - 1)
  | 0, _, _, _, _ => ⟨⟨Int.le_refl _, Int.le_refl _⟩, fun _ h => absurd h (by omega)⟩
  | f + 1, r, s, h, hs => by
    have h1 := jf_n (N := N) (fr := fr) (at_ := at_) (f + 1) r s (by omega)
    refine ⟨h1, fun hb _ s0 => ?_⟩
    rw [jf_s]
    split
    · show (0 : Int) ≤ _
      omega
    · rename_i hsf
      split
      · rename_i hk
        have := jf_n (N := N) (fr := fr) (at_ := at_) f (r - 1) (nxS N fr at_ r s (BS N fr at_ r s)) (by omega)
        show (jf N fr at_ f (r - 1) (nxS N fr at_ r s (BS N fr at_ r s))).1 + 1 ≤ _
        omega
      · split
        · show (0 : Int) + 1 ≤ _
          omega
        · rename_i hk hwf
          have hw := way (r := r.toNat) (fr := fr) (at_ := at_) hg hsf s0
          rw [show ((r.toNat : Nat) : Int) = r by omega] at hw
          have hw := (hw hb).resolve_left hk
          have hwc := (wf_cases N fr at_ r s (BS N fr at_ r s)).resolve_left (by omega)
          have hk2 := hwc.2.2.2
          rw [if_neg hwf] at hk2
          have hn := nxS_ok hg hk2
          have := (jf_13 (fr := fr) (at_ := at_) hg f (r - 1) (nxS N fr at_ r (wf N fr at_ r s (BS N fr at_ r s)) (BS N fr at_ r s - N.pt (wf N fr at_ r s (BS N fr at_ r s)) s)) (by omega) (fun _ => by omega)).2 (by have := hn.2.2; omega) (by omega) hn.2.1.1
          show (jf N fr at_ f (r - 1) (nxS N fr at_ r (wf N fr at_ r s (BS N fr at_ r s)) (BS N fr at_ r s - N.pt (wf N fr at_ r s (BS N fr at_ r s)) s))).1 + 1 + 1 ≤ _
          omega
/-- what is so of every leg -/
def LG (N : Net) (x : Int → Int) : Prop := ((x 0 = -5 ∧ x 6 = 0) ∨ ((0 ≤ x 0 ∧ x 0 < N.ln) ∧ (0 ≤ x 1 ∧ x 1 < 6) ∧ x 6 = prc (N.kd (x 0)) (x 7) ∧ (0 ≤ x 7 ∧ x 7 ≤ 6))) ∧ (0 ≤ x 2 ∧ x 2 < 12) ∧ (0 ≤ x 3 ∧ x 3 < 12) ∧ (-100 ≤ x 4 ∧ x 4 ≤ 10000) ∧ (-100 ≤ x 5 ∧ x 5 ≤ 10000)
theorem LG_w {N : Net} {p s m : Int} (hg : Good N) (p0 : 0 ≤ p) (p1 : p < 12) (s0 : 0 ≤ s) (s1 : s < 12) (hm : 0 ≤ m ∧ m ≤ 10000) : LG N (wlg N p s m) := by
  have hp := hg.path p0 p1 s0 s1
  refine ⟨Or.inl ⟨rfl, rfl⟩, ⟨p0, p1⟩, ⟨s0, s1⟩, ?_, ?_⟩
  · show -100 ≤ m - N.pt p s ∧ m - N.pt p s ≤ 10000
    omega
  · show -100 ≤ m ∧ m ≤ 10000
    omega
theorem LG_r {N : Net} {fr at_ r s m : Int} (hg : Good N) (s0 : 0 ≤ s) (s1 : s < 12) (h : 0 ≤ sk N fr at_ r s m) : LG N (rlgS N fr at_ r s m) := by
  obtain ⟨r1, ⟨a0, a1⟩, ⟨b0, b1⟩, -, i0, i1, i2, -, -, i3, -⟩ := (sk_cases fr at_ r s m hg).resolve_left (by omega)
  have hk := hg.lineK a0 a1
  have h1 := hg.stop a0 a1 i0 (by omega)
  have h2 := hg.min a0 a1 b0 b1 i0 (by omega)
  have h3 := hg.min a0 a1 b0 b1 (i := plc N (sk N fr at_ r s m / 6) s) (by omega) i2
  refine ⟨Or.inr ⟨⟨a0, a1⟩, ⟨b0, ?_⟩, rfl, ?_⟩, h1, ⟨s0, s1⟩, ?_, ?_⟩
  · show sk N fr at_ r s m % 6 < 6
    omega
  · show 0 ≤ plc N (sk N fr at_ r s m / 6) s - skI N fr at_ r s m ∧ plc N (sk N fr at_ r s m / 6) s - skI N fr at_ r s m ≤ 6
    omega
  · show -100 ≤ N.mi (sk N fr at_ r s m / 6) (sk N fr at_ r s m % 6) (skI N fr at_ r s m) ∧ N.mi (sk N fr at_ r s m / 6) (sk N fr at_ r s m % 6) (skI N fr at_ r s m) ≤ 10000
    omega
  · show -100 ≤ m ∧ m ≤ 10000
    omega
theorem LG_cons {N : Net} {x : Int → Int} {J : Lgs} (hx : LG N x) (hJ : ∀ k, 0 ≤ k → k < J.1 → LG N (J.2 k)) : ∀ k, 0 ≤ k → k < (consJ x J).1 → LG N ((consJ x J).2 k) := by
  intro k k0 k1
  have k1 : k < J.1 + 1 := k1
  show LG N (if k = 0 then x else J.2 (k - 1))
  split
  · exact hx
  · exact hJ _ (by omega) (by omega)
theorem jf_lg {N : Net} {fr at_ : Int} (hg : Good N) (hat : 0 ≤ at_ ∧ at_ ≤ 2000) : ∀ (f : Nat) (r s : Int), r + 1 = f → (s ≠ fr → -1 ≠ r ∧ BS N fr at_ r s ≠ 10000) → 0 ≤ s → s < 12 → ∀ k, 0 ≤ k → k < (jf N fr at_ f r s).1 → LG N ((jf N fr at_ f r s).2 k)
  | 0, _, _, _, _, _, _ => fun k k0 k1 => absurd k1 (by show ¬ (k < 0); omega)
  | f + 1, r, s, h, hs, s0, s1 => by
    have hnil : ∀ k, 0 ≤ k → k < nilJ.1 → LG N (nilJ.2 k) := fun k k0 k1 => absurd k1 (by show ¬ (k < 0); omega)
    have hB : 0 ≤ BS N fr at_ r s ∧ BS N fr at_ r s ≤ 10000 := (BS_bd hg hat s0 s1).1
    rw [jf_s]
    split
    · exact hnil
    · rename_i hsf
      have hbs := (hs hsf).2
      split
      · rename_i hk
        have hn := nxS_ok hg hk
        exact LG_cons (LG_r hg s0 s1 hk) (jf_lg hg hat f (r - 1) _ (by omega) (fun _ => ⟨by omega, by have := hn.2.2; omega⟩) hn.2.1.1 hn.2.1.2)
      · rename_i hk
        have hw := way (r := r.toNat) (fr := fr) (at_ := at_) hg hsf s0
        have := (hs hsf).1
        rw [show ((r.toNat : Nat) : Int) = r by omega] at hw
        have hw := (hw hbs).resolve_left hk
        have hwc := (wf_cases N fr at_ r s (BS N fr at_ r s)).resolve_left (by omega)
        split
        · exact LG_cons (LG_w hg hwc.1 hwc.2.1 s0 s1 hB) hnil
        · rename_i hwf
          have hk2 := hwc.2.2.2
          rw [if_neg hwf] at hk2
          have hn := nxS_ok hg hk2
          exact LG_cons (LG_w hg hwc.1 hwc.2.1 s0 s1 hB) (LG_cons (LG_r hg hwc.1 hwc.2.1 hk2) (jf_lg hg hat f (r - 1) _ (by omega) (fun _ => ⟨by omega, by have := hn.2.2; omega⟩) hn.2.1.1 hn.2.1.2))
/-- the journey of a call -/
abbrev JN (N : Net) (fr at_ to r : Int) : Lgs := jf N fr at_ (r + 1).toNat r to
theorem JN_ok {N : Net} {fr at_ to r : Int} (hg : Good N) (hat : 0 ≤ at_ ∧ at_ ≤ 2000) (r0 : 0 ≤ r) (r1 : r ≤ 6) (s0 : 0 ≤ to) (s1 : to < 12) (hb : BS N fr at_ r to ≠ 10000) : (0 ≤ (JN N fr at_ to r).1 ∧ (JN N fr at_ to r).1 ≤ 13) ∧ ∀ k, 0 ≤ k → k < (JN N fr at_ to r).1 → LG N ((JN N fr at_ to r).2 k) := by
  have h1 := jf_13 (fr := fr) (at_ := at_) hg (r + 1).toNat r to (by omega) (fun _ => by omega)
  have h2 : (JN N fr at_ to r).1 ≤ 2 * (((r + 1).toNat : Nat) : Int) - 1 := h1.2 hb (by omega) s0
  exact ⟨⟨h1.1.1, by omega⟩, jf_lg hg hat (r + 1).toNat r to (by omega) (fun _ => ⟨by omega, hb⟩) s0 s1⟩
/-- what a call answers that looks at a journey -/
def fJn (N : Net) (fr at_ to r no : Int) (g : Lgs → Int) : Int := if rfz fr at_ to r = 0 then (if BS N fr at_ r to = 10000 then no else g (JN N fr at_ to r)) else rfz fr at_ to r
/-- the queries that ask for nothing but what the timetable says -/
theorem bo_N {cm rm : MD} {as : List AV} (F : Net → Int) (hc : ∀ N M Q, IN N M → (∀ M1, Sc M M1 → Q (F N) M1) → Calls cm ((2, 0) :: as) S0 M Q) (hr : ∀ N M Q, IN N M → (∀ M1, Sc M M1 → Q (F N) M1) → Calls rm ((2, 275) :: as) S0 M Q) : Bo cm rm as := by
  intro M K ⟨N, hI⟩ hK
  exact hc N M _ hI (fun M1 hs => hr N M1 _ (hI.sc hs) (fun M2 hs2 => hK _ M2 ⟨N, (hI.sc hs).sc hs2⟩))
/-- a call that asks for a journey: the class -/
theorem c_jn {N : Net} {M : Mem} {Q : Int → Mem → Prop} {fr at_ to r no : Int} {g : Lgs → Int} {T : Int → Mem → Prop} (hI : IN N M) (hQ : ∀ M1, Sc M M1 → Q (fJn N fr at_ to r no g) M1) (hT0 : ∀ M1, Q no M1 → T 0 M1) (hT1 : ∀ M1, 0 ≤ at_ → at_ ≤ 2000 → 0 ≤ r → r ≤ 6 → 0 ≤ to → to < 12 → BS N fr at_ r to ≠ 10000 → Sc M M1 → SR N fr at_ r M1 → JR 0 (JN N fr at_ to r) M1 → (∀ v M2, Sc M M2 → v = g (JN N fr at_ to r) → Q v M2) → T 1 M1) : Calls mX8_refusal [(0, fr), (0, at_), (0, to), (0, r)] S0 M (fun r1 M2 => ((r1 = 0 → Calls mX5_trace [(2, 246), (0, fr), (0, at_), (0, to), (0, r)] S0 M2 T) ∧ (¬ r1 = 0 → Q r1 M2))) := by
  have hc := rfz_cases fr at_ to r
  unfold fJn at hQ
  refine c_refusal ⟨fun q => ?_, fun q => ?_⟩
  · rw [if_pos q] at hQ
    refine c_trace hI (by omega) (by omega) (by omega) (by omega) (by omega) (fun hb M1 hs => ?_) (fun hb M1 hs h1 h2 => ?_)
    · rw [if_pos hb] at hQ
      exact hT0 M1 (hQ M1 hs)
    · rw [if_neg hb] at hQ
      exact hT1 M1 (by omega) (by omega) (by omega) (by omega) (by omega) (by omega) hb hs h1 h2 (fun v M2 hs2 hv => hv ▸ hQ M2 hs2)
  · rw [if_neg q] at hQ
    exact hQ M Sc.rf
theorem r_jn {N : Net} {M : Mem} {Q : Int → Mem → Prop} {fr at_ to r no : Int} {g : Lgs → Int} {T : Int → Mem → Prop} (hI : IN N M) (hQ : ∀ M1, Sc M M1 → Q (fJn N fr at_ to r no g) M1) (hT0 : ∀ M1, Q no M1 → T 0 M1) (hT1 : ∀ M1, 0 ≤ at_ → at_ ≤ 2000 → 0 ≤ r → r ≤ 6 → 0 ≤ to → to < 12 → BS N fr at_ r to ≠ 10000 → Sc M M1 → M1 284 (12 * r + to) = BS N fr at_ r to → RR 0 (JN N fr at_ to r) M1 → (∀ v M2, Sc M M2 → v = g (JN N fr at_ to r) → Q v M2) → T 1 M1) : Calls mX9_wrong [(0, fr), (0, to), (0, at_), (0, r)] S0 (up2 M 275 8 0) (fun r1 M2 => ((0 ≤ r1 → Calls mX9_layJourney [(2, 275), (0, fr), (0, at_), (0, to), (0, r)] S0 M2 T) ∧ (¬ (0 ≤ r1) → Calls mX9_wrong [(0, fr), (0, to), (0, at_), (0, r)] S0 M2 (fun r7 M8 => Q r7 M8)))) := by
  have hc := rfz_cases fr at_ to r
  have hS : Sc M (up2 M 275 8 0) := Sc.rf.up scr8
  unfold fJn at hQ
  refine r_wrong ⟨fun q => ?_, fun q => r_wrong ?_⟩
  · rw [if_pos (by omega)] at hQ
    refine r_layJourney (hI.sc hS) (by omega) (by omega) (by omega) (by omega) (by omega) (by omega) (by omega) (fun hb M1 hs => ?_) (fun hb M1 hs h1 h2 => ?_)
    · rw [if_pos hb] at hQ
      exact hT0 M1 (hQ M1 (hS.tr hs))
    · rw [if_neg hb] at hQ
      exact hT1 M1 (by omega) (by omega) (by omega) (by omega) (by omega) (by omega) hb (hS.tr hs) h1 h2 (fun v M2 hs2 hv => hv ▸ hQ M2 hs2)
  · rw [if_neg (by omega)] at hQ
    exact hQ _ hS
theorem b_legs (fr at_ to r : Int) : Bo mX8_legs mX9_legs [(0, fr), (0, at_), (0, to), (0, r)] := by
  refine bo_N (fun N => fJn N fr at_ to r (-5) (fun J => J.1)) (fun N M Q hI hQ => ?_) (fun N M Q hI hQ => ?_)
  · refine E_C_legs (B_C_legs_0 (c_jn hI hQ (fun M1 h => ⟨fun _ => h, fun z => absurd rfl z⟩) (fun M1 a0 a1 r0 r1 s0 s1 hb hs h1 h2 hv => ⟨fun z => absurd z (by omega), fun _ => hv _ M1 hs ?_⟩)))
    have := h2.1
    omega
  · refine E_R_legs (B_R_legs_0 (r_jn hI hQ (fun M1 h => ⟨fun _ => h, fun z => absurd rfl z⟩) (fun M1 a0 a1 r0 r1 s0 s1 hb hs h1 h2 hv => ⟨fun z => absurd z (by omega), fun _ => hv _ M1 hs ?_⟩)))
    have := h2.1
    omega
/-- the sum of something over the legs -/
abbrev smJ (g : (Int → Int) → Int) (J : Lgs) : Int := sumI (fun k => g (J.2 k)) J.1.toNat
theorem fare_bd {N : Net} {x : Int → Int} (h : LG N x) : -20 ≤ x 6 ∧ x 6 ≤ 20 := by
  rcases h.1 with q | ⟨-, -, q2, q3⟩
  · omega
  · rw [q2]
    unfold prc
    (repeat' split) <;> omega
theorem smI_bd {f : Int → Int} {b : Int} : ∀ n : Nat, (∀ k : Nat, k < n → -b ≤ f k ∧ f k ≤ b) → -(b * n) ≤ sumI f n ∧ sumI f n ≤ b * n
  | 0, _ => by
    show -(b * ((0 : Nat) : Int)) ≤ 0 ∧ (0 : Int) ≤ b * ((0 : Nat) : Int)
    rw [show ((0 : Nat) : Int) = 0 from rfl, Int.mul_zero]
    omega
  | n + 1, h => by
    have ih := smI_bd n (fun k hk => h k (by omega))
    have := h n (by omega)
    rw [sumI_s, show ((n + 1 : Nat) : Int) = (n : Int) + 1 by omega, Int.mul_add, Int.mul_one]
    omega
theorem c_sumFares {N : Net} {M : Mem} {Q : Int → Mem → Prop} {J : Lgs} (hJ : (0 ≤ J.1 ∧ J.1 ≤ 13) ∧ ∀ k, 0 ≤ k → k < J.1 → LG N (J.2 k)) (hR : JR 0 J M) (hQ : Q (smJ (fun x => x 6) J) M) : Calls mX5_sumFares [(2, 246)] S0 M Q := by
  obtain ⟨⟨n0, n1⟩, hL⟩ := hJ
  obtain ⟨h1, h2⟩ := hR
  refine E_Route_sumFares (B_Route_sumFares_0 ?_)
  have key : ∀ k : Nat, k ≤ J.1.toNat → ∀ v i, v = sumI (fun k => J.2 k 6) k → i = (k : Int) → AW mX5_sumFares 4 [(2, 246), (0, v), (0, i)] M Q := by
    refine up_ind _ ?_ ?_
    · intro v i hv hi
      exact B_Route_sumFares_4 ⟨fun _ => hv ▸ hQ, fun q => absurd (by omega) q⟩
    · intro k hk ih v i hv hi
      have e := h2 i 6 (by omega) (by omega) (by omega) (by omega)
      rw [show 248 + (0 + i) = 248 + i by omega] at e
      have hb := smI_bd (f := fun k => J.2 k 6) (b := 20) k (fun j hj => fare_bd (hL j (by omega) (by omega)))
      have hf := fare_bd (hL i (by omega) (by omega))
      have es : sumI (fun k => J.2 k 6) (k + 1) = sumI (fun k => J.2 k 6) k + J.2 i 6 := by rw [hi]; rfl
      refine B_Route_sumFares_4 ⟨fun q => absurd q (by omega), fun _ => ?_⟩
      rw [e]
      exact ⟨by omega, by omega, by omega, ih _ _ (by omega) (by omega)⟩
  exact key 0 (Nat.zero_le _) _ 0 rfl rfl
theorem c_sumMoving {N : Net} {M : Mem} {Q : Int → Mem → Prop} {J : Lgs} (hJ : (0 ≤ J.1 ∧ J.1 ≤ 13) ∧ ∀ k, 0 ≤ k → k < J.1 → LG N (J.2 k)) (hR : JR 0 J M) (hQ : Q (smJ (fun x => x 5 - x 4) J) M) : Calls mX5_sumMoving [(2, 246)] S0 M Q := by
  obtain ⟨⟨n0, n1⟩, hL⟩ := hJ
  obtain ⟨h1, h2⟩ := hR
  refine E_Route_sumMoving (B_Route_sumMoving_0 ?_)
  have key : ∀ k : Nat, k ≤ J.1.toNat → ∀ v i, v = sumI (fun k => J.2 k 5 - J.2 k 4) k → i = (k : Int) → AW mX5_sumMoving 4 [(2, 246), (0, v), (0, i)] M Q := by
    refine up_ind _ ?_ ?_
    · intro v i hv hi
      exact B_Route_sumMoving_4 ⟨fun _ => hv ▸ hQ, fun q => absurd (by omega) q⟩
    · intro k hk ih v i hv hi
      have e := h2 i 5 (by omega) (by omega) (by omega) (by omega)
      have e4 := h2 i 4 (by omega) (by omega) (by omega) (by omega)
      rw [show 248 + (0 + i) = 248 + i by omega] at e e4
      have hb := smI_bd (f := fun k => J.2 k 5 - J.2 k 4) (b := 10100) k (fun j hj => by
        have := (hL j (by omega) (by omega)).2.2.2
        show -10100 ≤ J.2 j 5 - J.2 j 4 ∧ J.2 j 5 - J.2 j 4 ≤ 10100
        omega)
      have hf := (hL i (by omega) (by omega)).2.2.2
      have es : sumI (fun k => J.2 k 5 - J.2 k 4) (k + 1) = sumI (fun k => J.2 k 5 - J.2 k 4) k + (J.2 i 5 - J.2 i 4) := by rw [hi]; rfl
      refine B_Route_sumMoving_4 ⟨fun q => absurd q (by omega), fun _ => ?_⟩
      rw [e, e4]
      exact ⟨by omega, by omega, by omega, by omega, ih _ _ (by omega) (by omega)⟩
  exact key 0 (Nat.zero_le _) _ 0 rfl rfl
set_option maxHeartbeats 4000000 in
theorem r_fareOf {N : Net} {M : Mem} {Q : Int → Mem → Prop} {l n : Int} (hg : Good N) (hN : RH N M) (l0 : 0 ≤ l) (l1 : l < N.ln) (hn : 0 ≤ n ∧ n ≤ 6) (hQ : Q (prc (N.kd l) n) M) : Calls mX9_fareOf [(2, 275), (0, l), (0, n)] S0 M Q := by
  have hv : ∀ v, v = prc (N.kd l) n → Q v M := fun v h => h ▸ hQ
  have hk := hg.lineK l0 l1
  refine E_R_fareOf (B_R_fareOf_0 ?_)
  rw [(hN.line l0 l1).1]
  repeat' (first | refine And.intro ?_ ?_ | refine imp_i (fun _ => ?_))
  all_goals (first | omega | exact hv _ (by unfold prc; (repeat' split) <;> omega))
theorem b_fare (fr at_ to r : Int) : Bo mX8_fare mX9_fare [(0, fr), (0, at_), (0, to), (0, r)] := by
  refine bo_N (fun N => fJn N fr at_ to r (-5) (smJ (fun x => x 6))) (fun N M Q hI hQ => ?_) (fun N M Q hI hQ => ?_)
  · exact E_C_fare (B_C_fare_0 (c_jn hI hQ (fun M1 h => ⟨fun _ => h, fun z => absurd rfl z⟩) (fun M1 a0 a1 r0 r1 s0 s1 hb hs h1 h2 hv => ⟨fun z => absurd z (by omega), fun _ => c_sumFares (JN_ok hI.g ⟨a0, a1⟩ r0 r1 s0 s1 hb) h2 (hv _ M1 hs rfl)⟩)))
  · refine E_R_fare (B_R_fare_0 (r_jn hI hQ (fun M1 h => ⟨fun z => absurd rfl z, fun _ => h⟩) (fun M1 a0 a1 r0 r1 s0 s1 hb hs h1 h2 hv => ⟨fun _ => ?_, fun z => absurd z (by omega)⟩)))
    obtain ⟨⟨n0, n1⟩, hL⟩ := JN_ok hI.g ⟨a0, a1⟩ r0 r1 s0 s1 hb
    obtain ⟨g1, g2⟩ := h2
    have key : ∀ k : Nat, k ≤ (JN N fr at_ to r).1.toNat → ∀ v i, v = sumI (fun k => (JN N fr at_ to r).2 k 6) k → i = (k : Int) → AW mX9_fare 46 [(2, 275), (9, 0), (9, 0), (9, 0), (9, 0), (0, v), (0, i)] M1 Q := by
      refine up_ind _ ?_ ?_
      · intro v i hv2 hi
        exact B_R_fare_46 ⟨fun _ => hv _ M1 hs hv2, fun q => absurd (by omega) q⟩
      · intro k hk ih v i hv2 hi
        have e0 := g2 i 0 (by omega) (by omega) (by omega) (by omega)
        have e6 := g2 i 6 (by omega) (by omega) (by omega) (by omega)
        rw [if_neg (by omega), show (0 : Int) + i = i by omega, show (285 : Int) + 0 = 285 by omega] at e0
        rw [if_pos rfl, show (0 : Int) + i = i by omega, show (285 : Int) + 6 = 291 by omega] at e6
        have hb2 := smI_bd (f := fun k => (JN N fr at_ to r).2 k 6) (b := 20) k (fun j hj => fare_bd (hL j (by omega) (by omega)))
        have hl := hL i (by omega) (by omega)
        have hf := fare_bd hl
        have es : sumI (fun k => (JN N fr at_ to r).2 k 6) (k + 1) = sumI (fun k => (JN N fr at_ to r).2 k 6) k + (JN N fr at_ to r).2 i 6 := by rw [hi]; rfl
        refine B_R_fare_46 ⟨fun q => absurd q (by omega), fun _ => ?_⟩
        rw [e0, e6]
        refine ⟨by omega, fun z => ?_, fun z => ?_⟩
        · obtain ⟨q1, q2, q3, q4⟩ := hl.1.resolve_left (by omega)
          refine r_fareOf hI.g (hI.sc hs).r q1.1 q1.2 q4 ?_
          rw [← q3]
          exact ⟨by omega, by omega, ih _ _ (by omega) (by omega)⟩
        · have q := hl.1.resolve_right (by omega)
          exact ⟨by omega, by omega, ih _ _ (by omega) (by omega)⟩
    exact key 0 (Nat.zero_le _) _ 0 rfl rfl
theorem b_waiting (fr at_ to r : Int) : Bo mX8_waiting mX9_waiting [(0, fr), (0, at_), (0, to), (0, r)] := by
  refine bo_N (fun N => fJn N fr at_ to r (-5) (fun J => BS N fr at_ r to - at_ - smJ (fun x => x 5 - x 4) J)) (fun N M Q hI hQ => ?_) (fun N M Q hI hQ => ?_)
  · refine E_C_waiting (B_C_waiting_0 (c_jn hI hQ (fun M1 h => ⟨fun z => absurd rfl z, fun _ => h⟩) (fun M1 a0 a1 r0 r1 s0 s1 hb hs h1 h2 hv => ⟨fun _ => ?_, fun z => absurd z (by omega)⟩)))
    have hJ := JN_ok (fr := fr) hI.g ⟨a0, a1⟩ r0 r1 s0 s1 hb
    have hB : 0 ≤ BS N fr at_ r to ∧ BS N fr at_ r to ≤ 10000 := (BS_bd hI.g ⟨a0, a1⟩ s0 s1).1
    have hb2 := smI_bd (f := fun k => (JN N fr at_ to r).2 k 5 - (JN N fr at_ to r).2 k 4) (b := 10100) (JN N fr at_ to r).1.toNat (fun j hj => by
      have := (hJ.2 j (by omega) (by omega)).2.2.2
      show -10100 ≤ (JN N fr at_ to r).2 j 5 - (JN N fr at_ to r).2 j 4 ∧ (JN N fr at_ to r).2 j 5 - (JN N fr at_ to r).2 j 4 ≤ 10100
      omega)
    have hJ1 := hJ.1
    have hb3 : -(10100 * (((JN N fr at_ to r).1.toNat : Nat) : Int)) ≤ smJ (fun x => x 5 - x 4) (JN N fr at_ to r) ∧ smJ (fun x => x 5 - x 4) (JN N fr at_ to r) ≤ 10100 * (((JN N fr at_ to r).1.toNat : Nat) : Int) := hb2
    rw [h1 r to r0 (Int.le_refl _) s0 s1]
    exact ⟨by omega, by omega, by omega, c_sumMoving hJ h2 ⟨by omega, hv _ M1 hs rfl⟩⟩
  · refine E_R_waiting (B_R_waiting_0 (r_jn hI hQ (fun M1 h => ⟨fun z => absurd rfl z, fun _ => h⟩) (fun M1 a0 a1 r0 r1 s0 s1 hb hs h1 h2 hv => ⟨fun _ => ?_, fun z => absurd z (by omega)⟩)))
    obtain ⟨⟨n0, n1⟩, hL⟩ := JN_ok (fr := fr) hI.g ⟨a0, a1⟩ r0 r1 s0 s1 hb
    have hB : 0 ≤ BS N fr at_ r to ∧ BS N fr at_ r to ≤ 10000 := (BS_bd hI.g ⟨a0, a1⟩ s0 s1).1
    obtain ⟨g1, g2⟩ := h2
    rw [h1]
    refine ⟨by omega, by omega, by omega, by omega, ?_⟩
    have key : ∀ k : Nat, k ≤ (JN N fr at_ to r).1.toNat → ∀ v i, v = BS N fr at_ r to - at_ - sumI (fun k => (JN N fr at_ to r).2 k 5 - (JN N fr at_ to r).2 k 4) k → i = (k : Int) → AW mX9_waiting 59 [(2, 275), (9, 0), (9, 0), (9, 0), (9, 0), (0, v), (0, i)] M1 Q := by
      refine up_ind _ ?_ ?_
      · intro v i hv2 hi
        exact B_R_waiting_59 ⟨fun _ => hv _ M1 hs hv2, fun q => absurd (by omega) q⟩
      · intro k hk ih v i hv2 hi
        have e5 := g2 i 5 (by omega) (by omega) (by omega) (by omega)
        have e4 := g2 i 4 (by omega) (by omega) (by omega) (by omega)
        rw [if_neg (by omega), show (0 : Int) + i = i by omega, show (285 : Int) + 5 = 290 by omega] at e5
        rw [if_neg (by omega), show (0 : Int) + i = i by omega, show (285 : Int) + 4 = 289 by omega] at e4
        have hb2 := smI_bd (f := fun k => (JN N fr at_ to r).2 k 5 - (JN N fr at_ to r).2 k 4) (b := 10100) k (fun j hj => by
          have := (hL j (by omega) (by omega)).2.2.2
          show -10100 ≤ (JN N fr at_ to r).2 j 5 - (JN N fr at_ to r).2 j 4 ∧ (JN N fr at_ to r).2 j 5 - (JN N fr at_ to r).2 j 4 ≤ 10100
          omega)
        have hl := (hL i (by omega) (by omega)).2.2.2
        have es : sumI (fun k => (JN N fr at_ to r).2 k 5 - (JN N fr at_ to r).2 k 4) (k + 1) = sumI (fun k => (JN N fr at_ to r).2 k 5 - (JN N fr at_ to r).2 k 4) k + ((JN N fr at_ to r).2 i 5 - (JN N fr at_ to r).2 i 4) := by rw [hi]; rfl
        refine B_R_waiting_59 ⟨fun q => absurd q (by omega), fun _ => ?_⟩
        rw [e5, e4]
        exact ⟨by omega, by omega, by omega, by omega, ih _ _ (by omega) (by omega)⟩
    exact key 0 (Nat.zero_le _) _ 0 (by show _ = _ - (0 : Int); omega) rfl
def fLeg (N : Net) (fr at_ to r i w : Int) : Int := if i < 0 ∨ w < 0 ∨ 5 < w then -1 else fJn N fr at_ to r (-1) (fun J => if i < J.1 then J.2 (J.1 - 1 - i) w else -1)
theorem b_leg (fr at_ to r i w : Int) : Bo mX8_leg mX9_leg [(0, fr), (0, at_), (0, to), (0, r), (0, i), (0, w)] := by
  refine bo_N (fun N => fLeg N fr at_ to r i w) (fun N M Q hI hQ => ?_) (fun N M Q hI hQ => ?_)
  · unfold fLeg at hQ
    by_cases hw : i < 0 ∨ w < 0 ∨ 5 < w
    · rw [if_pos hw] at hQ
      have hq := hQ M Sc.rf
      exact E_C_leg (B_C_leg_0 ⟨fun _ => hq, fun _ => ⟨fun _ => hq, fun _ => ⟨fun z => absurd z (by omega), fun _ => hq⟩⟩⟩)
    · rw [if_neg hw] at hQ
      refine E_C_leg (B_C_leg_0 ⟨fun z => absurd z (by omega), fun _ => ⟨fun z => absurd z (by omega), fun _ => ⟨fun _ => c_jn hI hQ (fun M1 h => ⟨fun _ => h, fun z => absurd rfl z⟩) (fun M1 a0 a1 r0 r1 s0 s1 hb hs h1 h2 hv => ⟨fun z => absurd z (by omega), fun _ => ?_⟩), fun z => absurd (by omega) z⟩⟩⟩)
      obtain ⟨⟨n0, n1⟩, hL⟩ := JN_ok (fr := fr) hI.g ⟨a0, a1⟩ r0 r1 s0 s1 hb
      obtain ⟨g1, g2⟩ := h2
      rw [g1, show (0 : Int) + (JN N fr at_ to r).1 = (JN N fr at_ to r).1 by omega]
      refine ⟨fun z => ⟨by omega, by omega, by omega, by omega, hv _ M1 hs ?_⟩, fun z => hv _ M1 hs ?_⟩
      · rw [if_pos z]
        have := g2 ((JN N fr at_ to r).1 - 1 - i) w (by omega) (by omega) (by omega) (by omega)
        rw [show 248 + (0 + ((JN N fr at_ to r).1 - 1 - i)) = 248 + ((JN N fr at_ to r).1 - 1 - i) by omega] at this
        exact this
      · rw [if_neg z]
  · have hS : Sc M (up2 M 275 8 0) := Sc.rf.up scr8
    unfold fLeg at hQ
    by_cases hw : i < 0 ∨ w < 0 ∨ 5 < w ∨ fr < 0 ∨ 11 < fr ∨ to < 0 ∨ 11 < to
    · have hq := hQ _ hS
      have e : (if i < 0 ∨ w < 0 ∨ 5 < w then -1 else fJn N fr at_ to r (-1) (fun J => if i < J.1 then J.2 (J.1 - 1 - i) w else -1)) = -1 := by
        split
        · rfl
        · unfold fJn
          have : rfz fr at_ to r = -1 := by unfold rfz; rw [if_pos (by omega)]
          rw [this, if_neg (by omega)]
      have e : fLeg N fr at_ to r i w = -1 := e
      have hq : Q (fLeg N fr at_ to r i w) (up2 M 275 8 0) := hq
      rw [e] at hq
      refine E_R_leg (B_R_leg_0 ?_)
      repeat' (first | refine And.intro ?_ ?_ | refine imp_i (fun _ => ?_))
      all_goals (first | exact hq | omega)
    · have h2 : ∀ M1, Sc M M1 → Q (fJn N fr at_ to r (-1) (fun J => if i < J.1 then J.2 (J.1 - 1 - i) w else -1)) M1 := fun M1 hs => by
        have := hQ M1 hs
        rw [if_neg (by omega)] at this
        exact this
      refine E_R_leg (B_R_leg_0 ⟨fun z => absurd z (by omega), fun _ => ⟨fun z => absurd z (by omega), fun _ => ⟨fun z => absurd z (by omega), fun _ => ⟨fun z => absurd z (by omega), fun _ => ⟨fun z => absurd z (by omega), fun _ => ⟨fun z => absurd z (by omega), fun _ => ⟨fun z => absurd z (by omega), fun _ => ?_⟩⟩⟩⟩⟩⟩⟩)
      have hc := rfz_cases fr at_ to r
      by_cases hz : rfz fr at_ to r = 0
      · refine r_wrong ⟨fun _ => ?_, fun z => absurd (by omega) z⟩
        have hf := hI.sc hS
        unfold fJn at h2
        rw [if_pos hz] at h2
        refine r_layJourney hf (by omega) (by omega) (by omega) (by omega) (by omega) (by omega) (by omega) (fun hb M1 hs => ⟨fun _ => ?_, fun z => absurd rfl z⟩) (fun hb M1 hs h1 h3 => ⟨fun z => absurd z (by omega), fun _ => ?_⟩)
        · rw [if_pos hb] at h2
          exact h2 M1 (hS.tr hs)
        · rw [if_neg hb] at h2
          have hq : Q (if i < (JN N fr at_ to r).1 then (JN N fr at_ to r).2 ((JN N fr at_ to r).1 - 1 - i) w else -1) M1 := h2 M1 (hS.tr hs)
          obtain ⟨⟨n0, n1⟩, hL⟩ := JN_ok (fr := fr) hI.g (by omega) (by omega) (by omega) (by omega) (by omega) hb
          obtain ⟨g1, g2⟩ := h3
          rw [g1, show (0 : Int) + (jf N fr at_ (r + 1).toNat r to).1 = (JN N fr at_ to r).1 by show (0 : Int) + (jf N fr at_ (r + 1).toNat r to).1 = (jf N fr at_ (r + 1).toNat r to).1; omega]
          refine ⟨fun z => ?_, fun z => ⟨by omega, by omega, ?_⟩⟩
          · rw [if_neg (by omega)] at hq
            exact hq
          · rw [if_pos (by omega)] at hq
            have hg2 := fun w w0 w1 => g2 ((JN N fr at_ to r).1 - 1 - i) w (by omega) (by show (JN N fr at_ to r).1 - 1 - i < (JN N fr at_ to r).1; omega) w0 w1
            rw [show (0 : Int) + ((JN N fr at_ to r).1 - 1 - i) = (JN N fr at_ to r).1 - 1 - i by omega] at hg2
            have row : ∀ a, a = 285 + w → M1 a ((JN N fr at_ to r).1 - 1 - i) = (JN N fr at_ to r).2 ((JN N fr at_ to r).1 - 1 - i) w := fun a ha => by
              have := hg2 w (by omega) (by omega)
              rw [if_neg (by omega)] at this
              rw [ha]
              exact this
            refine E_R_ofLeg (B_R_ofLeg_0 ⟨fun z => ⟨by omega, ?_⟩, fun z => ⟨by omega, ?_⟩, fun z => ⟨by omega, ?_⟩, fun z => ⟨by omega, ?_⟩, fun z => ⟨by omega, ?_⟩, fun z => ⟨by omega, ?_⟩⟩)
            all_goals (rw [row _ (by omega)]; exact hq)
      · have hneg : rfz fr at_ to r = -2 := by
          unfold rfz at hz ⊢
          rw [if_neg (by omega)] at hz ⊢
          split
          · rfl
          · rename_i h
            rw [if_neg h] at hz
            exact absurd rfl hz
        have hq := h2 _ hS
        unfold fJn at hq
        rw [if_neg hz, hneg] at hq
        exact r_wrong ⟨fun z => absurd z (by omega), fun _ => hq⟩
