/-! spell, paper -/
abbrev Tx : Type := Int × (Int → Int)
def nilT : Tx := (0, fun _ => 0)
def psh (b : Int) (t : Tx) : Tx := (t.1 + 1, fun j => if j = t.1 then b else t.2 j)
def pNum (v : Int) (t : Tx) : Tx := if v < 10 then psh (48 + v % 10) t else psh (48 + v % 10) (psh (48 + v / 10) t)
def pLeg (x : Int → Int) (t : Tx) : Tx := pNum (x 3) (psh 62 (pNum (x 2) (psh 58 (if x 0 = -5 then psh 87 t else pNum (x 1) (psh 46 (pNum (x 0) (psh 76 t)))))))
/-- the legs spelled, the first so many of a journey -/
def spT (J : Lgs) : Nat → Tx
  | 0 => nilT
  | d + 1 => if 0 < J.1 - 1 - (d : Int) then psh 32 (pLeg (J.2 (J.1 - 1 - d)) (spT J d)) else pLeg (J.2 (J.1 - 1 - d)) (spT J d)
theorem spT_s (J : Lgs) (d : Nat) : spT J (d + 1) = if 0 < J.1 - 1 - (d : Int) then psh 32 (pLeg (J.2 (J.1 - 1 - d)) (spT J d)) else pLeg (J.2 (J.1 - 1 - d)) (spT J d) := rfl
theorem psh_1 (b : Int) (t : Tx) : (psh b t).1 = t.1 + 1 := rfl
theorem pNum_1 (v : Int) (t : Tx) : (pNum v t).1 ≤ t.1 + 2 ∧ t.1 + 1 ≤ (pNum v t).1 ∧ (v < 10 → (pNum v t).1 = t.1 + 1) := by
  unfold pNum
  split
  · rw [psh_1]
    omega
  · rw [psh_1, psh_1]
    omega
theorem pLeg_1 {N : Net} {x : Int → Int} (hg : Good N) (h : LG N x) (t : Tx) : t.1 ≤ (pLeg x t).1 ∧ (pLeg x t).1 ≤ t.1 + 10 := by
  unfold pLeg
  have a := pNum_1 (x 3) (psh 62 (pNum (x 2) (psh 58 (if x 0 = -5 then psh 87 t else pNum (x 1) (psh 46 (pNum (x 0) (psh 76 t)))))))
  have b := pNum_1 (x 2) (psh 58 (if x 0 = -5 then psh 87 t else pNum (x 1) (psh 46 (pNum (x 0) (psh 76 t)))))
  rw [psh_1] at a b
  by_cases e : x 0 = -5
  · rw [if_pos e] at a b ⊢
    rw [psh_1] at b
    omega
  · rw [if_neg e] at b
    obtain ⟨q1, q2, -⟩ := h.1.resolve_left (fun z => e z.1)
    have hk := hg.lineK q1.1 q1.2
    have c := (pNum_1 (x 1) (psh 46 (pNum (x 0) (psh 76 t)))).2.2 (by omega)
    have d := (pNum_1 (x 0) (psh 76 t)).2.2 (by omega)
    rw [psh_1] at c d
    rw [if_neg e] at a ⊢
    omega
theorem spT_1 {N : Net} {J : Lgs} (hg : Good N) (hL : ∀ k, 0 ≤ k → k < J.1 → LG N (J.2 k)) : ∀ d : Nat, (d : Int) ≤ J.1 → 0 ≤ (spT J d).1 ∧ (spT J d).1 ≤ 11 * d
  | 0, _ => ⟨Int.le_refl _, Int.le_refl _⟩
  | d + 1, h => by
    have ih := spT_1 hg hL d (by omega)
    have hp := pLeg_1 hg (hL (J.1 - 1 - d) (by omega) (by omega)) (spT J d)
    rw [spT_s]
    split
    · rw [psh_1]
      omega
    · omega
/-- a text in memory: its bytes, where its length stands -/
def WT (ba la ls : Int) (t : Tx) (M : Mem) : Prop := M la ls = t.1 ∧ ∀ j, 0 ≤ j → j < t.1 → M ba j = t.2 j
theorem WT.psh {ba la ls b n : Int} {t : Tx} {M : Mem} (h : WT ba la ls t M) (hne : ba ≠ la) (hn : n = t.1) : WT ba la ls (psh b t) (up2 (up2 M ba n b) la ls (n + 1)) := by
  obtain ⟨h1, h2⟩ := h
  refine ⟨by rw [up2_at ⟨rfl, rfl⟩, psh_1, hn], fun j j0 j1 => ?_⟩
  rw [psh_1] at j1
  rw [up2_ne hne]
  show up2 M ba n b ba j = if j = t.1 then b else t.2 j
  by_cases e : j = t.1
  · rw [up2_at ⟨rfl, by omega⟩, if_pos e]
  · rw [up2_ni (by omega), if_neg e]
    exact h2 j j0 (by omega)
theorem WT.nil {ba la ls : Int} {M : Mem} (h : M la ls = 0) : WT ba la ls nilT M := ⟨h, fun j j0 j1 => absurd j1 (by show ¬ (j < 0); omega)⟩
/-- nothing but the paper has changed: the class's; the reference's -/
def PFc (M M1 : Mem) : Prop := ∀ a i, a ≠ 266 → ¬ (a = 265 ∧ i = 1) → M1 a i = M a i
def PFr (M M1 : Mem) : Prop := ∀ a i, a ≠ 295 → ¬ (a = 275 ∧ i = 37) → M1 a i = M a i
theorem PFc.tr {M M1 M2 : Mem} (h : PFc M M1) (h2 : PFc M1 M2) : PFc M M2 := fun a i q q2 => (h2 a i q q2).trans (h a i q q2)
theorem PFr.tr {M M1 M2 : Mem} (h : PFr M M1) (h2 : PFr M1 M2) : PFr M M2 := fun a i q q2 => (h2 a i q q2).trans (h a i q q2)
theorem PFc.up {M : Mem} {n b m : Int} : PFc M (up2 (up2 M 266 n b) 265 1 m) := fun a i q q2 => by rw [up2_ni q2, up2_ne q]
theorem PFr.up {M : Mem} {n b m : Int} : PFr M (up2 (up2 M 295 n b) 275 37 m) := fun a i q q2 => by rw [up2_ni q2, up2_ne q]
theorem c_put {M : Mem} {Q : Int → Mem → Prop} {b : Int} {t : Tx} (h : WT 266 265 1 t M) (t0 : 0 ≤ t.1) (t1 : t.1 < 160) (hQ : ∀ M1, PFc M M1 → WT 266 265 1 (psh b t) M1 → Q 0 M1) : Calls mX7_put [(2, 265), (0, b)] S0 M Q := by
  have e := h.1
  refine E_Text_put_2 (B_Text_put_2_0 ⟨fun _ => ⟨by omega, by omega, hQ _ PFc.up (h.psh (by omega) e)⟩, fun z => absurd (by omega) z⟩)
theorem c_putNumber {M : Mem} {Q : Int → Mem → Prop} {v : Int} {t : Tx} (h : WT 266 265 1 t M) (v0 : 0 ≤ v) (v1 : v < 100) (t0 : 0 ≤ t.1) (t1 : t.1 < 158) (hQ : ∀ M1, PFc M M1 → WT 266 265 1 (pNum v t) M1 → Q 0 M1) : Calls mX7_putNumber [(2, 265), (0, v)] S0 M Q := by
  unfold pNum at hQ
  refine E_Text_putNumber (B_Text_putNumber_0 ⟨fun z => ⟨v0, by omega, c_put h t0 (by omega) (fun M1 f1 w1 => ?_)⟩, fun z => ⟨v0, by omega, c_put h t0 (by omega) (fun M1 f1 w1 => ⟨by omega, c_put w1 (by rw [psh_1]; omega) (by rw [psh_1]; omega) (fun M2 f2 w2 => ?_)⟩)⟩⟩)
  · rw [if_pos z] at hQ
    exact hQ M1 f1 w1
  · rw [if_neg z] at hQ
    exact hQ M2 (f1.tr f2) w2
theorem r_writesNumber {M : Mem} {Q : Int → Mem → Prop} {v : Int} {t : Tx} (h : WT 295 275 37 t M) (v0 : 0 ≤ v) (v1 : v < 100) (t0 : 0 ≤ t.1) (t1 : t.1 < 190) (hQ : ∀ M1, PFr M M1 → WT 295 275 37 (pNum v t) M1 → Q 0 M1) : Calls mX9_writesNumber [(2, 275), (0, v)] S0 M Q := by
  unfold pNum at hQ
  have e := h.1
  refine E_R_writesNumber (B_R_writesNumber_0 ?_)
  rw [e]
  refine ⟨fun z => ⟨v0, by omega, by omega, by omega, ?_⟩, fun z => ⟨v0, by omega, by omega, by omega, by omega, by omega, by omega, ?_⟩⟩
  · rw [if_pos (by omega)] at hQ
    exact hQ _ PFr.up (h.psh (by omega) rfl)
  · rw [if_neg (by omega)] at hQ
    exact hQ _ (PFr.up.tr PFr.up) ((h.psh (b := 48 + v / 10) (n := t.1) (by omega) rfl).psh (by omega) rfl)
set_option maxHeartbeats 4000000 in
theorem c_spellInto {N : Net} {M : Mem} {Q : Int → Mem → Prop} {J : Lgs} (hg : Good N) (hJ : (0 ≤ J.1 ∧ J.1 ≤ 13) ∧ ∀ k, 0 ≤ k → k < J.1 → LG N (J.2 k)) (hR : JR 0 J M) (hQ : ∀ M1, PFc M M1 → WT 266 265 1 (spT J J.1.toNat) M1 → Q 0 M1) : Calls mX5_spellInto [(2, 246), (2, 265)] S0 M Q := by
  obtain ⟨⟨n0, n1⟩, hL⟩ := hJ
  obtain ⟨h1, h2⟩ := hR
  refine E_Route_spellInto (B_Route_spellInto_0 ⟨by omega, ?_⟩)
  have key : ∀ d : Nat, d ≤ J.1.toNat → ∀ i M1, i = J.1 - 1 - (d : Int) → PFc M M1 → WT 266 265 1 (spT J d) M1 → AW mX5_spellInto 12 [(2, 246), (2, 265), (0, i), (9, 0)] M1 Q := by
    refine up_ind _ ?_ ?_
    · intro i M1 hi hf hw
      exact B_Route_spellInto_12 ⟨fun _ => hQ M1 hf hw, fun q => absurd (by omega) q⟩
    · intro d hd ih i M1 hi hf hw
      have hl := hL i (by omega) (by omega)
      have hl2 := hl.2.1
      have hl3 := hl.2.2.1
      have hlen := spT_1 hg hL d (by omega)
      have row : ∀ w M2, 0 ≤ w → w < 7 → PFc M M2 → M2 (248 + i) w = J.2 i w := fun w M2 w0 w1 hf2 => by
        rw [hf2 _ _ (by omega) (by omega)]
        have := h2 i w (by omega) (by omega) w0 w1
        rw [show 248 + (0 + i) = 248 + i by omega] at this
        exact this
      have hx : spT J (d + 1) = if 0 < i then psh 32 (pLeg (J.2 i) (spT J d)) else pLeg (J.2 i) (spT J d) := by rw [hi]; rfl
      have lleg := pLeg_1 hg hl (spT J d)
      have fin : ∀ M2, PFc M M2 → WT 266 265 1 (pLeg (J.2 i) (spT J d)) M2 → ((i ≤ 0 → (-2147483648 ≤ i + (-1) ∧ i + (-1) ≤ 2147483647) ∧ AW mX5_spellInto 12 [(2, 246), (2, 265), (0, i + (-1)), (9, 0)] M2 Q) ∧ (¬ (i ≤ 0) → Calls mX7_put [(2, 265), (0, 32)] S0 M2 (fun _ M24 => (-2147483648 ≤ i + (-1) ∧ i + (-1) ≤ 2147483647) ∧ AW mX5_spellInto 12 [(2, 246), (2, 265), (0, i + (-1)), (9, 0)] M24 Q))) := by
        intro M2 hf2 hw2
        refine ⟨fun z => ⟨by omega, ih _ M2 (by omega) hf2 ?_⟩, fun z => c_put hw2 (by omega) (by omega) (fun M3 f3 w3 => ⟨by omega, ih _ M3 (by omega) (hf2.tr f3) ?_⟩)⟩
        · rw [hx, if_neg (by omega)]
          exact hw2
        · rw [hx, if_pos (by omega)]
          exact w3
      -- the last half of a leg
      have half : ∀ (t : Tx) (M2 : Mem), 0 ≤ t.1 → t.1 ≤ 147 → PFc M M2 → WT 266 265 1 t M2 → pNum (J.2 i 3) (psh 62 (pNum (J.2 i 2) (psh 58 t))) = pLeg (J.2 i) (spT J d) → Calls mX7_put [(2, 265), (0, 58)] S0 M2 (fun _ M29 => Calls mX7_putNumber [(2, 265), (0, M29 (248 + i) 2)] S0 M29 (fun _ M31 => Calls mX7_put [(2, 265), (0, 62)] S0 M31 (fun _ M33 => Calls mX7_putNumber [(2, 265), (0, M33 (248 + i) 3)] S0 M33 (fun _ M2 => ((i ≤ 0 → (-2147483648 ≤ i + (-1) ∧ i + (-1) ≤ 2147483647) ∧ AW mX5_spellInto 12 [(2, 246), (2, 265), (0, i + (-1)), (9, 0)] M2 Q) ∧ (¬ (i ≤ 0) → Calls mX7_put [(2, 265), (0, 32)] S0 M2 (fun _ M24 => (-2147483648 ≤ i + (-1) ∧ i + (-1) ≤ 2147483647) ∧ AW mX5_spellInto 12 [(2, 246), (2, 265), (0, i + (-1)), (9, 0)] M24 Q))))))) := by
        intro t M2 t0 t1 hf2 hw2 he
        refine c_put hw2 t0 (by omega) (fun M3 f3 w3 => ?_)
        have g3 := hf2.tr f3
        rw [row 2 M3 (by omega) (by omega) g3]
        have p3 := psh_1 58 t
        refine c_putNumber w3 hl.2.1.1 (by omega) (by omega) (by omega) (fun M4 f4 w4 => ?_)
        have g4 := g3.tr f4
        have p4 := pNum_1 (J.2 i 2) (psh 58 t)
        refine c_put w4 (by omega) (by omega) (fun M5 f5 w5 => ?_)
        have g5 := g4.tr f5
        have p5 := psh_1 62 (pNum (J.2 i 2) (psh 58 t))
        rw [row 3 M5 (by omega) (by omega) g5]
        refine c_putNumber w5 hl.2.2.1.1 (by omega) (by omega) (by omega) (fun M6 f6 w6 => fin M6 (g5.tr f6) ?_)
        rw [← he]
        exact w6
      refine B_Route_spellInto_12 ⟨fun q => absurd q (by omega), fun _ => ⟨by omega, ?_⟩⟩
      rw [row 0 M1 (by omega) (by omega) hf]
      refine ⟨fun z => ?_, fun z => ?_⟩
      · obtain ⟨q1, q2, -⟩ := hl.1.resolve_left (fun y => z y.1)
        have hk := hg.lineK q1.1 q1.2
        refine c_put hw hlen.1 (by omega) (fun M3 f3 w3 => ?_)
        have g3 := hf.tr f3
        rw [row 0 M3 (by omega) (by omega) g3]
        have p3 := psh_1 76 (spT J d)
        refine c_putNumber w3 q1.1 (by omega) (by omega) (by omega) (fun M4 f4 w4 => ?_)
        have g4 := g3.tr f4
        have p4 := pNum_1 (J.2 i 0) (psh 76 (spT J d))
        refine c_put w4 (by omega) (by omega) (fun M5 f5 w5 => ?_)
        have g5 := g4.tr f5
        have p5 := psh_1 46 (pNum (J.2 i 0) (psh 76 (spT J d)))
        rw [row 1 M5 (by omega) (by omega) g5]
        refine c_putNumber w5 q2.1 (by omega) (by omega) (by omega) (fun M6 f6 w6 => ?_)
        have p6 := pNum_1 (J.2 i 1) (psh 46 (pNum (J.2 i 0) (psh 76 (spT J d))))
        have p4' := p4.2.2 (by omega)
        have p6' := p6.2.2 (by omega)
        refine half _ M6 (by omega) (by omega) (g5.tr f6) w6 ?_
        unfold pLeg
        rw [if_neg z]
      · refine c_put hw hlen.1 (by omega) (fun M3 f3 w3 => ?_)
        have p3 := psh_1 87 (spT J d)
        refine half _ M3 (by omega) (by omega) (hf.tr f3) w3 ?_
        unfold pLeg
        rw [if_pos z]
  exact key 0 (Nat.zero_le _) _ _ (by omega) (fun a i q q2 => by rw [up2_ni q2]) (WT.nil (up2_at ⟨rfl, rfl⟩))
set_option maxHeartbeats 4000000 in
theorem r_writesLeg {N : Net} {M : Mem} {Q : Int → Mem → Prop} {i : Int} {x : Int → Int} {t : Tx} (hg : Good N) (hl : LG N x) (i0 : 0 ≤ i) (i1 : i < 16) (h0 : M 285 i = x 0) (h1 : M 286 i = x 1) (h2 : M 287 i = x 2) (h3 : M 288 i = x 3) (hw : WT 295 275 37 t M) (t0 : 0 ≤ t.1) (t1 : t.1 ≤ 170) (hQ : ∀ M1, PFr M M1 → WT 295 275 37 (pLeg x t) M1 → Q 0 M1) : Calls mX9_writesLeg [(2, 275), (0, i)] S0 M Q := by
  have e := hw.1
  have hl2 := hl.2.1
  have hl3 := hl.2.2.1
  refine E_R_writesLeg (B_R_writesLeg_0 ⟨by omega, ?_⟩)
  rw [h0, h2, e]
  have half : ∀ (t2 : Tx) (M2 : Mem), 0 ≤ t2.1 → t2.1 ≤ 180 → PFr M M2 → WT 295 275 37 t2 M2 → pNum (x 3) (psh 62 (pNum (x 2) t2)) = pLeg x t → Calls mX9_writesNumber [(2, 275), (0, x 2)] S0 M2 (fun _ M14 => ((0 : Int) ≤ M14 275 37 ∧ M14 275 37 < 200) ∧ (-2147483648 ≤ (M14 275 37) + 1 ∧ (M14 275 37) + 1 ≤ 2147483647) ∧ Calls mX9_writesNumber [(2, 275), (0, M14 288 i)] S0 (up2 (up2 M14 295 (M14 275 37) 62) 275 37 ((M14 275 37) + 1)) (fun _ M18 => Q 0 M18)) := by
    intro t2 M2 t20 t21 hf2 hw2 he
    refine r_writesNumber hw2 hl.2.1.1 (by omega) t20 (by omega) (fun M3 f3 w3 => ?_)
    have g3 := hf2.tr f3
    have p3 := pNum_1 (x 2) t2
    have e3 := w3.1
    rw [e3, g3 288 i (by omega) (by omega), h3]
    have p4 := psh_1 62 (pNum (x 2) t2)
    refine ⟨by omega, by omega, r_writesNumber (w3.psh (b := 62) (by omega) rfl) hl.2.2.1.1 (by omega) (by omega) (by omega) (fun M4 f4 w4 => hQ M4 ((g3.tr PFr.up).tr f4) ?_)⟩
    rw [← he]
    exact w4
  refine ⟨fun z => ⟨by omega, by omega, ?_⟩, fun z => ⟨by omega, by omega, by omega, by omega, ?_⟩⟩
  · obtain ⟨q1, q2, -⟩ := hl.1.resolve_left (fun y => by omega)
    have hk := hg.lineK q1.1 q1.2
    have p3 := psh_1 76 t
    refine r_writesNumber (hw.psh (b := 76) (by omega) rfl) q1.1 (by omega) (by omega) (by omega) (fun M3 f3 w3 => ?_)
    have g3 : PFr M M3 := PFr.up.tr f3
    have e3 := w3.1
    have p4 := (pNum_1 (x 0) (psh 76 t)).2.2 (by omega)
    rw [e3, g3 286 i (by omega) (by omega), h1]
    have p5 := psh_1 46 (pNum (x 0) (psh 76 t))
    refine ⟨by omega, by omega, r_writesNumber (w3.psh (b := 46) (by omega) rfl) q2.1 (by omega) (by omega) (by omega) (fun M4 f4 w4 => ?_)⟩
    have g4 : PFr M M4 := (g3.tr PFr.up).tr f4
    have e4 := w4.1
    have p6 := (pNum_1 (x 1) (psh 46 (pNum (x 0) (psh 76 t)))).2.2 (by omega)
    rw [e4, g4 287 i (by omega) (by omega), h2]
    have p7 := psh_1 58 (pNum (x 1) (psh 46 (pNum (x 0) (psh 76 t))))
    refine ⟨by omega, by omega, half _ _ (by omega) (by omega) (g4.tr PFr.up) (w4.psh (b := 58) (by omega) rfl) ?_⟩
    unfold pLeg
    rw [if_neg (by omega)]
  · have q := hl.1.resolve_right (fun y => z y.1.1)
    have p3 := psh_1 87 t
    have p4 := psh_1 58 (psh 87 t)
    have f : PFr M (up2 (up2 (up2 (up2 M 295 t.1 87) 275 37 (t.1 + 1)) 295 (t.1 + 1) 58) 275 37 (t.1 + 1 + 1)) := PFr.up.tr PFr.up
    refine half _ _ (by omega) (by omega) f ((hw.psh (b := 87) (n := t.1) (by omega) rfl).psh (b := 58) (by omega) rfl) ?_
    unfold pLeg
    rw [if_pos q.1]
/-- the paper alone has changed -/
theorem IN.paper {N : Net} {M M1 : Mem} (h : IN N M) (hs : ∀ a i, ¬ scr a i → ¬ (265 ≤ a ∧ a ≤ 266) → a ≠ 295 → ¬ (a = 275 ∧ i = 37) → M1 a i = M a i) (hl : PapI M1) : IN N M1 := by
  obtain ⟨hg, hc, hr, ⟨a1, a2, a3, a4, a5⟩, ht, -, hp, hi⟩ := h
  refine ⟨hg, hc.keep hg (fun a i q1 q2 => hs a i (by unfold scr; omega) (by omega) (by omega) (by omega)), hr.keep (fun a i q => hs a i (by unfold scr; omega) (by omega) (by omega) (by omega)), ⟨?_, ?_, ?_, ?_, ?_⟩, ht.keep (fun a i q => hs a i (by unfold scr; omega) (by omega) (by omega) (by omega)), hl, hp.keep (fun a i q => hs a i (by unfold scr; omega) (by omega) (by omega) (by omega)), hi.keep (hs _ _ (by unfold scr; omega) (by omega) (by omega) (by omega)) (hs _ _ (by unfold scr; omega) (by omega) (by omega) (by omega)) (fun a i q1 q2 => hs a i (by unfold scr; omega) (by omega) (by omega) (by omega)) (fun i => hs _ _ (by unfold scr; omega) (by omega) (by omega) (by omega))⟩
  all_goals (rw [hs _ _ (by unfold scr; omega) (by omega) (by omega) (by omega)]; assumption)
set_option maxHeartbeats 4000000 in
theorem b_spell (fr at_ to r : Int) : Bo mX8_spell mX9_spell [(0, fr), (0, at_), (0, to), (0, r)] := by
  intro M K ⟨N, hI⟩ hK
  have hg := hI.g
  have hc := rfz_cases fr at_ to r
  refine E_C_spell (B_C_spell_0 (c_refusal ⟨fun q => ?_, fun q => ?_⟩))
  · refine c_trace hI (by omega) (by omega) (by omega) (by omega) (by omega) (fun hb M1 hs => ⟨fun z => absurd rfl z, fun _ => ?_⟩) (fun hb M1 hs h1 h2 => ⟨fun _ => ?_, fun z => absurd z (by omega)⟩)
    · have hS : Sc M1 (up2 M1 275 8 0) := Sc.rf.up scr8
      refine E_R_spell (B_R_spell_0 (r_wrong ⟨fun _ => r_layJourney ((hI.sc hs).sc hS) (by omega) (by omega) (by omega) (by omega) (by omega) (by omega) (by omega) (fun _ M2 hs2 => ⟨fun z => absurd rfl z, fun _ => hK _ M2 ⟨N, ((hI.sc hs).sc hS).sc hs2⟩⟩) (fun hb2 => absurd hb hb2), fun z => absurd (by omega) z⟩))
    · have hJ := JN_ok (fr := fr) hg (at_ := at_) (to := to) (r := r) (by omega) (by omega) (by omega) (by omega) (by omega) hb
      refine c_spellInto hg hJ h2 (fun M2 f2 w2 => ?_)
      rw [w2.1]
      have hW : WK N (up2 M2 275 8 0) := (hI.sc hs).wk.keep (fun a i z => by rw [up2_ni (by omega)]; exact f2 a i (by omega) (by omega))
      refine E_R_spell (B_R_spell_0 (r_wrong ⟨fun _ => r_layJourneyW hW (by omega) (by omega) (by omega) (by omega) (by omega) (by omega) (by omega) (fun hb2 => absurd hb2 hb) (fun _ M3 hs3 _ h3 => ⟨fun _ => ?_, fun z => absurd z (by omega)⟩), fun z => absurd (by omega) z⟩))
      obtain ⟨⟨n0, n1⟩, hL⟩ := hJ
      obtain ⟨g1, g2⟩ := h3
      have g1 : M3 275 14 = 0 + (JN N fr at_ to r).1 := g1
      have g2 : ∀ k w, 0 ≤ k → k < (JN N fr at_ to r).1 → 0 ≤ w → w < 7 → M3 (285 + w) (0 + k) = (JN N fr at_ to r).2 k (if w = 6 then 7 else w) := g2
      have w2 : WT 266 265 1 (spT (JN N fr at_ to r) (JN N fr at_ to r).1.toNat) M2 := w2
      show (-2147483648 ≤ (M3 275 14) - 1 ∧ (M3 275 14) - 1 ≤ 2147483647) ∧ AW mX9_spell 53 [(2, 275), (9, 0), (9, 0), (9, 0), (9, 0), (0, (M3 275 14) - 1)] (up2 M3 275 37 0) (fun r2 M2 => K (spT (JN N fr at_ to r) (JN N fr at_ to r).1.toNat).1 r2 M2)
      generalize JN N fr at_ to r = J at *
      refine ⟨by omega, ?_⟩
      have key : ∀ d : Nat, d ≤ J.1.toNat → ∀ i M4, i = J.1 - 1 - (d : Int) → PFr M3 M4 → WT 295 275 37 (spT J d) M4 → AW mX9_spell 53 [(2, 275), (9, 0), (9, 0), (9, 0), (9, 0), (0, i)] M4 (fun r2 M2 => K (spT J J.1.toNat).1 r2 M2) := by
        refine up_ind _ ?_ ?_
        · intro i M4 hi hf hw
          refine B_R_spell_53 ⟨fun _ => ?_, fun q => absurd (by omega) q⟩
          rw [hw.1]
          have hlen := spT_1 hg hL J.1.toNat (by omega)
          -- back to M: what the reference's walk left alone
          have back : ∀ a i, ¬ scr a i → a ≠ 295 → ¬ (a = 275 ∧ i = 37) → M4 a i = M2 a i := fun a i q q2 q3 => by
            rw [hf a i q2 q3, hs3 a i q, up2_ni (fun z => q (by unfold scr; omega))]
          refine hK _ M4 ⟨N, (hI.sc hs).paper (fun a i q q2 q3 q4 => ?_) ⟨?_, ?_, fun j j0 j1 => ?_⟩⟩
          · rw [back a i q q3 q4]
            exact f2 a i (by omega) (by omega)
          · rw [back 265 1 (by unfold scr; omega) (by omega) (by omega), w2.1, hw.1]
          · rw [back 265 1 (by unfold scr; omega) (by omega) (by omega), w2.1]
            omega
          · rw [back 265 1 (by unfold scr; omega) (by omega) (by omega), w2.1] at j1
            rw [back 266 j (by unfold scr; omega) (by omega) (by omega), w2.2 j j0 j1, hw.2 j j0 j1]
        · intro d hd ih i M4 hi hf hw
          have hl := hL i (by omega) (by omega)
          have hlen := spT_1 hg hL d (by omega)
          have row : ∀ a w, a = 285 + w → 0 ≤ w → w < 6 → M4 a i = J.2 i w := fun a w ha w0 w1 => by
            rw [hf _ _ (by omega) (by omega), ha]
            have := g2 i w (by omega) (by omega) w0 (by omega)
            rw [if_neg (by omega), show (0 : Int) + i = i by omega] at this
            exact this
          have hx : spT J (d + 1) = if 0 < i then psh 32 (pLeg (J.2 i) (spT J d)) else pLeg (J.2 i) (spT J d) := by rw [hi]; rfl
          have lleg := pLeg_1 hg hl (spT J d)
          refine B_R_spell_53 ⟨fun q => absurd q (by omega), fun _ => r_writesLeg hg hl (by omega) (by omega) (row _ 0 (by omega) (by omega) (by omega)) (row _ 1 (by omega) (by omega) (by omega)) (row _ 2 (by omega) (by omega) (by omega)) (row _ 3 (by omega) (by omega) (by omega)) hw hlen.1 (by omega) (fun M5 f5 w5 => ?_)⟩
          rw [w5.1]
          refine ⟨fun z => ⟨by omega, ih _ M5 (by omega) (hf.tr f5) ?_⟩, fun z => ⟨by omega, by omega, by omega, ih _ _ (by omega) ((hf.tr f5).tr PFr.up) ?_⟩⟩
          · rw [hx, if_neg (by omega)]
            exact w5
          · rw [hx, if_pos (by omega)]
            exact w5.psh (by omega) rfl
      exact key 0 (Nat.zero_le _) _ _ (by omega) (fun a i q q2 => by rw [up2_ni q2]) (WT.nil (up2_at ⟨rfl, rfl⟩))
  · have hS : Sc M (up2 M 275 8 0) := Sc.rf.up scr8
    exact E_R_spell (B_R_spell_0 (r_wrong ⟨fun z => absurd z (by omega), fun _ => r_wrong (hK _ _ ⟨N, hI.sc hS⟩)⟩))
