/-! WHAT HOLDS BETWEEN THE CALLS -/
def LostI (M : Mem) : Prop := M 229 3 = -1 ∧ M 229 4 = -1 ∧ M 229 5 = -1 ∧ M 275 9 = -1 ∧ M 275 10 = -1
def TapeI (M : Mem) : Prop := M 263 1 = M 275 26 ∧ (0 ≤ M 263 1 ∧ M 263 1 ≤ 80) ∧ ∀ j, 0 ≤ j → j < M 263 1 → M 264 j = M 292 j ∧ 1 ≤ M 264 j ∧ M 264 j ≤ 127
def PapI (M : Mem) : Prop := M 265 1 = M 275 37 ∧ (0 ≤ M 265 1 ∧ M 265 1 ≤ 160) ∧ ∀ j, 0 ≤ j → j < M 265 1 → M 266 j = M 295 j
def LisI (M : Mem) : Prop := ∀ l, 0 ≤ l → l < 4 → (M 296 l = 0 ∧ M 274 l = -1) ∨ (M 296 l = 1 ∧ M 274 l = M 297 l ∧ (0 ≤ M 274 l ∧ M 274 l ≤ 20) ∧ ∀ j, 0 ≤ j → j < M 274 l → M (270 + l) j = M 298 (20 * l + j))
/-- a timetable carried into a row -/
def RI (N : Net) (a : Int) (M : Mem) : Prop := M a 0 = N.ln ∧
  (∀ l, 0 ≤ l → l < N.ln → M a (1 + 3 * l) = N.kd l ∧ M a (2 + 3 * l) = N.sz l ∧ M a (3 + 3 * l) = N.tr l ∧ (∀ i, 0 ≤ i → i < N.sz l → M a (25 + 2 * (6 * l + i)) = N.sp l i) ∧
    ∀ t, 0 ≤ t → t < N.tr l → M a (26 + 2 * (6 * l + t)) = N.fi l t ∧ ∀ i, 0 ≤ i → i < N.sz l → M a (121 + (36 * l + 6 * t + i)) = N.mi l t i) ∧
  ∀ x y, 0 ≤ x → x < 12 → 0 ≤ y → y < 12 → M a (409 + (12 * x + y)) = N.pt x y
def ImgI (M : Mem) : Prop := M 0 10 = M 275 32 ∧ ((M 0 10 = 0) ∨ (M 0 10 = 1 ∧ ∃ N, Good N ∧ CH N 76 M ∧ RI N 294 M))
def IN (N : Net) (M : Mem) : Prop := Good N ∧ CH N 0 M ∧ RH N M ∧ LostI M ∧ TapeI M ∧ PapI M ∧ LisI M ∧ ImgI M
def Inv (M : Mem) : Prop := ∃ N, IN N M
/-- places whose content no later call asks for -/
def scr (a i : Int) : Prop := (153 ≤ a ∧ a ≤ 228) ∨ (230 ≤ a ∧ a ≤ 262) ∨ (a = 267) ∨ (283 ≤ a ∧ a ≤ 291) ∨ a = 293 ∨ (a = 275 ∧ (i = 8 ∨ i = 11 ∨ i = 14 ∨ i = 22 ∨ i = 23 ∨ i = 24 ∨ i = 27 ∨ i = 28 ∨ i = 29 ∨ i = 33 ∨ i = 34 ∨ i = 35))
def Sc (M M1 : Mem) : Prop := ∀ a i, ¬ scr a i → M1 a i = M a i
theorem Sc.rf {M : Mem} : Sc M M := fun _ _ _ => rfl
theorem Sc.tr {M M1 M2 : Mem} (h : Sc M M1) (h2 : Sc M1 M2) : Sc M M2 := fun a i q => (h2 a i q).trans (h a i q)
theorem Sc.up {M M1 : Mem} {a i v : Int} (h : Sc M M1) (hs : scr a i) : Sc M (up2 M1 a i v) := fun b j q => by
  unfold up2
  rw [if_neg (fun z => q (by rw [z.1, z.2]; exact hs))]
  exact h b j q
theorem CH.keep {N : Net} {d : Int} {M M1 : Mem} (h : CH N d M) (hg : Good N) (hf : ∀ a i, 1 + d ≤ a → a ≤ 76 + d → M1 a i = M a i) : CH N d M1 := by
  obtain ⟨h1, h2, h3⟩ := h
  obtain ⟨g1, g2, g3⟩ := hg
  refine ⟨by rw [hf _ _ (by omega) (by omega)]; exact h1, fun l l0 l1 => ?_, fun a b a0 a1 b0 b1 => by rw [hf _ _ (by omega) (by omega)]; exact h3 a b a0 a1 b0 b1⟩
  obtain ⟨q1, q2, q3, q4, q5⟩ := h2 l l0 l1
  obtain ⟨-, -, ⟨u1, u2⟩, -⟩ := g2 l l0 l1
  refine ⟨by rw [hf _ _ (by omega) (by omega)]; exact q1, by rw [hf _ _ (by omega) (by omega)]; exact q2, by rw [hf _ _ (by omega) (by omega)]; exact q3, fun i i0 i1 => by rw [hf _ _ (by omega) (by omega)]; exact q4 i i0 i1, fun t t0 t1 => ?_⟩
  obtain ⟨w1, w2⟩ := q5 t t0 t1
  exact ⟨by rw [hf _ _ (by omega) (by omega)]; exact w1, fun i i0 i1 => by rw [hf _ _ (by omega) (by omega)]; exact w2 i i0 i1⟩
theorem RI.keep {N : Net} {a : Int} {M M1 : Mem} (h : RI N a M) (hf : ∀ i, M1 a i = M a i) : RI N a M1 := by
  obtain ⟨h1, h2, h3⟩ := h
  refine ⟨by rw [hf]; exact h1, fun l l0 l1 => ?_, fun x y x0 x1 y0 y1 => by rw [hf]; exact h3 x y x0 x1 y0 y1⟩
  obtain ⟨q1, q2, q3, q4, q5⟩ := h2 l l0 l1
  exact ⟨by rw [hf]; exact q1, by rw [hf]; exact q2, by rw [hf]; exact q3, fun i i0 i1 => by rw [hf]; exact q4 i i0 i1, fun t t0 t1 => ⟨by rw [hf]; exact (q5 t t0 t1).1, fun i i0 i1 => by rw [hf]; exact (q5 t t0 t1).2 i i0 i1⟩⟩
theorem ImgI.keep {M M1 : Mem} (h : ImgI M) (h1 : M1 0 10 = M 0 10) (h2 : M1 275 32 = M 275 32) (h3 : ∀ a i, 77 ≤ a → a ≤ 152 → M1 a i = M a i) (h4 : ∀ i, M1 294 i = M 294 i) : ImgI M1 := by
  unfold ImgI
  rw [h1, h2]
  refine ⟨h.1, ?_⟩
  rcases h.2 with q | ⟨q, N, hg, hc, hr⟩
  · exact Or.inl q
  · exact Or.inr ⟨q, N, hg, hc.keep hg (fun a i a1 a2 => h3 a i (by omega) (by omega)), hr.keep h4⟩
theorem LisI.keep {M M1 : Mem} (h : LisI M) (hf : ∀ a i, (270 ≤ a ∧ a ≤ 274) ∨ (296 ≤ a ∧ a ≤ 298) → M1 a i = M a i) : LisI M1 := by
  intro l l0 l1
  rw [hf 296 l (by omega), hf 274 l (by omega), hf 297 l (by omega)]
  rcases h l l0 l1 with q | ⟨q1, q2, q3, q4⟩
  · exact Or.inl q
  · exact Or.inr ⟨q1, q2, q3, fun j j0 j1 => by rw [hf _ _ (by omega), hf _ _ (by omega)]; exact q4 j j0 j1⟩
theorem TapeI.keep {M M1 : Mem} (h : TapeI M) (hf : ∀ a i, (263 ≤ a ∧ a ≤ 264) ∨ (a = 275 ∧ i = 26) ∨ a = 292 → M1 a i = M a i) : TapeI M1 := by
  unfold TapeI
  rw [hf 263 1 (by omega), hf 275 26 (by omega)]
  refine ⟨h.1, h.2.1, fun j j0 j1 => ?_⟩
  rw [hf 264 j (by omega), hf 292 j (by omega)]
  exact h.2.2 j j0 j1
theorem PapI.keep {M M1 : Mem} (h : PapI M) (hf : ∀ a i, (265 ≤ a ∧ a ≤ 266) ∨ (a = 275 ∧ i = 37) ∨ a = 295 → M1 a i = M a i) : PapI M1 := by
  unfold PapI
  rw [hf 265 1 (by omega), hf 275 37 (by omega)]
  refine ⟨h.1, h.2.1, fun j j0 j1 => ?_⟩
  rw [hf 266 j (by omega), hf 295 j (by omega)]
  exact h.2.2 j j0 j1
theorem IN.sc {N : Net} {M M1 : Mem} (h : IN N M) (hs : Sc M M1) : IN N M1 := by
  obtain ⟨hg, hc, hr, ⟨a1, a2, a3, a4, a5⟩, ht, hp, hl, hi⟩ := h
  refine ⟨hg, hc.keep hg (fun a i q1 q2 => hs a i (by unfold scr; omega)), hr.keep (fun a i q => hs a i (by unfold scr; omega)), ⟨?_, ?_, ?_, ?_, ?_⟩, ht.keep (fun a i q => hs a i (by unfold scr; omega)), hp.keep (fun a i q => hs a i (by unfold scr; omega)), hl.keep (fun a i q => hs a i (by unfold scr; omega)), hi.keep (hs _ _ (by unfold scr; omega)) (hs _ _ (by unfold scr; omega)) (fun a i q1 q2 => hs a i (by unfold scr; omega)) (fun i => hs _ _ (by unfold scr; omega))⟩
  all_goals (rw [hs _ _ (by unfold scr; omega)]; assumption)
theorem IN.g {N : Net} {M : Mem} (h : IN N M) : Good N := h.1
theorem IN.c {N : Net} {M : Mem} (h : IN N M) : CH N 0 M := h.2.1
theorem IN.r {N : Net} {M : Mem} (h : IN N M) : RH N M := h.2.2.1
theorem IN.lo {N : Net} {M : Mem} (h : IN N M) : LostI M := h.2.2.2.1
theorem IN.ta {N : Net} {M : Mem} (h : IN N M) : TapeI M := h.2.2.2.2.1
theorem IN.pa {N : Net} {M : Mem} (h : IN N M) : PapI M := h.2.2.2.2.2.1
theorem IN.li {N : Net} {M : Mem} (h : IN N M) : LisI M := h.2.2.2.2.2.2.1
theorem IN.im {N : Net} {M : Mem} (h : IN N M) : ImgI M := h.2.2.2.2.2.2.2
/-- EARLIEST, as all calls mean it -/
abbrev BS (N : Net) (fr at_ r s : Int) : Int := bst N (-1) (-1) (-1) fr at_ r.toNat s
theorem c_run0 {N : Net} {M : Mem} {Q : Int → Mem → Prop} {fr at_ r : Int} (hI : IN N M) (hat : 0 ≤ at_ ∧ at_ ≤ 2000) (hr : 0 ≤ r ∧ r ≤ 6) (hQ : ∀ M1, Sc M M1 → (∀ k s, 0 ≤ k → k ≤ r → 0 ≤ s → s < 12 → M1 (231 + k) s = BS N fr at_ k s) → Q 0 M1) : Calls mX6_run [(2, 229), (0, fr), (0, at_), (0, r)] S0 M Q := by
  obtain ⟨a1, a2, a3, -, -⟩ := hI.lo
  refine c_run hI.g hI.c a1 a2 a3 hat hr (fun M1 hf hb => hQ M1 (fun a i q => hf a i (by unfold scr at q; omega)) (fun k s k0 k1 s0 s1 => ?_))
  have := hb k.toNat (by omega) s s0 s1
  rw [show ((k.toNat : Nat) : Int) = k by omega] at this
  exact this
theorem r_rounds0 {N : Net} {M : Mem} {Q : Int → Mem → Prop} {fr at_ : Int} (hI : IN N M) (f0 : 0 ≤ fr) (f1 : fr < 12) (hat : 0 ≤ at_ ∧ at_ ≤ 2000) (hQ : ∀ M1, Sc M M1 → M1 275 11 = fr → (∀ k s, 0 ≤ k → k ≤ 6 → 0 ≤ s → s < 12 → M1 284 (12 * k + s) = upv (BS N fr at_ k s)) → M1 283 fr = at_ → Q 0 M1) : Calls mX9_layRounds [(2, 275), (0, fr), (0, at_)] S0 M Q := by
  obtain ⟨-, -, -, a4, a5⟩ := hI.lo
  refine r_layRounds (ll := -1) (lt := -1) hI.g hI.r (fun l t l0 t0 t1 => by rw [a4]; omega) a5 (by omega) f0 f1 hat.1 hat.2 (fun M1 hf h11 hro => hQ M1 (fun a i q => hf a i (by unfold scr at q; omega) (by unfold scr at q; omega) (by unfold scr at q; omega)) h11 (fun k s k0 k1 s0 s1 => ?_) ?_)
  · have := hro.2 k.toNat (by omega) s s0 s1
    rw [show ((k.toNat : Nat) : Int) = k by omega] at this
    exact this
  · have := hro.1 0 (by omega) fr f0 f1
    rw [show 12 * ((0 : Nat) : Int) + fr = fr by omega] at this
    rw [this]
    show upv (if fr = fr then at_ else 10000) = at_
    rw [if_pos rfl, upv_id (by omega)]
theorem BS_bd {N : Net} {fr at_ r s : Int} (hg : Good N) (ha : 0 ≤ at_ ∧ at_ ≤ 2000) (s0 : 0 ≤ s) (s1 : s < 12) : (0 ≤ BS N fr at_ r s ∧ BS N fr at_ r s ≤ 10000) ∧ (BS N fr at_ r s = 10000 ∨ BS N fr at_ r s ≤ 9060) := by
  have h1 := bst_at (ll := -1) (lt := -1) (sh := -1) (fr := fr) hg ha.2 s0 s1 r.toNat
  have h2 := bst_le (ll := -1) (lt := -1) (sh := -1) (fr := fr) (at_ := at_) (s := s) hg ha.2 r.toNat
  have h3 := bst_90 (ll := -1) (lt := -1) (sh := -1) (fr := fr) hg ha.2 s0 s1 r.toNat
  exact ⟨⟨Int.le_trans ha.1 h1, h2⟩, h3⟩
/-- what a call with two stops, a minute and rides answers ahead of all else -/
def rfz (fr at_ to r : Int) : Int := if fr < 0 ∨ 11 < fr ∨ to < 0 ∨ 11 < to then -1 else if at_ < 0 ∨ 1999 < at_ ∨ r < 0 ∨ 6 < r then -2 else 0
set_option maxHeartbeats 4000000 in
theorem c_refusal {M : Mem} {Q : Int → Mem → Prop} {fr at_ to r : Int} (hQ : Q (rfz fr at_ to r) M) : Calls mX8_refusal [(0, fr), (0, at_), (0, to), (0, r)] S0 M Q := by
  have hv : ∀ v, v = rfz fr at_ to r → Q v M := fun v h => h ▸ hQ
  refine E_C_refusal (B_C_refusal_0 ?_)
  repeat' (first | refine And.intro ?_ ?_ | refine imp_i (fun _ => ?_))
  all_goals exact hv _ (by unfold rfz; (repeat' split) <;> omega)
set_option maxHeartbeats 4000000 in
theorem r_wrong {M : Mem} {Q : Int → Mem → Prop} {fr at_ to r : Int} (hQ : Q (rfz fr at_ to r) M) : Calls mX9_wrong [(0, fr), (0, to), (0, at_), (0, r)] S0 M Q := by
  have hv : ∀ v, v = rfz fr at_ to r → Q v M := fun v h => h ▸ hQ
  refine E_R_wrong (B_R_wrong_0 ?_)
  repeat' (first | refine And.intro ?_ ?_ | refine imp_i (fun _ => ?_))
  all_goals exact hv _ (by unfold rfz; (repeat' split) <;> omega)
theorem rfz_cases (fr at_ to r : Int) : (rfz fr at_ to r = 0 ∧ 0 ≤ fr ∧ fr < 12 ∧ 0 ≤ to ∧ to < 12 ∧ 0 ≤ at_ ∧ at_ ≤ 1999 ∧ 0 ≤ r ∧ r ≤ 6) ∨ (rfz fr at_ to r < 0 ∧ ¬ (0 ≤ fr ∧ fr < 12 ∧ 0 ≤ to ∧ to < 12 ∧ 0 ≤ at_ ∧ at_ ≤ 1999 ∧ 0 ≤ r ∧ r ≤ 6)) := by
  unfold rfz
  (repeat' split) <;> omega
