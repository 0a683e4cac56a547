/-! image, undo -/
theorem IN.image {N : Net} {M M1 : Mem} (h : IN N M) (hs : ∀ a i, ¬ scr a i → ¬ (a = 0 ∧ i = 10) → ¬ (77 ≤ a ∧ a ≤ 152) → ¬ (a = 275 ∧ i = 32) → a ≠ 294 → M1 a i = M a i) (hi : ImgI M1) : IN N M1 := by
  obtain ⟨hg, hc, hr, ⟨a1, a2, a3, a4, a5⟩, ht, hp, hl, -⟩ := h
  have hs' : ∀ a i, ¬ scr a i → a ≠ 0 → ¬ (77 ≤ a ∧ a ≤ 152) → ¬ (a = 275 ∧ i = 32) → a ≠ 294 → M1 a i = M a i := fun a i q q2 q3 q4 q5 => hs a i q (by omega) q3 q4 q5
  refine ⟨hg, hc.keep hg (fun a i q1 q2 => hs' a i (by unfold scr; omega) (by omega) (by omega) (by omega) (by omega)), hr.keep (fun a i q => hs' a i (by unfold scr; omega) (by omega) (by omega) (by omega) (by omega)), ⟨?_, ?_, ?_, ?_, ?_⟩, ht.keep (fun a i q => hs' a i (by unfold scr; omega) (by omega) (by omega) (by omega) (by omega)), hp.keep (fun a i q => hs' a i (by unfold scr; omega) (by omega) (by omega) (by omega) (by omega)), hl.keep (fun a i q => hs' a i (by unfold scr; omega) (by omega) (by omega) (by omega) (by omega)), hi⟩
  all_goals (rw [hs' _ _ (by unfold scr; omega) (by omega) (by omega) (by omega) (by omega)]; assumption)
set_option maxHeartbeats 4000000 in
theorem b_image : Bo mX8_image mX9_image [] := by
  intro M K ⟨N, hI⟩ hK
  have hg := hI.g
  refine E_C_image (B_C_image_0 (c_copy4 (fun M1 h1 => ?_)))
  have e0 : M1 1 0 = N.ln := (h1.1 _ _ (by omega)).trans hI.c.lines
  rw [e0]
  refine E_R_image (B_R_image_0 (r_carryAll2 (Or.inr rfl) (fun M2 h2 => ?_)))
  have fr := h2.2.1 rfl
  have back : ∀ a i, ¬ (77 ≤ a ∧ a ≤ 152) → ¬ (a = 0 ∧ i = 10) → ¬ (a = 275 ∧ (i = 8 ∨ i = 32 ∨ (33 ≤ i ∧ i ≤ 35))) → a ≠ 294 → M2 a i = M a i := fun a i q1 q2 q3 q4 => by
    rw [fr a i q4 (by omega), up2_ni (by omega), up2_ni (by omega), up2_ni (by omega)]
    exact h1.1 a i (by omega)
  have hr : RH N M2 := hI.r.keep (fun a i q => back a i (by omega) (by omega) (by omega) (by omega))
  have el : M2 275 0 = N.ln := hr.1
  rw [el]
  have hc76 : CH N 76 M2 := (h1.ch hg hI.c).keep hg (fun a i q1 q2 => by
    rw [fr a i (by omega) (by omega), up2_ni (by omega), up2_ni (by omega), up2_ni (by omega)])
  refine hK _ _ ⟨N, hI.image (fun a i q q2 q3 q4 q5 => back a i q3 q2 (fun w => q (by unfold scr; omega)) q5) ⟨?_, Or.inr ⟨?_, N, hg, hc76, h2.ri hg hr⟩⟩⟩
  · rw [fr 0 10 (by omega) (by omega), fr 275 32 (by omega) (by omega), up2_at (b := 275) ⟨rfl, rfl⟩, up2_ni (by omega), up2_ni (by omega), up2_at ⟨rfl, rfl⟩]
  · rw [fr 0 10 (by omega) (by omega), up2_ni (by omega), up2_ni (by omega), up2_at ⟨rfl, rfl⟩]
set_option maxHeartbeats 4000000 in
theorem b_undo : Bo mX8_undo mX9_undo [] := by
  intro M K ⟨N, hI⟩ hK
  have hS : Sc M (up2 M 275 8 0) := Sc.rf.up scr8
  obtain ⟨i1, i2⟩ := hI.im
  rcases i2 with q | ⟨q, N2, hg2, hc2, hr2⟩
  · refine E_C_undo (B_C_undo_0 ⟨fun z => absurd q z, fun _ => ?_⟩)
    exact E_R_undo (B_R_undo_0 ⟨fun z => absurd (by omega) z, fun _ => hK _ _ ⟨N, hI.sc hS⟩⟩)
  · refine E_C_undo (B_C_undo_0 ⟨fun _ => c_copy2 (fun M1 h1 => ?_), fun z => absurd z (by omega)⟩)
    have hc1 := h1.ch hg2 hc2
    rw [hc1.lines]
    have e32 : M1 275 32 = 1 := by rw [h1.1 _ _ (by omega)]; omega
    refine E_R_undo (B_R_undo_0 ⟨fun _ => r_carryAll2 (Or.inl rfl) (fun M2 h2 => ?_), fun z => absurd z (by omega)⟩)
    have fr := h2.2.2.1 rfl
    have hri : RI N2 294 M2 := hr2.keep (fun i => by rw [fr _ _ (by omega) (by omega), up2_ni (by omega), h1.1 _ _ (by omega)])
    have hr := h2.rh hg2 hri
    rw [hr.1]
    refine hK _ _ ⟨N2, hI.net (fun a i w w2 w3 w4 => ?_) hg2 (hc1.keep hg2 (fun a i z1 z2 => ?_)) hr⟩
    · rw [fr a i (fun z => w (by unfold scr; omega)) w4, up2_ni (fun z => w (by unfold scr; omega)), h1.1 a i (by omega)]
    · rw [fr a i (by omega) (by omega), up2_ni (by omega)]
