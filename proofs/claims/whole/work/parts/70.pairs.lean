/-! THE TWO OF EACH QUERY -/
theorem b_line (l w : Int) : Bo mX8_line mX9_line [(0, l), (0, w)] := bo_N (fun N => fLine N l w) (fun _ M _ hI hQ => c_line hI (hQ M Sc.rf)) (fun _ _ _ hI hQ => r_line hI (hQ _ (Sc.rf.up scr8)))
theorem b_stop (l i : Int) : Bo mX8_stop mX9_stop [(0, l), (0, i)] := bo_N (fun N => fStop N l i) (fun _ M _ hI hQ => c_stop hI (hQ M Sc.rf)) (fun _ _ _ hI hQ => r_stop hI (hQ _ (Sc.rf.up scr8)))
theorem b_minute (l t i : Int) : Bo mX8_minute mX9_minute [(0, l), (0, t), (0, i)] := bo_N (fun N => fMinute N l t i) (fun _ M _ hI hQ => c_minute hI (hQ M Sc.rf)) (fun _ _ _ hI hQ => r_minute hI (hQ _ (Sc.rf.up scr8)))
theorem b_runs (l t : Int) : Bo mX8_runs mX9_runs [(0, l), (0, t)] := bo_N (fun N => fRuns N l t) (fun _ M _ hI hQ => c_runs hI (hQ M Sc.rf)) (fun _ _ _ hI hQ => r_runs hI (hQ _ (Sc.rf.up scr8)))
theorem b_foot (a b : Int) : Bo mX8_foot mX9_foot [(0, a), (0, b)] := bo_N (fun N => fFoot N a b) (fun _ M _ hI hQ => c_foot hI (hQ M Sc.rf)) (fun _ _ _ hI hQ => r_foot hI (hQ _ (Sc.rf.up scr8)))
theorem b_missed (s : Int) : Bo mX8_missed mX9_missed [(0, s)] := bo_N (fun N => fMissed N s) (fun _ M _ hI hQ => c_missed hI (hQ M Sc.rf)) (fun _ _ _ hI hQ => r_missed hI (hQ _ (Sc.rf.up scr8)))
theorem b_meet (l o : Int) : Bo mX8_meet mX9_meet [(0, l), (0, o)] := bo_N (fun N => fMeet N l o) (fun _ M _ hI hQ => c_meet hI (hQ M Sc.rf)) (fun _ _ _ hI hQ => r_meet hI (hQ _ (Sc.rf.up scr8)))
theorem b_worth (fr at_ to : Int) : Bo mX8_worth mX9_worth [(0, fr), (0, at_), (0, to)] := bo_N (fun N => fWorth N fr at_ to) (fun _ _ _ hI hQ => c_worth hI hQ) (fun _ _ _ hI hQ => r_worth hI hQ)
theorem b_reached (fr at_ by_ r : Int) : Bo mX8_reached mX9_reached [(0, fr), (0, at_), (0, by_), (0, r)] := bo_N (fun N => fReached N fr at_ by_ r) (fun _ _ _ hI hQ => c_reached hI hQ) (fun _ _ _ hI hQ => r_reached hI hQ)
theorem b_earliest (fr at_ to r : Int) : Bo mX8_earliest mX9_earliest [(0, fr), (0, at_), (0, to), (0, r)] := bo_N (fun N => fEarliest N fr at_ to r) (fun _ _ _ hI hQ => c_earliest hI hQ) (fun _ _ _ hI hQ => r_earliest hI hQ)
theorem b_latest (fr to by_ r : Int) : Bo mX8_latest mX9_latest [(0, fr), (0, to), (0, by_), (0, r)] := bo_N (fun N => fLatest N fr to by_ r) (fun _ _ _ hI hQ => c_latest hI hQ) (fun _ _ _ hI hQ => r_latest hI hQ)
theorem b_profile (fr to r f la i : Int) : Bo mX8_profile mX9_profile [(0, fr), (0, to), (0, r), (0, f), (0, la), (0, i)] := bo_N (fun N => fProfile N fr to r f la i) (fun _ _ _ hI hQ => c_profile hI hQ) (fun _ _ _ hI hQ => r_profile hI hQ)
theorem b_worst (fr at_ to r w : Int) : Bo mX8_worst mX9_worst [(0, fr), (0, at_), (0, to), (0, r), (0, w)] := bo_N (fun N => fWorst N fr at_ to r w) (fun _ _ _ hI hQ => c_worst hI hQ) (fun _ _ _ hI hQ => r_worst hI hQ)
theorem b_cut (fr at_ to r w : Int) : Bo mX8_cut mX9_cut [(0, fr), (0, at_), (0, to), (0, r), (0, w)] := bo_N (fun N => fCut N fr at_ to r w) (fun _ _ _ hI hQ => c_cut hI hQ) (fun _ _ _ hI hQ => r_cut hI hQ)
theorem b_told (w : Int) : Bo mX8_told mX9_told [(0, w)] := fun _ _ ⟨N, hI⟩ hK => c_told hI (r_told hI (hK _ _ ⟨N, hI.sc (Sc.rf.up scr8)⟩))
theorem b_paper (i : Int) : Bo mX8_paper mX9_paper [(0, i)] := fun _ _ ⟨N, hI⟩ hK => c_paper hI (r_paper hI (hK _ _ ⟨N, hI.sc (Sc.rf.up scr8)⟩))
theorem b_get (l i : Int) : Bo mX8_get mX9_get [(0, l), (0, i)] := fun _ _ ⟨N, hI⟩ hK => c_get hI (r_get hI (hK _ _ ⟨N, hI.sc (Sc.rf.up scr8)⟩))
theorem fJudge_sc {N : Net} {M M1 : Mem} {l i fr at_ r : Int} (hs : Sc M M1) : fJudge N M1 l i fr at_ r = fJudge N M l i fr at_ r := by
  have e : fLr M1 l fr at_ r = fLr M l fr at_ r := by
    unfold fLr
    rw [hs _ _ (by unfold scr; omega)]
  unfold fJudge
  rw [e]
  split
  · rename_i h
    have hl : 0 ≤ l ∧ l ≤ 3 := by
      unfold fLr at h
      (repeat' split at h) <;> omega
    rw [hs _ _ (by unfold scr; omega)]
    congr 1
    funext j
    exact hs _ _ (by unfold scr; omega)
  · rfl
theorem b_judge (l i fr at_ r : Int) (hi32 : -2147483648 ≤ i ∧ i ≤ 2147483647) : Bo mX8_judge mX9_judge [(0, l), (0, i), (0, fr), (0, at_), (0, r)] := fun _ _ ⟨N, hI⟩ hK => c_judge hI (fun _ hs => r_judge (hI.sc hs) hi32 (fun _ hs2 => by
  rw [fJudge_sc hs]
  exact hK _ _ ⟨N, (hI.sc hs).sc hs2⟩))
