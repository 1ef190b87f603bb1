/-! each question: the class's call, told for the law -/
section OPS
variable {A : Nat → Nat} {GG : Nat → Nat → Nat} {Z : Nat → Nat → Int32} {XL : Nat → Int64} {cap : Nat} {K : Nat → mm_Ce} {h : mm_S} {S : Nat → Nat} {ex : List String}
theorem cr_of {c : Option ((Int32 ⊕ String) × mm_S)} {m : mm_S → Option (Int32 × mm_S)} {run : (mm_Re → Prop) → Prop} (g : RS_ A K ex c m) (hr : ∀ (Q : mm_Re → Prop) (o : Int32 ⊕ String) (h1 : mm_S), c = some (o, h1) → Q (fx_oI o, h1) → run Q) : CR_ A K ex run m := by
  obtain ⟨o, h1, v, k, e, ok, ms⟩ := g
  exact fun Q hQ => hr Q o h1 e (hQ A o h1 v k (fun _ _ => rfl) ok ms)
theorem cr_ofp {c : Option (Int32 ⊕ String)} {m : mm_S → Option (Int32 × mm_S)} {run : (mm_Re → Prop) → Prop} (g : RS_ A K ex (c.bind fun o => some (o, h)) m) (hr : ∀ (Q : mm_Re → Prop) (o : Int32 ⊕ String), c = some o → Q (fx_oI o, h) → run Q) : CR_ A K ex run m := by
  refine cr_of g fun Q o h1 e hq => ?_
  obtain ⟨o', e1, e2⟩ := mm_bind e
  cases e2
  exact hr Q o e1 hq
/-- questions that throw one thing only -/
theorem qo_IJ {q : Int32 ⊕ Nat} (hq : qb_ exJ_.length q) : qo_ exI_ q = qo_ exJ_ q := by
  cases q with
  | inl v => rfl
  | inr i =>
    have hi : i < 1 := hq i rfl
    have : i = 0 := by omega
    rw [this]
    rfl
theorem qj_brea {T : Nat → Int32} {n : Nat} {a x : Int32} : qb_ exJ_.length (q_brea T n a x) := by
  unfold q_brea
  intro i
  repeat' split
  all_goals (intro e; cases e; try decide)
theorem qj_levy {T : Nat → Int32} {n : Nat} {a x : Int32} : qb_ exJ_.length (q_levy T n a x) := by
  unfold q_levy
  intro i
  repeat' split
  all_goals (intro e; cases e; try decide)
theorem qj_can {T : Nat → Int32} {n : Nat} {a : Int32} : qb_ exJ_.length (q_can T n a) := by
  unfold q_can
  intro i
  repeat' split
  all_goals (intro e; cases e; try decide)
theorem oj_breaths (hs : ST_ A K h) (a x : Int32) : RS_ A K exJ_ ((F_X5_breaths h (A 209) a x).bind fun o => some (o, h)) (fun h1 => F_X6_breaths h1 (A 213) a x) := by
  obtain ⟨GG, Z, XL, cap, hW, s⟩ := hs
  obtain ⟨n, hn, hT, R, I⟩ := TR_n s.1
  exact q_simple (c := fun h => F_X5_breaths h (A 209) a x) hW s ((cq_brea (WD_t hW (by decide)).1 R (x_now hW) a x).trans (congrArg some (qo_IJ qj_brea))) (fun _ _ w => mq_brea (WD_m w).1 hT hn a x) qj_brea
theorem oj_levyOf (hs : ST_ A K h) (a x : Int32) : RS_ A K exJ_ ((F_X5_levyOf h (A 209) a x).bind fun o => some (o, h)) (fun h1 => F_X6_levyOf h1 (A 213) a x) := by
  obtain ⟨GG, Z, XL, cap, hW, s⟩ := hs
  obtain ⟨n, hn, hT, R, I⟩ := TR_n s.1
  exact q_part (c := fun h => F_X5_levyOf h (A 209) a x) hW s ((cq_levy (WD_t hW (by decide)).1 R I (x_now hW) a x).trans (congrArg some (qo_IJ qj_levy))) (fun _ _ w => mq_levy (WD_m w).1 hT hn I a x) qj_levy
theorem oj_canTake (hs : ST_ A K h) (a : Int32) : RS_ A K exJ_ ((F_X5_canTake h (A 209) a).bind fun o => some (o, h)) (fun h1 => F_X6_canTake h1 (A 213) a) := by
  obtain ⟨GG, Z, XL, cap, hW, s⟩ := hs
  obtain ⟨n, hn, hT, R, I⟩ := TR_n s.1
  exact q_part (c := fun h => F_X5_canTake h (A 209) a) hW s ((cq_can (WD_t hW (by decide)).1 R I (x_now hW) a).trans (congrArg some (qo_IJ qj_can))) (fun _ _ w => mq_can (WD_m w).1 hT hn I a) qj_can
theorem xs_self : mm_XS S (mm_Xc S) := fun _ _ _ _ _ _ g => g
/-- an object that is asked is there -/
theorem is_of {q ci : Nat} {u : Unit} (e : fx_is h q ci = some u) : q ∈ h.1 ∧ ∃ fs, h.2 q = .inr (ci, fs) := by
  unfold fx_is fx_obj at e
  by_cases hq : q ∈ h.1
  · rw [if_pos hq] at e
    refine ⟨hq, ?_⟩
    match hc : h.2 q with
    | .inr (c, fs) =>
      rw [hc] at e
      dsimp only at e
      by_cases h2 : c = ci
      · exact ⟨fs, by rw [h2]⟩
      · rw [if_neg h2] at e
        cases e
    | .inl _ =>
      rw [hc] at e
      cases e
  · rw [if_neg hq] at e
    cases e
theorem pV_of {q ci k : Nat} {v : Value} {u : mm_S} (e : fx_pV h q ci k v = some u) : q ∈ h.1 ∧ ∃ fs, h.2 q = .inr (ci, fs) := by
  unfold fx_pV at e
  obtain ⟨fs, e1, -⟩ := mm_bind e
  exact is_of (u := ()) (by unfold fx_is; rw [e1]; rfl)
theorem cr_build (hs : ST_ A K h) (x0 x1 x2 : Int32) : CR_ A K exU_ (fun Q => mm_Run (mm_Xc S) 4 68 2 80 [.ref (A 209), .int x0, .int x1, .int x2] h Q) (fun h1 => F_X6_build h1 (A 213) x0 x1 x2) := cr_of (o_build hs x0 x1 x2) fun Q o h1 e hq => r_X5_build (d := 0) (mm_Xc_mono _) ⟨by decide, by decide⟩ e hq
theorem cr_tear (hs : ST_ A K h) (x0 : Int32) : CR_ A K exU_ (fun Q => mm_Run (mm_Xc S) 4 69 2 80 [.ref (A 209), .int x0] h Q) (fun h1 => F_X6_tear h1 (A 213) x0) := cr_of (o_tear hs x0) fun Q o h1 e hq => r_X5_tear (d := 0) (mm_Xc_mono _) ⟨by decide, by decide⟩ e hq
theorem cr_halve (hs : ST_ A K h) (x0 : Int32) : CR_ A K exU_ (fun Q => mm_Run (mm_Xc S) 4 70 2 80 [.ref (A 209), .int x0] h Q) (fun h1 => F_X6_halve h1 (A 213) x0) := cr_of (o_halve hs x0) fun Q o h1 e hq => r_X5_halve (d := 0) (mm_Xc_mono _) ⟨by decide, by decide⟩ e hq
theorem cr_lease (hs : ST_ A K h) (x0 x1 x2 : Int32) : CR_ A K exU_ (fun Q => mm_Run (mm_Xc S) 5 71 2 80 [.ref (A 209), .int x0, .int x1, .int x2] h Q) (fun h1 => F_X6_lease h1 (A 213) x0 x1 x2) := cr_of (o_lease hs x0 x1 x2) fun Q o h1 e hq => r_X5_lease (d := 0) (mm_Xc_mono _) ⟨by decide, by decide⟩ e hq
theorem cr_climb (hs : ST_ A K h) (x0 x1 : Int32) : CR_ A K exU_ (fun Q => mm_Run (mm_Xc S) 5 72 2 80 [.ref (A 209), .int x0, .int x1] h Q) (fun h1 => F_X6_climb h1 (A 213) x0 x1) := cr_of (o_climb hs x0 x1) fun Q o h1 e hq => r_X5_climb (d := 0) (mm_Xc_mono _) ⟨by decide, by decide⟩ e hq
theorem cr_levy (hs : ST_ A K h) (x0 x1 : Int32) : CR_ A K exU_ (fun Q => mm_Run (mm_Xc S) 5 73 2 80 [.ref (A 209), .int x0, .int x1] h Q) (fun h1 => F_X6_levy h1 (A 213) x0 x1) := cr_of (o_levy hs x0 x1) fun Q o h1 e hq => r_X5_levy (d := 0) (mm_Xc_mono _) ⟨by decide, by decide⟩ e hq
theorem cr_take (hs : ST_ A K h) (x0 : Int32) : CR_ A K exU_ (fun Q => mm_Run (mm_Xc S) 5 74 2 80 [.ref (A 209), .int x0] h Q) (fun h1 => F_X6_take h1 (A 213) x0) := cr_of (o_take hs x0) fun Q o h1 e hq => r_X5_take (d := 0) (mm_Xc_mono _) ⟨by decide, by decide⟩ e hq
theorem cr_free (hs : ST_ A K h) (x0 x1 : Int32) : CR_ A K exU_ (fun Q => mm_Run (mm_Xc S) 4 75 2 80 [.ref (A 209), .int x0, .int x1] h Q) (fun h1 => F_X6_free h1 (A 213) x0 x1) := cr_of (o_free hs x0 x1) fun Q o h1 e hq => r_X5_free (d := 0) (mm_Xc_mono _) ⟨by decide, by decide⟩ e hq
theorem cr_giantOf (hs : ST_ A K h) (x0 x1 : Int32) : CR_ A K exI_ (fun Q => mm_Run (mm_Xc S) 3 77 2 80 [.ref (A 209), .int x0, .int x1] h Q) (fun h1 => F_X6_giantOf h1 (A 213) x0 x1) := cr_ofp (o_giantOf hs x0 x1) fun Q o e hq => r_X5_giantOf (d := 0) (mm_Xc_mono _) ⟨by decide, by decide⟩ e hq
theorem cr_landingOf (hs : ST_ A K h) (x0 x1 : Int32) : CR_ A K exI_ (fun Q => mm_Run (mm_Xc S) 3 78 2 80 [.ref (A 209), .int x0, .int x1] h Q) (fun h1 => F_X6_landingOf h1 (A 213) x0 x1) := cr_ofp (o_landingOf hs x0 x1) fun Q o e hq => r_X5_landingOf (d := 0) (mm_Xc_mono _) ⟨by decide, by decide⟩ e hq
theorem cr_stairOf (hs : ST_ A K h) (x0 x1 : Int32) : CR_ A K exI_ (fun Q => mm_Run (mm_Xc S) 3 79 2 80 [.ref (A 209), .int x0, .int x1] h Q) (fun h1 => F_X6_stairOf h1 (A 213) x0 x1) := cr_ofp (o_stairOf hs x0 x1) fun Q o e hq => r_X5_stairOf (d := 0) (mm_Xc_mono _) ⟨by decide, by decide⟩ e hq
theorem cr_between (hs : ST_ A K h) (x0 x1 : Int32) : CR_ A K exN_ (fun Q => mm_Run (mm_Xc S) 3 80 2 80 [.ref (A 209), .int x0, .int x1] h Q) (fun h1 => F_X6_between h1 (A 213) x0 x1) := cr_ofp (o_between hs x0 x1) fun Q o e hq => r_X5_between (d := 0) (mm_Xc_mono _) ⟨by decide, by decide⟩ e hq
theorem cr_breaths (hs : ST_ A K h) (x0 x1 : Int32) : CR_ A K exJ_ (fun Q => mm_Run (mm_Xc S) 3 81 2 80 [.ref (A 209), .int x0, .int x1] h Q) (fun h1 => F_X6_breaths h1 (A 213) x0 x1) := cr_ofp (oj_breaths hs x0 x1) fun Q o e hq => r_X5_breaths (d := 0) (mm_Xc_mono _) ⟨by decide, by decide⟩ e hq
theorem cr_steps (hs : ST_ A K h) (x0 x1 : Int32) : CR_ A K exN_ (fun Q => mm_Run (mm_Xc S) 5 82 2 80 [.ref (A 209), .int x0, .int x1] h Q) (fun h1 => F_X6_steps h1 (A 213) x0 x1) := cr_of (o_steps hs x0 x1) fun Q o h1 e hq => r_X5_steps (d := 0) (mm_Xc_mono _) ⟨by decide, by decide⟩ e hq
theorem cr_stepsAgain (hs : ST_ A K h) (x0 x1 : Int32) : CR_ A K exN_ (fun Q => mm_Run (mm_Xc S) 3 83 2 80 [.ref (A 209), .int x0, .int x1] h Q) (fun h1 => F_X6_stepsAgain h1 (A 213) x0 x1) := cr_of (o_stepsAgain hs x0 x1) fun Q o h1 e hq => r_X5_stepsAgain (d := 0) (mm_Xc_mono _) ⟨by decide, by decide⟩ e hq
theorem cr_way (hs : ST_ A K h) (x0 x1 : Int32) : CR_ A K exN_ (fun Q => mm_Run (mm_Xc S) 5 84 2 80 [.ref (A 209), .int x0, .int x1] h Q) (fun h1 => F_X6_way h1 (A 213) x0 x1) := cr_of (o_way hs x0 x1) fun Q o h1 e hq => r_X5_way (d := 0) (mm_Xc_mono _) ⟨by decide, by decide⟩ e hq
theorem cr_wayAgain (hs : ST_ A K h) (x0 x1 : Int32) : CR_ A K exN_ (fun Q => mm_Run (mm_Xc S) 4 85 2 80 [.ref (A 209), .int x0, .int x1] h Q) (fun h1 => F_X6_wayAgain h1 (A 213) x0 x1) := cr_of (o_wayAgain hs x0 x1) fun Q o h1 e hq => r_X5_wayAgain (d := 0) (mm_Xc_mono _) ⟨by decide, by decide⟩ e hq
theorem cr_first (hs : ST_ A K h) (x0 x1 : Int32) : CR_ A K exN_ (fun Q => mm_Run (mm_Xc S) 6 86 2 80 [.ref (A 209), .int x0, .int x1] h Q) (fun h1 => F_X6_first h1 (A 213) x0 x1) := cr_of (o_first hs x0 x1) fun Q o h1 e hq => r_X5_first (d := 0) (mm_Xc_mono _) ⟨by decide, by decide⟩ e hq
theorem cr_reach (hs : ST_ A K h) (x0 : Int32) : CR_ A K exJ_ (fun Q => mm_Run (mm_Xc S) 5 87 2 80 [.ref (A 209), .int x0] h Q) (fun h1 => F_X6_reach h1 (A 213) x0) := cr_of (o_reach hs x0) fun Q o h1 e hq => r_X5_reach (d := 0) (mm_Xc_mono _) ⟨by decide, by decide⟩ e hq
theorem cr_dustIn (hs : ST_ A K h) (x0 x1 : Int32) : CR_ A K exI_ (fun Q => mm_Run (mm_Xc S) 3 88 2 80 [.ref (A 209), .int x0, .int x1] h Q) (fun h1 => F_X6_dustIn h1 (A 213) x0 x1) := cr_ofp (o_dustIn hs x0 x1) fun Q o e hq => r_X5_dustIn (d := 0) (mm_Xc_mono _) ⟨by decide, by decide⟩ e hq
theorem cr_dustAgain (hs : ST_ A K h) (x0 x1 : Int32) : CR_ A K exI_ (fun Q => mm_Run (mm_Xc S) 3 89 2 80 [.ref (A 209), .int x0, .int x1] h Q) (fun h1 => F_X6_dustAgain h1 (A 213) x0 x1) := cr_ofp (o_dustAgain hs x0 x1) fun Q o e hq => r_X5_dustAgain (d := 0) (mm_Xc_mono _) ⟨by decide, by decide⟩ e hq
theorem cr_rentsIn (hs : ST_ A K h) (x0 : Int32) : CR_ A K exR_ (fun Q => mm_Run (mm_Xc S) 6 90 2 80 [.ref (A 209), .int x0] h Q) (fun h1 => F_X6_rentsIn h1 (A 213) x0) := cr_of (o_rentsIn hs x0) fun Q o h1 e hq => r_X5_rentsIn (d := 0) (mm_Xc_mono _) ⟨by decide, by decide⟩ e hq
theorem cr_levyOf (hs : ST_ A K h) (x0 x1 : Int32) : CR_ A K exJ_ (fun Q => mm_Run (mm_Xc S) 6 91 2 80 [.ref (A 209), .int x0, .int x1] h Q) (fun h1 => F_X6_levyOf h1 (A 213) x0 x1) := cr_ofp (oj_levyOf hs x0 x1) fun Q o e hq => r_X5_levyOf (d := 0) (mm_Xc_mono _) ⟨by decide, by decide⟩ e hq
theorem cr_bestLevy (hs : ST_ A K h) (x0 : Int32) : CR_ A K exN_ (fun Q => mm_Run (mm_Xc S) 6 92 2 80 [.ref (A 209), .int x0] h Q) (fun h1 => F_X6_bestLevy h1 (A 213) x0) := cr_ofp (o_bestLevy hs x0) fun Q o e hq => r_X5_bestLevy (d := 0) (mm_Xc_mono _) ⟨by decide, by decide⟩ e hq
theorem cr_canTake (hs : ST_ A K h) (x0 : Int32) : CR_ A K exJ_ (fun Q => mm_Run (mm_Xc S) 5 93 2 80 [.ref (A 209), .int x0] h Q) (fun h1 => F_X6_canTake h1 (A 213) x0) := cr_ofp (oj_canTake hs x0) fun Q o e hq => r_X5_canTake (d := 0) (mm_Xc_mono _) ⟨by decide, by decide⟩ e hq
theorem cr_ranked (hs : ST_ A K h) (x0 x1 : Int32) : CR_ A K exA_ (fun Q => mm_Run (mm_Xc S) 4 96 2 80 [.ref (A 209), .int x0, .int x1] h Q) (fun h1 => F_X6_ranked h1 (A 213) x0 x1) := cr_ofp (o_ranked hs x0 x1) fun Q o e hq => r_X5_ranked (d := 0) (mm_Xc_mono _) ⟨by decide, by decide⟩ e hq
theorem cr_append (hs : ST_ A K h) (x0 : Int32) : CR_ A K exAS_ (fun Q => mm_Run (mm_Xc S) 6 98 2 80 [.ref (A 209), .int x0] h Q) (fun h1 => F_X6_append h1 (A 213) x0) := by
  intro Q hQ
  refine u_append (d := 0) (mm_Xc_mono _) xs_self hs x0 (by decide) (by decide) fun o h1 g => ?_
  obtain ⟨A', v, k, a1, a2, a3⟩ := g
  exact hQ A' o h1 v k a1 a2 a3
theorem cr_run (hs : ST_ A K h) (mk : MK_ S h) : CR_ A K exIU_ (fun Q => mm_Run (mm_Xc S) 8 99 2 80 [.ref (A 209)] h Q) (fun h1 => F_X6_run h1 (A 213)) := cr_of (o_run hs mk) fun Q o h1 e hq => r_X5_run (d := 0) (mm_Xc_mono _) xs_self ⟨by decide, by decide⟩ e hq
theorem cr_reason (hs : ST_ A K h) (x0 x1 : Int32) : CR_ A K exA_ (fun Q => mm_Run (mm_Xc S) 2 101 2 80 [.ref (A 209), .int x0, .int x1] h Q) (fun h1 => F_X6_reason h1 (A 213) x0 x1) := cr_ofp (o_reason hs x0 x1) fun Q o e hq => r_X5_reason (d := 0) (mm_Xc_mono _) ⟨by decide, by decide⟩ e hq
theorem cr_tellGiant (hs : ST_ A K h) (x0 : Int32) : CR_ A K exO_ (fun Q => mm_Run (mm_Xc S) 6 102 2 80 [.ref (A 209), .int x0] h Q) (fun h1 => F_X6_tellGiant h1 (A 213) x0) := cr_of (o_tellGiant (S := S) hs x0) fun Q o h1 e hq => r_X5_tellGiant (d := 0) (mm_Xc_mono _) xs_self ⟨by decide, by decide⟩ e hq
theorem cr_tellStair (hs : ST_ A K h) (x0 : Int32) : CR_ A K exO_ (fun Q => mm_Run (mm_Xc S) 6 103 2 80 [.ref (A 209), .int x0] h Q) (fun h1 => F_X6_tellStair h1 (A 213) x0) := cr_of (o_tellStair (S := S) hs x0) fun Q o h1 e hq => r_X5_tellStair (d := 0) (mm_Xc_mono _) xs_self ⟨by decide, by decide⟩ e hq
theorem cr_character (hs : ST_ A K h) (x0 : Int32) : CR_ A K exO_ (fun Q => mm_Run (mm_Xc S) 4 105 2 80 [.ref (A 209), .int x0] h Q) (fun h1 => F_X6_character h1 (A 213) x0) := cr_ofp (o_character (S := S) hs x0) fun Q o e hq => r_X5_character (d := 0) (mm_Xc_mono _) xs_self ⟨by decide, by decide⟩ e hq
theorem cr_account (hs : ST_ A K h) (x0 : Int32) : CR_ A K exL_ (fun Q => mm_Run (mm_Xc S) 3 106 2 80 [.ref (A 209), .int x0] h Q) (fun h1 => F_X6_account h1 (A 213) x0) := cr_ofp (o_account hs x0) fun Q o e hq => r_X5_account (d := 0) (mm_Xc_mono _) ⟨by decide, by decide⟩ e hq
theorem cr_undo (hs : ST_ A K h) : CR_ A K exS_ (fun Q => mm_Run (mm_Xc S) 3 109 2 80 [.ref (A 209)] h Q) (fun h1 => F_X6_undo h1 (A 213)) := cr_of (o_undo hs) fun Q o h1 e hq => r_X5_undo (d := 0) (mm_Xc_mono _) ⟨by decide, by decide⟩ e hq
theorem cr_restore (hs : ST_ A K h) : CR_ A K exS_ (fun Q => mm_Run (mm_Xc S) 3 111 2 80 [.ref (A 209)] h Q) (fun h1 => F_X6_restore h1 (A 213)) := cr_of (o_restore hs) fun Q o h1 e hq => r_X5_restore (d := 0) (mm_Xc_mono _) ⟨by decide, by decide⟩ e hq
end OPS
