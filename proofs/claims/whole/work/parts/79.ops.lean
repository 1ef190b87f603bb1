/-! an order of a text is done by both -/
def OPF_ (T : Nat → Int32) (n : Nat) (why : mm_S → Nat → Option Int64) (op : mm_S → Nat → Option (Int32 × mm_S)) (ref mop : mm_S → Nat → Option (Int32 × mm_S)) : Prop := ∃ q : Option (Int32 × Int32), (∀ r, q = some r → r.1 ≠ nI 0) ∧ (∀ (l g : Nat → Nat) (w : Nat → Nat → Int32) (h : mm_S), ov_L 16 l h → R_ g w T n → I_ T n → why (tv_ l g w h) (l 0) = some (rL_ q)) ∧ (∀ (l : Nat → Nat) (M : Nat → Nat → Int32) (h : mm_S), ov_L 11 l h → M 1 = T → I_ T n → ref (mv_ l M h) (l 0) = some (mR_ l M h q)) ∧ (q = none → I_ T n → ∃ v T2, (∀ (l g : Nat → Nat) (w : Nat → Nat → Int32) (h : mm_S), ov_L 16 l h → R_ g w T n → ∃ g' w' n', op (tv_ l g w h) (l 0) = some (v, tv_ l g' w' h) ∧ R_ g' w' T2 n' ∧ I_ T2 n') ∧ ∀ (l : Nat → Nat) (M : Nat → Nat → Int32) (h : mm_S), ov_L 11 l h → M 1 = T → mop (mv_ l M h) (l 0) = some (v, mv_ l (mT_ M T2) h))
section OP
variable {T : Nat → Int32} {n : Nat}
theorem f_halve (hT : T 0 = nI n) (hn : n ≤ 10) (x : Int32) : OPF_ T n (fun h t => F_X3_whyNotHalve h t x) (fun h t => F_X3_halveSteps h t x) (fun h t => F_X6_isRefusedHalve h t x) (fun h t => F_X6_halves h t x) := by
  refine ⟨(qrHalve_ T n x), (fun r => qn_halve), (fun l g w h hl R I => T_nHalve hl R I x), (fun l M h hl e I => by
    have := m_nHalve (M := M) (h := h) hl (by rw [e]; exact hT) hn x
    rw [e] at this
    exact this), fun e I => ?_⟩
  unfold qrHalve_ at e
  split at e
  · cases e
  · next hx =>
    split at e
    · cases e
    · next h3 =>
      obtain ⟨j, hj, rfl⟩ := S_of hn (Decidable.not_not.mp hx)
      rw [cl_nI (by omega)] at h3
      refine ⟨(sT_ T j 2 + nI 1) / nI 2, tHalve_ T j, fun l g w h hl R => ?_, fun l M h hl e => ?_⟩
      · obtain ⟨w', e, R'⟩ := c_halve hl R hj
        exact ⟨g, w', n, e, R', I_halve I hj (fun q => h3 (.inl q))⟩
      · have := m_halve (M := M) (h := h) hl (show j < 10 by omega)
        rw [e] at this
        exact this
theorem f_tear (hT : T 0 = nI n) (hn : n ≤ 10) (x : Int32) : OPF_ T n (fun h t => F_X3_whyNotTear h t x) (fun h t => F_X3_removeStair h t x) (fun h t => F_X6_isNoStair h t x) (fun h t => F_X6_tears h t x) := by
  refine ⟨(qrTear_ n x), (fun r => qn_tear), (fun l g w h hl R I => T_nTear hl R x), (fun l M h hl e I => m_noS hl (by rw [e]; exact hT) hn x), fun e I => ?_⟩
  unfold qrTear_ at e
  split at e
  · cases e
  · next hx =>
    obtain ⟨j, hj, rfl⟩ := S_of hn (Decidable.not_not.mp hx)
    refine ⟨nI (n - 1), tTear_ T n j, fun l g w h hl R => ?_, fun l M h hl e => ?_⟩
    · obtain ⟨g', w', e, R'⟩ := c_tear hl R hj
      exact ⟨g', w', n - 1, e, R', I_tear I hj⟩
    · have := m_tear (M := M) (h := h) hl (by rw [e]; exact hT) hn hj
      rw [e] at this
      exact this
theorem f_lease (hT : T 0 = nI n) (hn : n ≤ 10) (a x d : Int32) : OPF_ T n (fun h t => F_X3_whyNotLease h t a x d) (fun h t => F_X3_leaseTo h t a x d) (fun h t => F_X6_isRefusedLease h t a x d) (fun h t => F_X6_leases h t a x d) := by
  refine ⟨(qrLease_ T n a x d), (fun r => qn_lease), (fun l g w h hl R I => T_nLease hl R I a x d), (fun l M h hl e I => by
    have := m_nLease (M := M) (h := h) hl (by rw [e]; exact hT) hn a x d
    rw [e] at this
    exact this), fun e I => ?_⟩
  unfold qrLease_ at e
  obtain ⟨ha, hx, e2⟩ := qG_none e
  obtain ⟨j, hj, rfl⟩ := S_of hn hx
  obtain ⟨b, hb, rfl⟩ := In_of (by decide) ha
  split at e2
  · cases e2
  · next hd =>
    have hd2 := In_iff.mp (Decidable.not_not.mp hd)
    obtain ⟨y, hy, rfl⟩ := In_of (m := 9) (by decide) (In_iff.mpr ⟨Int32.le_trans (show nI 0 ≤ nI 1 by decide) hd2.1, hd2.2⟩)
    have hy1 := (nI_leI (by decide) (by omega)).mp hd2.1
    refine ⟨rent_ (sT_ T j), tLease_ T j (nI b) (nI y), fun l g w h hl R => ?_, fun l M h hl e => ?_⟩
    · obtain ⟨w', e, R'⟩ := c_lease hl R hj (nI b) (nI y)
      exact ⟨g, w', n, e, R', I_lease I hj (by omega) hy1 hy⟩
    · have := m_lease (M := M) (h := h) hl (show j < 10 by omega) (nI b) (nI y)
      rw [e] at this
      exact this
theorem f_climb (hT : T 0 = nI n) (hn : n ≤ 10) (a x : Int32) : OPF_ T n (fun h t => F_X3_whyNotClimb h t a x) (fun h t => F_X3_goOver h t a x) (fun h t => F_X6_isRefusedClimb h t a x) (fun h t => F_X6_climbs h t a x) := by
  refine ⟨(qrClimb_ T n a x), (fun r => qn_climb), (fun l g w h hl R I => T_nClimb hl R I a x), (fun l M h hl e I => by
    have := m_nClimb (M := M) (h := h) hl (by rw [e]; exact hT) hn (by rw [e]; exact I) a x
    rw [e] at this
    exact this), fun e I => ?_⟩
  unfold qrClimb_ at e
  obtain ⟨ha, hx, e⟩ := qG_none e
  obtain ⟨j, hj, rfl⟩ := S_of hn hx
  obtain ⟨b, hb, rfl⟩ := In_of (by decide) ha
  have hb2 : b < 2 := by omega
  rw [cl_nI (show b < 2 ^ 31 by omega), cl_nI (show j < 2 ^ 31 by omega)] at e
  split at e
  · cases e
  · next he =>
    split at e
    · cases e
    · next ho =>
      rw [oc_cl] at ho
      refine ⟨cost_ (sT_ T j) (nI b), tClimb_ T b j, fun l g w h hl R => ?_, fun l M h hl e => ?_⟩
      · obtain ⟨w', e, R'⟩ := c_climb hl R I hb2 hj
        exact ⟨g, w', n, e, R', I_climb I hb2 hj ho⟩
      · have := m_climb (M := M) (h := h) hl hn (by rw [e]; exact I) hb2 hj (by rw [e]; exact Decidable.not_not.mp he)
        rw [e] at this
        exact this
theorem f_levy (hT : T 0 = nI n) (hn : n ≤ 10) (a x : Int32) : OPF_ T n (fun h t => F_X3_whyNotLevy h t a x) (fun h t => F_X3_levyDust h t a x) (fun h t => F_X6_isRefusedLevy h t a x) (fun h t => F_X6_levies h t a x) := by
  refine ⟨(qrLevy_ T n a x), (fun r => qn_levy), (fun l g w h hl R I => T_nLevy hl R I a x), (fun l M h hl e I => by
    have := m_nLevy (M := M) (h := h) hl (by rw [e]; exact hT) hn (by rw [e]; exact I) a x
    rw [e] at this
    exact this), fun e I => ?_⟩
  have e0 := e
  unfold qrLevy_ at e
  obtain ⟨ha, hx, -⟩ := qG_none e
  obtain ⟨j, hj, rfl⟩ := S_of hn hx
  obtain ⟨b, hb, rfl⟩ := In_of (by decide) ha
  have hb2 : b < 2 := by omega
  refine ⟨tLevyC_ T b j, tLevy_ T b j (tLevyC_ T b j), fun l g w h hl R => ?_, fun l M h hl e => ?_⟩
  · obtain ⟨w', e, R'⟩ := c_levy hl R I hb2 hj e0
    exact ⟨g, w', n, e, R', I_levy I hb2 hj⟩
  · have := m_levy (M := M) (h := h) hl hb2 (show j < 10 by omega)
    rw [e] at this
    exact this
theorem f_take (hT : T 0 = nI n) (hn : n ≤ 10) (x : Int32) : OPF_ T n (fun h t => F_X3_whyNotTake h t x) (fun h t => F_X3_takeLanding h t x) (fun h t => F_X6_isRefusedTake h t x) (fun h t => F_X6_takes h t x) := by
  refine ⟨(qrTake_ T n x), (fun r => qn_take), (fun l g w h hl R I => T_nTake hl R I x), (fun l M h hl e I => by
    have := m_nTake (M := M) (h := h) hl (by rw [e]; exact hT) hn (by rw [e]; exact I) x
    rw [e] at this
    exact this), fun e I => ?_⟩
  obtain ⟨b, hb, eb⟩ := I.1
  unfold qrTake_ at e
  split at e
  · cases e
  · next hx =>
    obtain ⟨i, hi, rfl⟩ := In_of (by decide) (Decidable.not_not.mp hx)
    split at e
    · cases e
    · split at e
      · cases e
      · split at e
        · cases e
        · split at e
          · cases e
          · next hp =>
            rw [eb, cl_nI (show b < 2 ^ 31 by omega), cl_nI (show i < 2 ^ 31 by omega)] at hp
            refine ⟨gT_ T b 0 - price_ T i, tTake_ T b i, fun l g w h hl R => ?_, fun l M h hl e => ?_⟩
            · obtain ⟨w', e, R'⟩ := c_take hl R hb eb (show i < 8 by omega)
              exact ⟨g, w', n, e, R', I_take I hb (by omega) hp⟩
            · have := m_take (M := M) (h := h) hl hb (by rw [e]; exact eb) (show i < 8 by omega)
              rw [e] at this
              exact this
theorem f_free (hT : T 0 = nI n) (hn : n ≤ 10) (a x : Int32) : OPF_ T n (fun h t => F_X3_whyNotFree h t a x) (fun h t => F_X3_freeLanding h t a x) (fun h t => F_X6_isRefusedCede h t a x) (fun h t => F_X6_cedes h t a x) := by
  refine ⟨(qrFree_ T a x), (fun r => qn_free), (fun l g w h hl R I => T_nFree hl R a x), (fun l M h hl e I => by
    have := m_nFree (M := M) (h := h) hl (by rw [e]; exact hT) hn a x
    rw [e] at this
    exact this), fun e I => ?_⟩
  unfold qrFree_ at e
  split at e
  · cases e
  · split at e
    · cases e
    · next hx =>
      obtain ⟨i, hi, rfl⟩ := In_of (by decide) (Decidable.not_not.mp hx)
      split at e
      · cases e
      · split at e
        · cases e
        · next hw =>
          refine ⟨qL_ (tFree_ T i) a, tFree_ T i, fun l g w h hl R => ?_, fun l M h hl e => ?_⟩
          · obtain ⟨w', e, R'⟩ := c_free hl R (show i < 8 by omega) a
            exact ⟨g, w', n, e, R', I_free I (by omega) (Decidable.not_not.mp hw)⟩
          · have := m_free (M := M) (h := h) hl (show i < 8 by omega) a
            rw [e] at this
            exact this
theorem f_build (hT : T 0 = nI n) (hn : n ≤ 10) (a b s : Int32) : OPF_ T n (fun h t => F_X3_whyNotBuild h t a b s) (fun h t => F_X3_addStair h t a b s) (fun h t => F_X6_isRefusedBuild h t a b s) (fun h t => F_X6_builds h t a b s) := by
  refine ⟨(qrBuild_ T n a b s), (fun r => qn_build), (fun l g w h hl R I => T_nBuild hl R a b s), (fun l M h hl e I => by
    have := m_nBuild (M := M) (h := h) hl (by rw [e]; exact hT) hn (by rw [e]; exact I) a b s
    rw [e] at this
    exact this), fun e I => ?_⟩
  unfold qrBuild_ at e
  split at e
  · cases e
  · next ha =>
    split at e
    · cases e
    · next hb =>
      split at e
      · cases e
      · next hs =>
        split at e
        · cases e
        · next hab =>
          split at e
          · cases e
          · next hq =>
            split at e
            · cases e
            · next h10 =>
              obtain ⟨p, hp, rfl⟩ := In_of (by decide) (Decidable.not_not.mp ha)
              obtain ⟨q, hq2, rfl⟩ := In_of (by decide) (Decidable.not_not.mp hb)
              have hs2 := In_iff.mp (Decidable.not_not.mp hs)
              obtain ⟨y, hy, rfl⟩ := In_of (m := 40) (by decide) (In_iff.mpr ⟨Int32.le_trans (show nI 0 ≤ nI 1 by decide) hs2.1, hs2.2⟩)
              have hy1 := (nI_leI (by decide) (by omega)).mp hs2.1
              have hn10 : n < 10 := by omega
              refine ⟨nI n, tBuild_ T n (nI p) (nI q) (nI y), fun l g w h hl R => ?_, fun l M h hl e => ?_⟩
              · obtain ⟨w', e, R'⟩ := c_build hl R hn10 (nI p) (nI q) (nI y)
                exact ⟨g, w', n + 1, e, R', I_build I hn10 (by omega) (by omega) (fun z => hab (by rw [z])) hy1 hy hq⟩
              · have := m_build (M := M) (h := h) hl (by rw [e]; exact hT) hn10 (nI p) (nI q) (nI y)
                rw [e] at this
                exact this
end OP
theorem bind_e {α β : Type} (x : Option (α × β)) : (x.bind fun v => some (v.1, v.2)) = x := by
  cases x <;> rfl
theorem bind_s {α : Type} (x : Option α) : (x.bind fun v => some v) = x := by
  cases x <;> rfl
section OS
variable {A : Nat → Nat} {GG : Nat → Nat → Nat} {Z : Nat → Nat → Int32} {XL : Nat → Int64} {cap i n : Nat} {K : Nat → mm_Ce} {h : mm_S} {T : Nat → Int32}
/-- one order: what the class tells and does, what the reference does -/
def SO_ (A : Nat → Nat) (h : mm_S) (T : Nat → Int32) (i : Nat) (ar : (Nat → Nat → Int32) → Prop) : Prop := ∃ q : Option (Int32 × Int32), (∀ r, q = some r → r.1 ≠ nI 0) ∧ F_X1_whyNotDo h (A 189) (nI i) (A 16) = some (rL_ q) ∧ (q = none → ∃ v T2 g' w' n', F_X1_doOrder h (A 189) (nI i) (A 16) = some (v, tv_ (lt_ A 1) g' w' h) ∧ R_ g' w' T2 n' ∧ I_ T2 n' ∧ ∀ (l : Nat → Nat) (M : Nat → Nat → Int32) (H : mm_S), ov_L 11 l H → M 1 = T → ar M → F_X6_cannot (mv_ l M H) (l 0) (nI i) = some (ki 0, mv_ l (mT_ M T2) H)) ∧ (∀ r, q = some r → ∀ (l : Nat → Nat) (M : Nat → Nat → Int32) (H : mm_S), ov_L 11 l H → M 1 = T → ar M → F_X6_cannot (mv_ l M H) (l 0) (nI i) = some (ki 1, mv_ l (mW_ M r) H))
theorem s_of {why : mm_S → Nat → Option Int64} {op ref mop : mm_S → Nat → Option (Int32 × mm_S)} {ar : (Nat → Nat → Int32) → Prop} (hW : WD_ A GG Z XL cap K h) (R : R_ (GG 1) (wt_ Z 1) T n) (I : I_ T n) (o : OPF_ T n why op ref mop) (h1 : F_X1_whyNotDo h (A 189) (nI i) (A 16) = why h (A 16)) (h2 : F_X1_doOrder h (A 189) (nI i) (A 16) = op h (A 16)) (h3 : ∀ (l : Nat → Nat) (M : Nat → Nat → Int32) (H : mm_S), ov_L 11 l H → ar M → F_X6_cannot (mv_ l M H) (l 0) (nI i) = ((ref (mv_ l M H) (l 0)).bind fun v => if v.1 = 0 then (fx_is v.2 (l 0) 6).bind fun _ => (mop v.2 (l 0)).bind fun w => some (ki 0, w.2) else some (ki 1, v.2))) : SO_ A h T i ar := by
  obtain ⟨q, q1, q2, q3, q4⟩ := o
  obtain ⟨hl, e⟩ := WD_t hW (show 1 < 11 by decide)
  have a1 := q2 (lt_ A 1) (GG 1) (wt_ Z 1) h hl R I
  rw [e] at a1
  refine ⟨q, q1, h1.trans a1, fun hq => ?_, fun r hr l M H hlM hM ha => ?_⟩
  · obtain ⟨v, T2, b1, b2⟩ := q4 hq I
    obtain ⟨g', w', n', c1, c2, c3⟩ := b1 (lt_ A 1) (GG 1) (wt_ Z 1) h hl R
    rw [e] at c1
    refine ⟨v, T2, g', w', n', h2.trans c1, c2, c3, fun l M H hlM hM ha => ?_⟩
    rw [h3 l M H hlM ha, q3 l M H hlM hM I, hq, Option.bind_some]
    unfold mR_
    dsimp only
    rw [if_pos (show (nI 0 : Int32) = 0 from rfl), mv_is hlM, Option.bind_some, b2 l M H hlM hM, Option.bind_some]
  · rw [h3 l M H hlM ha, q3 l M H hlM hM I, hr]
    rfl
theorem s_0 (hW : WD_ A GG Z XL cap K h) (R : R_ (GG 1) (wt_ Z 1) T n) (I : I_ T n) (hT : T 0 = nI n) (hn : n ≤ 10) (hi : i < 15) (ek : Z 190 i = nI 0) (n0 n1 n2 : Nat) (e0 : Z (192 + i) 0 = nI n0) (e1 : Z (192 + i) 1 = nI n1) (e2 : Z (192 + i) 2 = nI n2) : SO_ A h T i (fun M => M 8 i = nI 0 ∧ M 9 (3 * i) = nI n0 ∧ M 9 (3 * i + 1) = nI n1 ∧ M 9 (3 * i + 2) = nI n2) := by
  have tis := tis_ hW (show 1 < 11 by decide)
  refine s_of hW R I (f_build hT hn (nI n0) (nI n1) (nI n2)) ?_ ?_ (fun l M H hl ha => ?_)
  · unfold F_X1_whyNotDo
    rw [O_r2 hW, Option.bind_some, O_aR hW hi, Option.bind_some, O_r1 hW, Option.bind_some, O_aK hW hi, Option.bind_some, ek, if_pos rfl]
    simp only [kj_i0, kj_i1, kj_i2, O_aI hW hi (show 0 < 3 by decide), e0, O_aI hW hi (show 1 < 3 by decide), e1, O_aI hW hi (show 2 < 3 by decide), e2, Option.bind_some, show fx_is h (A 16) 3 = some () from tis, bind_s]
  · unfold F_X1_doOrder
    rw [O_r2 hW, Option.bind_some, O_aR hW hi, Option.bind_some, O_r1 hW, Option.bind_some, O_aK hW hi, Option.bind_some, ek, if_pos rfl]
    simp only [kj_i0, kj_i1, kj_i2, O_aI hW hi (show 0 < 3 by decide), e0, O_aI hW hi (show 1 < 3 by decide), e1, O_aI hW hi (show 2 < 3 by decide), e2, Option.bind_some, show fx_is h (A 16) 3 = some () from tis, bind_e]
  · obtain ⟨a8, a0, a1, a2⟩ := ha
    unfold F_X6_cannot
    rw [mr_18 hl, Option.bind_some, kj_i3, pk_mul, ma_9 hl (by omega), Option.bind_some, Option.bind_some, kj_i1, nI_add, ma_9 hl (by omega), Option.bind_some, Option.bind_some, kj_i2, nI_add, ma_9 hl (by omega), Option.bind_some, mr_17 hl, Option.bind_some, ma_8 hl (by omega), Option.bind_some, a8, if_pos rfl, mv_is hl, Option.bind_some, a0, a1, a2]
theorem s_1 (hW : WD_ A GG Z XL cap K h) (R : R_ (GG 1) (wt_ Z 1) T n) (I : I_ T n) (hT : T 0 = nI n) (hn : n ≤ 10) (hi : i < 15) (ek : Z 190 i = nI 1) (n0 n1 n2 : Nat) (e0 : Z (192 + i) 0 = nI n0) : SO_ A h T i (fun M => M 8 i = nI 1 ∧ M 9 (3 * i) = nI n0 ∧ M 9 (3 * i + 1) = nI n1 ∧ M 9 (3 * i + 2) = nI n2) := by
  have tis := tis_ hW (show 1 < 11 by decide)
  refine s_of hW R I (f_tear hT hn (nI n0)) ?_ ?_ (fun l M H hl ha => ?_)
  · unfold F_X1_whyNotDo
    rw [O_r2 hW, Option.bind_some, O_aR hW hi, Option.bind_some, O_r1 hW, Option.bind_some, O_aK hW hi, Option.bind_some, ek, if_neg (by decide), if_pos rfl]
    simp only [kj_i0, kj_i1, kj_i2, O_aI hW hi (show 0 < 3 by decide), e0, Option.bind_some, show fx_is h (A 16) 3 = some () from tis, bind_s]
  · unfold F_X1_doOrder
    rw [O_r2 hW, Option.bind_some, O_aR hW hi, Option.bind_some, O_r1 hW, Option.bind_some, O_aK hW hi, Option.bind_some, ek, if_neg (by decide), if_pos rfl]
    simp only [kj_i0, kj_i1, kj_i2, O_aI hW hi (show 0 < 3 by decide), e0, Option.bind_some, show fx_is h (A 16) 3 = some () from tis, bind_e]
  · obtain ⟨a8, a0, a1, a2⟩ := ha
    unfold F_X6_cannot
    rw [mr_18 hl, Option.bind_some, kj_i3, pk_mul, ma_9 hl (by omega), Option.bind_some, Option.bind_some, kj_i1, nI_add, ma_9 hl (by omega), Option.bind_some, Option.bind_some, kj_i2, nI_add, ma_9 hl (by omega), Option.bind_some, mr_17 hl, Option.bind_some, ma_8 hl (by omega), Option.bind_some, a8, if_neg (by decide), if_pos rfl, mv_is hl, Option.bind_some, a0]
theorem s_2 (hW : WD_ A GG Z XL cap K h) (R : R_ (GG 1) (wt_ Z 1) T n) (I : I_ T n) (hT : T 0 = nI n) (hn : n ≤ 10) (hi : i < 15) (ek : Z 190 i = nI 2) (n0 n1 n2 : Nat) (e0 : Z (192 + i) 0 = nI n0) : SO_ A h T i (fun M => M 8 i = nI 2 ∧ M 9 (3 * i) = nI n0 ∧ M 9 (3 * i + 1) = nI n1 ∧ M 9 (3 * i + 2) = nI n2) := by
  have tis := tis_ hW (show 1 < 11 by decide)
  refine s_of hW R I (f_halve hT hn (nI n0)) ?_ ?_ (fun l M H hl ha => ?_)
  · unfold F_X1_whyNotDo
    rw [O_r2 hW, Option.bind_some, O_aR hW hi, Option.bind_some, O_r1 hW, Option.bind_some, O_aK hW hi, Option.bind_some, ek, if_neg (by decide), if_neg (by decide), if_pos rfl]
    simp only [kj_i0, kj_i1, kj_i2, O_aI hW hi (show 0 < 3 by decide), e0, Option.bind_some, show fx_is h (A 16) 3 = some () from tis, bind_s]
  · unfold F_X1_doOrder
    rw [O_r2 hW, Option.bind_some, O_aR hW hi, Option.bind_some, O_r1 hW, Option.bind_some, O_aK hW hi, Option.bind_some, ek, if_neg (by decide), if_neg (by decide), if_pos rfl]
    simp only [kj_i0, kj_i1, kj_i2, O_aI hW hi (show 0 < 3 by decide), e0, Option.bind_some, show fx_is h (A 16) 3 = some () from tis, bind_e]
  · obtain ⟨a8, a0, a1, a2⟩ := ha
    unfold F_X6_cannot
    rw [mr_18 hl, Option.bind_some, kj_i3, pk_mul, ma_9 hl (by omega), Option.bind_some, Option.bind_some, kj_i1, nI_add, ma_9 hl (by omega), Option.bind_some, Option.bind_some, kj_i2, nI_add, ma_9 hl (by omega), Option.bind_some, mr_17 hl, Option.bind_some, ma_8 hl (by omega), Option.bind_some, a8, if_neg (by decide), if_neg (by decide), if_pos rfl, mv_is hl, Option.bind_some, a0]
theorem s_3 (hW : WD_ A GG Z XL cap K h) (R : R_ (GG 1) (wt_ Z 1) T n) (I : I_ T n) (hT : T 0 = nI n) (hn : n ≤ 10) (hi : i < 15) (ek : Z 190 i = nI 3) (n0 n1 n2 : Nat) (e0 : Z (192 + i) 0 = nI n0) (e1 : Z (192 + i) 1 = nI n1) (e2 : Z (192 + i) 2 = nI n2) : SO_ A h T i (fun M => M 8 i = nI 3 ∧ M 9 (3 * i) = nI n0 ∧ M 9 (3 * i + 1) = nI n1 ∧ M 9 (3 * i + 2) = nI n2) := by
  have tis := tis_ hW (show 1 < 11 by decide)
  refine s_of hW R I (f_lease hT hn (nI n0) (nI n1) (nI n2)) ?_ ?_ (fun l M H hl ha => ?_)
  · unfold F_X1_whyNotDo
    rw [O_r2 hW, Option.bind_some, O_aR hW hi, Option.bind_some, O_r1 hW, Option.bind_some, O_aK hW hi, Option.bind_some, ek, if_neg (by decide), if_neg (by decide), if_neg (by decide), if_pos rfl]
    simp only [kj_i0, kj_i1, kj_i2, O_aI hW hi (show 0 < 3 by decide), e0, O_aI hW hi (show 1 < 3 by decide), e1, O_aI hW hi (show 2 < 3 by decide), e2, Option.bind_some, show fx_is h (A 16) 3 = some () from tis, bind_s]
  · unfold F_X1_doOrder
    rw [O_r2 hW, Option.bind_some, O_aR hW hi, Option.bind_some, O_r1 hW, Option.bind_some, O_aK hW hi, Option.bind_some, ek, if_neg (by decide), if_neg (by decide), if_neg (by decide), if_pos rfl]
    simp only [kj_i0, kj_i1, kj_i2, O_aI hW hi (show 0 < 3 by decide), e0, O_aI hW hi (show 1 < 3 by decide), e1, O_aI hW hi (show 2 < 3 by decide), e2, Option.bind_some, show fx_is h (A 16) 3 = some () from tis, bind_e]
  · obtain ⟨a8, a0, a1, a2⟩ := ha
    unfold F_X6_cannot
    rw [mr_18 hl, Option.bind_some, kj_i3, pk_mul, ma_9 hl (by omega), Option.bind_some, Option.bind_some, kj_i1, nI_add, ma_9 hl (by omega), Option.bind_some, Option.bind_some, kj_i2, nI_add, ma_9 hl (by omega), Option.bind_some, mr_17 hl, Option.bind_some, ma_8 hl (by omega), Option.bind_some, a8, if_neg (by decide), if_neg (by decide), if_neg (by decide), if_pos rfl, mv_is hl, Option.bind_some, a0, a1, a2]
theorem s_4 (hW : WD_ A GG Z XL cap K h) (R : R_ (GG 1) (wt_ Z 1) T n) (I : I_ T n) (hT : T 0 = nI n) (hn : n ≤ 10) (hi : i < 15) (ek : Z 190 i = nI 4) (n0 n1 n2 : Nat) (e0 : Z (192 + i) 0 = nI n0) (e1 : Z (192 + i) 1 = nI n1) : SO_ A h T i (fun M => M 8 i = nI 4 ∧ M 9 (3 * i) = nI n0 ∧ M 9 (3 * i + 1) = nI n1 ∧ M 9 (3 * i + 2) = nI n2) := by
  have tis := tis_ hW (show 1 < 11 by decide)
  refine s_of hW R I (f_climb hT hn (nI n0) (nI n1)) ?_ ?_ (fun l M H hl ha => ?_)
  · unfold F_X1_whyNotDo
    rw [O_r2 hW, Option.bind_some, O_aR hW hi, Option.bind_some, O_r1 hW, Option.bind_some, O_aK hW hi, Option.bind_some, ek, if_neg (by decide), if_neg (by decide), if_neg (by decide), if_neg (by decide), if_pos rfl]
    simp only [kj_i0, kj_i1, kj_i2, O_aI hW hi (show 0 < 3 by decide), e0, O_aI hW hi (show 1 < 3 by decide), e1, Option.bind_some, show fx_is h (A 16) 3 = some () from tis, bind_s]
  · unfold F_X1_doOrder
    rw [O_r2 hW, Option.bind_some, O_aR hW hi, Option.bind_some, O_r1 hW, Option.bind_some, O_aK hW hi, Option.bind_some, ek, if_neg (by decide), if_neg (by decide), if_neg (by decide), if_neg (by decide), if_pos rfl]
    simp only [kj_i0, kj_i1, kj_i2, O_aI hW hi (show 0 < 3 by decide), e0, O_aI hW hi (show 1 < 3 by decide), e1, Option.bind_some, show fx_is h (A 16) 3 = some () from tis, bind_e]
  · obtain ⟨a8, a0, a1, a2⟩ := ha
    unfold F_X6_cannot
    rw [mr_18 hl, Option.bind_some, kj_i3, pk_mul, ma_9 hl (by omega), Option.bind_some, Option.bind_some, kj_i1, nI_add, ma_9 hl (by omega), Option.bind_some, Option.bind_some, kj_i2, nI_add, ma_9 hl (by omega), Option.bind_some, mr_17 hl, Option.bind_some, ma_8 hl (by omega), Option.bind_some, a8, if_neg (by decide), if_neg (by decide), if_neg (by decide), if_neg (by decide), if_pos rfl, mv_is hl, Option.bind_some, a0, a1]
theorem s_5 (hW : WD_ A GG Z XL cap K h) (R : R_ (GG 1) (wt_ Z 1) T n) (I : I_ T n) (hT : T 0 = nI n) (hn : n ≤ 10) (hi : i < 15) (ek : Z 190 i = nI 5) (n0 n1 n2 : Nat) (e0 : Z (192 + i) 0 = nI n0) (e1 : Z (192 + i) 1 = nI n1) : SO_ A h T i (fun M => M 8 i = nI 5 ∧ M 9 (3 * i) = nI n0 ∧ M 9 (3 * i + 1) = nI n1 ∧ M 9 (3 * i + 2) = nI n2) := by
  have tis := tis_ hW (show 1 < 11 by decide)
  refine s_of hW R I (f_levy hT hn (nI n0) (nI n1)) ?_ ?_ (fun l M H hl ha => ?_)
  · unfold F_X1_whyNotDo
    rw [O_r2 hW, Option.bind_some, O_aR hW hi, Option.bind_some, O_r1 hW, Option.bind_some, O_aK hW hi, Option.bind_some, ek, if_neg (by decide), if_neg (by decide), if_neg (by decide), if_neg (by decide), if_neg (by decide), if_pos rfl]
    simp only [kj_i0, kj_i1, kj_i2, O_aI hW hi (show 0 < 3 by decide), e0, O_aI hW hi (show 1 < 3 by decide), e1, Option.bind_some, show fx_is h (A 16) 3 = some () from tis, bind_s]
  · unfold F_X1_doOrder
    rw [O_r2 hW, Option.bind_some, O_aR hW hi, Option.bind_some, O_r1 hW, Option.bind_some, O_aK hW hi, Option.bind_some, ek, if_neg (by decide), if_neg (by decide), if_neg (by decide), if_neg (by decide), if_neg (by decide), if_pos rfl]
    simp only [kj_i0, kj_i1, kj_i2, O_aI hW hi (show 0 < 3 by decide), e0, O_aI hW hi (show 1 < 3 by decide), e1, Option.bind_some, show fx_is h (A 16) 3 = some () from tis, bind_e]
  · obtain ⟨a8, a0, a1, a2⟩ := ha
    unfold F_X6_cannot
    rw [mr_18 hl, Option.bind_some, kj_i3, pk_mul, ma_9 hl (by omega), Option.bind_some, Option.bind_some, kj_i1, nI_add, ma_9 hl (by omega), Option.bind_some, Option.bind_some, kj_i2, nI_add, ma_9 hl (by omega), Option.bind_some, mr_17 hl, Option.bind_some, ma_8 hl (by omega), Option.bind_some, a8, if_neg (by decide), if_neg (by decide), if_neg (by decide), if_neg (by decide), if_neg (by decide), if_pos rfl, mv_is hl, Option.bind_some, a0, a1]
theorem s_6 (hW : WD_ A GG Z XL cap K h) (R : R_ (GG 1) (wt_ Z 1) T n) (I : I_ T n) (hT : T 0 = nI n) (hn : n ≤ 10) (hi : i < 15) (ek : Z 190 i = nI 6) (n0 n1 n2 : Nat) (e0 : Z (192 + i) 0 = nI n0) : SO_ A h T i (fun M => M 8 i = nI 6 ∧ M 9 (3 * i) = nI n0 ∧ M 9 (3 * i + 1) = nI n1 ∧ M 9 (3 * i + 2) = nI n2) := by
  have tis := tis_ hW (show 1 < 11 by decide)
  refine s_of hW R I (f_take hT hn (nI n0)) ?_ ?_ (fun l M H hl ha => ?_)
  · unfold F_X1_whyNotDo
    rw [O_r2 hW, Option.bind_some, O_aR hW hi, Option.bind_some, O_r1 hW, Option.bind_some, O_aK hW hi, Option.bind_some, ek, if_neg (by decide), if_neg (by decide), if_neg (by decide), if_neg (by decide), if_neg (by decide), if_neg (by decide), if_pos rfl]
    simp only [kj_i0, kj_i1, kj_i2, O_aI hW hi (show 0 < 3 by decide), e0, Option.bind_some, show fx_is h (A 16) 3 = some () from tis, bind_s]
  · unfold F_X1_doOrder
    rw [O_r2 hW, Option.bind_some, O_aR hW hi, Option.bind_some, O_r1 hW, Option.bind_some, O_aK hW hi, Option.bind_some, ek, if_neg (by decide), if_neg (by decide), if_neg (by decide), if_neg (by decide), if_neg (by decide), if_neg (by decide), if_pos rfl]
    simp only [kj_i0, kj_i1, kj_i2, O_aI hW hi (show 0 < 3 by decide), e0, Option.bind_some, show fx_is h (A 16) 3 = some () from tis, bind_e]
  · obtain ⟨a8, a0, a1, a2⟩ := ha
    unfold F_X6_cannot
    rw [mr_18 hl, Option.bind_some, kj_i3, pk_mul, ma_9 hl (by omega), Option.bind_some, Option.bind_some, kj_i1, nI_add, ma_9 hl (by omega), Option.bind_some, Option.bind_some, kj_i2, nI_add, ma_9 hl (by omega), Option.bind_some, mr_17 hl, Option.bind_some, ma_8 hl (by omega), Option.bind_some, a8, if_neg (by decide), if_neg (by decide), if_neg (by decide), if_neg (by decide), if_neg (by decide), if_neg (by decide), if_pos rfl, mv_is hl, Option.bind_some, a0]
theorem s_7 (hW : WD_ A GG Z XL cap K h) (R : R_ (GG 1) (wt_ Z 1) T n) (I : I_ T n) (hT : T 0 = nI n) (hn : n ≤ 10) (hi : i < 15) (ek : Z 190 i = nI 7) (n0 n1 n2 : Nat) (e0 : Z (192 + i) 0 = nI n0) (e1 : Z (192 + i) 1 = nI n1) : SO_ A h T i (fun M => M 8 i = nI 7 ∧ M 9 (3 * i) = nI n0 ∧ M 9 (3 * i + 1) = nI n1 ∧ M 9 (3 * i + 2) = nI n2) := by
  have tis := tis_ hW (show 1 < 11 by decide)
  refine s_of hW R I (f_free hT hn (nI n0) (nI n1)) ?_ ?_ (fun l M H hl ha => ?_)
  · unfold F_X1_whyNotDo
    rw [O_r2 hW, Option.bind_some, O_aR hW hi, Option.bind_some, O_r1 hW, Option.bind_some, O_aK hW hi, Option.bind_some, ek, if_neg (by decide), if_neg (by decide), if_neg (by decide), if_neg (by decide), if_neg (by decide), if_neg (by decide), if_neg (by decide), if_pos rfl]
    simp only [kj_i0, kj_i1, kj_i2, O_aI hW hi (show 0 < 3 by decide), e0, O_aI hW hi (show 1 < 3 by decide), e1, Option.bind_some, show fx_is h (A 16) 3 = some () from tis, bind_s]
  · unfold F_X1_doOrder
    rw [O_r2 hW, Option.bind_some, O_aR hW hi, Option.bind_some, O_r1 hW, Option.bind_some, O_aK hW hi, Option.bind_some, ek, if_neg (by decide), if_neg (by decide), if_neg (by decide), if_neg (by decide), if_neg (by decide), if_neg (by decide), if_neg (by decide), if_pos rfl]
    simp only [kj_i0, kj_i1, kj_i2, O_aI hW hi (show 0 < 3 by decide), e0, O_aI hW hi (show 1 < 3 by decide), e1, Option.bind_some, show fx_is h (A 16) 3 = some () from tis, bind_e]
  · obtain ⟨a8, a0, a1, a2⟩ := ha
    unfold F_X6_cannot
    rw [mr_18 hl, Option.bind_some, kj_i3, pk_mul, ma_9 hl (by omega), Option.bind_some, Option.bind_some, kj_i1, nI_add, ma_9 hl (by omega), Option.bind_some, Option.bind_some, kj_i2, nI_add, ma_9 hl (by omega), Option.bind_some, mr_17 hl, Option.bind_some, ma_8 hl (by omega), Option.bind_some, a8, if_neg (by decide), if_neg (by decide), if_neg (by decide), if_neg (by decide), if_neg (by decide), if_neg (by decide), if_neg (by decide), if_pos rfl, mv_is hl, Option.bind_some, a0, a1]
theorem s_8 (hW : WD_ A GG Z XL cap K h) (R : R_ (GG 1) (wt_ Z 1) T n) (I : I_ T n) (hT : T 0 = nI n) (hn : n ≤ 10) (hi : i < 15) (ek : Z 190 i = nI 8) : SO_ A h T i (fun M => M 8 i = nI 8) := by
  have tis := tis_ hW (show 1 < 11 by decide)
  obtain ⟨hl, e⟩ := WD_t hW (show 1 < 11 by decide)
  obtain ⟨w', c1, c2⟩ := c_day (h := h) hl R
  rw [e] at c1
  refine ⟨none, fun r hr => (by cases hr), ?_, fun _ => ⟨(tDays_ T n).1, tDay_ T n, GG 1, w', n, ?_, c2, I_day I, fun l M H hlM hM ha => ?_⟩, fun r hr => (by cases hr)⟩
  · unfold F_X1_whyNotDo
    rw [O_r2 hW, Option.bind_some, O_aR hW hi, Option.bind_some, O_r1 hW, Option.bind_some, O_aK hW hi, Option.bind_some, ek, if_neg (by decide), if_neg (by decide), if_neg (by decide), if_neg (by decide), if_neg (by decide), if_neg (by decide), if_neg (by decide), if_neg (by decide)]
    rfl
  · unfold F_X1_doOrder
    rw [O_r2 hW, Option.bind_some, O_aR hW hi, Option.bind_some, O_r1 hW, Option.bind_some, O_aK hW hi, Option.bind_some, ek, if_neg (by decide), if_neg (by decide), if_neg (by decide), if_neg (by decide), if_neg (by decide), if_neg (by decide), if_neg (by decide), if_neg (by decide), show fx_is h (A 16) 3 = some () from tis, Option.bind_some, bind_e]
    exact c1
  · have em := m_day (M := M) (h := H) hlM (by rw [hM]; exact hT) hn (by rw [hM]; exact I)
    rw [hM] at em
    unfold F_X6_cannot
    rw [mr_18 hlM, Option.bind_some, kj_i3, pk_mul, ma_9 hlM (by omega), Option.bind_some, Option.bind_some, kj_i1, nI_add, ma_9 hlM (by omega), Option.bind_some, Option.bind_some, kj_i2, nI_add, ma_9 hlM (by omega), Option.bind_some, mr_17 hlM, Option.bind_some, ma_8 hlM (by omega), Option.bind_some, show M 8 i = nI 8 from ha, if_neg (by decide), if_neg (by decide), if_neg (by decide), if_neg (by decide), if_neg (by decide), if_neg (by decide), if_neg (by decide), if_neg (by decide), mv_is hlM, Option.bind_some, em, Option.bind_some]
end OS
