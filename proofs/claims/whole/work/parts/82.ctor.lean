/-! things newly made: the world as numbered cells that grows -/
section CT
variable {X : mm_Cl} {S : Nat → Nat} {d y c k pc a b N : Nat} {Q : mm_Re → Prop} {K : List mm_E} {ls : mm_L} {h : mm_S} {st rest : List Value} {q i o ci : Nat} {A : Nat → Nat} {C : Nat → mm_Ce} {fs : List Value}
theorem up_comm {α : Type} {f : Nat → α} {i j : Nat} {v w : α} (e : i ≠ j) : va_up (va_up f i v) j w = va_up (va_up f j w) i v := by
  funext x
  unfold va_up
  by_cases h1 : x = i
  · rw [if_pos h1, if_neg (fun z => e (h1.symm.trans z)), if_pos h1]
  · rw [if_neg h1, if_neg h1]
theorem W_push (hW : W_ N A C h) (hq : q ∉ h.1) {v : mm_Ce} : W_ (N + 1) (va_up A N q) (va_up C N v) (h.1 ++ [q], va_up h.2 q v) := by
  have hne : ∀ j, j < N → A j ≠ q := fun j hj e => hq (e ▸ hW.1 j hj)
  refine ⟨fun j hj => ?_, fun a b ha hb e => ?_, fun j hj => ?_⟩
  · unfold va_up
    split
    · exact List.mem_append_right _ List.mem_cons_self
    · exact List.mem_append_left _ (hW.1 j (by omega))
  · by_cases ea : a = N
    · by_cases eb : b = N
      · rw [ea, eb]
      · rw [ea, va_up_self, va_up_ne _ _ eb] at e
        exact absurd e.symm (hne b (by omega))
    · by_cases eb : b = N
      · rw [eb, va_up_self, va_up_ne _ _ ea] at e
        exact absurd e (hne a (by omega))
      · rw [va_up_ne _ _ ea, va_up_ne _ _ eb] at e
        exact hW.2.1 a b (by omega) (by omega) e
  · show va_up h.2 q v (va_up A N q j) = va_up C N v j
    by_cases e : j = N
    · rw [e, va_up_self, va_up_self, va_up_self]
    · rw [va_up_ne _ _ e, va_up_ne _ _ e, va_up_ne _ _ (hne j (by omega)), hW.2.2 j (by omega)]
theorem W_obj (hW : W_ N A C h) (hi : i < N) (hC : C i = .inr (ci, fs)) : fx_obj h (A i) ci = some fs := by
  unfold fx_obj
  rw [if_pos (hW.1 i hi), hW.2.2 i hi, hC]
  exact if_pos rfl
theorem ct_put (hX : mm_mono X) {ix f : Nat} {v : Value} (cd : mm_cd y = K) (hf : mm_find K pc = some (.putfield ix, ci, f)) (hW : W_ N A (va_up C i (.inr (ci, fs))) h) (hi : i < N) (ho : A i = o) (hl : f < fs.length) (hfit : narrow (mm_fty ci f) v = v ∧ fits (mm_fty ci f) v = true)
    (g : ∀ h2, W_ N A (va_up C i (.inr (ci, fs.set f v))) h2 → mm_Ex (mm_Run X d) y Q (pc + 3, rest, ls, h2) c k) : mm_Ex (mm_Run X d) y Q (pc, v :: .ref o :: rest, ls, h) c k := by
  subst ho
  refine go_pV hX (h2 := mm_put h (A i) (.inr (ci, fs.set f v))) cd hf ?_ (g _ ?_)
  · unfold fx_pV
    rw [W_obj hW hi (va_up_self _ _ _)]
    exact if_pos ⟨hl, hfit⟩
  · have h1 := W_put1 hW hi (c := .inr (ci, fs.set f v))
    rw [bx_uu] at h1
    exact h1
theorem ct_gR (hX : mm_mono X) {ix f v : Nat} (cd : mm_cd y = K) (hf : mm_find K pc = some (.getfield ix, ci, f)) (hW : W_ N A (va_up C i (.inr (ci, fs))) h) (hi : i < N) (ho : A i = o) (hl : fs[f]? = some (.ref v))
    (g : mm_Ex (mm_Run X d) y Q (pc + 3, .ref v :: rest, ls, h) c k) : mm_Ex (mm_Run X d) y Q (pc, .ref o :: rest, ls, h) c k := by
  subst ho
  refine go_gR hX cd hf ?_ g
  unfold fx_gR
  rw [W_obj hW hi (va_up_self _ _ _)]
  show (match fs[f]? with | some (.ref x) => some x | _ => none) = _
  rw [hl]
theorem ct_narr (hX : mm_mono X) {t : ArrayType} {ti : Nat} {fz : Nat → vp_A} {n : Int32} (m : Nat) (cd : mm_cd y = K) (hf : mm_find K pc = some (.newarray t, a, b)) (ht : mm_arn t = some (ti, fz)) (hn : ¬ n < 0) (hm : n.toNatClampNeg = m) (h6 : m ≤ 65536) (hc : 1 ≤ c) (hk : m ≤ k) (hW : W_ N A (va_up C i (.inr (ci, fs))) h) (hi : i < N)
    (g : ∀ A2 h2, (∀ j, j < N → A2 j = A j) → W_ (N + 1) A2 (va_up (va_up C N (.inl (ti, fz m))) i (.inr (ci, fs))) h2 → mm_Ex (mm_Run X d) y Q (pc + 2, .ref (A2 N) :: rest, ls, h2) (c - 1) (k - m)) : mm_Ex (mm_Run X d) y Q (pc, .int n :: rest, ls, h) c k := by
  subst hm
  refine go_narr hX cd hf ht hn h6 hc hk fun q hq _ => ?_
  have h1 := W_push hW hq (v := .inl (ti, fz n.toNatClampNeg))
  rw [up_comm (by omega)] at h1
  have h2 := g _ _ (fun j hj => va_up_ne _ _ (by omega)) h1
  rw [va_up_self] at h2
  exact h2
theorem ct_anew (hX : mm_mono X) {ix : Nat} {n : Int32} (m : Nat) (cd : mm_cd y = K) (hf : mm_find K pc = some (.anewarray ix, a, b)) (ha : a = 0 ∨ a = 2 ∨ a = 3) (hn : ¬ n < 0) (hm : n.toNatClampNeg = m) (h6 : m ≤ 65536) (hc : 1 ≤ c) (hk : m ≤ k) (hW : W_ N A (va_up C i (.inr (ci, fs))) h) (hi : i < N)
    (g : ∀ A2 h2, (∀ j, j < N → A2 j = A j) → W_ (N + 1) A2 (va_up (va_up C N (.inl (mm_ati a, m, .inr (.inr (.inr (.inr (fun _ => none))))))) i (.inr (ci, fs))) h2 → mm_Ex (mm_Run X d) y Q (pc + 3, .ref (A2 N) :: rest, ls, h2) (c - 1) (k - m)) : mm_Ex (mm_Run X d) y Q (pc, .int n :: rest, ls, h) c k := by
  subst hm
  refine go_anew hX cd hf ha hn h6 hc hk fun q hq _ => ?_
  have h1 := W_push hW hq (v := .inl (mm_ati a, n.toNatClampNeg, .inr (.inr (.inr (.inr (fun _ => none))))))
  rw [up_comm (by omega)] at h1
  have h2 := g _ _ (fun j hj => va_up_ne _ _ (by omega)) h1
  rw [va_up_self] at h2
  exact h2
theorem ct_new (hX : mm_mono X) {ix : Nat} (m : Nat) (cd : mm_cd y = K) (hf : mm_find K pc = some (.new ix, a, 9)) (hm : (mm_C a).2.2 = m) (hc : 1 ≤ c) (hk : m ≤ k) (hW : W_ N A (va_up C i (.inr (ci, fs))) h) (hi : i < N)
    (g : ∀ A2 h2, (∀ j, j < N → A2 j = A j) → W_ (N + 1) A2 (va_up (va_up C N (.inr (a, mm_dfl a))) i (.inr (ci, fs))) h2 → mm_Ex (mm_Run X d) y Q (pc + 3, .ref (A2 N) :: st, ls, h2) (c - 1) (k - m)) : mm_Ex (mm_Run X d) y Q (pc, st, ls, h) c k := by
  subst hm
  refine go_new hX cd hf hc hk fun q hq _ => ?_
  have h1 := W_push hW hq (v := .inr (a, mm_dfl a))
  rw [up_comm (by omega)] at h1
  have h2 := g _ _ (fun j hj => va_up_ne _ _ (by omega)) h1
  rw [va_up_self] at h2
  exact h2
/-- a constructor of the object laid last: it lays n cells more, Z says which -/
def CT_ (X : mm_Cl) (d y mc ms : Nat) (args : List Value) (ci n : Nat) (Z : (Nat → Nat) → Nat → mm_Ce) : Prop :=
  ∀ (N : Nat) (A : Nat → Nat) (C : Nat → mm_Ce) (h : mm_S) (Q : mm_Re → Prop), W_ (N + 1) A (va_up C N (.inr (ci, mm_dfl ci))) h →
    (∀ A2 C2 h2, (∀ j, j < N + 1 → A2 j = A j) → (∀ j, j < N → C2 j = C j) → (∀ j, j < n + 1 → C2 (N + j) = Z (fun t => A2 (N + t)) j) → W_ (N + (n + 1)) A2 C2 h2 → Q (.inl none, h2)) → mm_Run X d y mc ms (.ref (A N) :: args) h Q
theorem ct_call (hX : mm_mono X) {ix : Nat} {As : List Value} {mc ms c2 n : Nat} {Z : (Nat → Nat) → Nat → mm_Ce} (hT : CT_ X d a mc ms As c2 n Z) (cd : mm_cd y = K) (hf : mm_find K pc = some (.invokespecial ix, a, b)) (hb : b / 16 = 6 ∨ b / 16 = 7) (hn : b % 16 ≤ st.length) (hA : (st.take (b % 16)).reverse = As) (hr : st.drop (b % 16) = .ref (A N) :: rest) (hw : mm_wd rest ≤ 8) (hc : mc ≤ c) (hk2 : ms ≤ k)
    (hW : W_ (N + 1) A (va_up (va_up C N (.inr (c2, mm_dfl c2))) i (.inr (ci, fs))) h) (hi : i < N)
    (g : ∀ A2 C2 h2, (∀ j, j < N + 1 → A2 j = A j) → (∀ j, j < N → C2 j = C j) → (∀ j, j < n + 1 → C2 (N + j) = Z (fun t => A2 (N + t)) j) → W_ (N + (n + 1)) A2 (va_up C2 i (.inr (ci, fs))) h2 → mm_Ex (mm_Run X d) y Q (pc + 3, rest, ls, h2) (c - mc) (k - ms)) : mm_Ex (mm_Run X d) y Q (pc, st, ls, h) c k := by
  refine go_cIx hX mc ms cd hf hb hn hA hr hw hc hk2 ?_
  rw [up_comm (by omega)] at hW
  refine hT N A _ h _ hW fun A2 C2 h2 e1 e2 e3 W2 => ?_
  show mm_Ex (mm_Run X d) y Q (pc + 3, [] ++ rest, ls, h2) _ _
  refine g A2 (fun j => if j < N then C j else C2 j) h2 e1 (fun j hj => if_pos hj) (fun j hj => (if_neg (by omega)).trans (e3 j hj)) (W_cg W2 fun j hj => ?_)
  unfold va_up
  by_cases e : j = i
  · rw [if_pos e]
    subst e
    rw [e2 j hi, va_up_self]
  · rw [if_neg e]
    show (if j < N then C j else C2 j) = C2 j
    split
    · next hj2 => rw [e2 j hj2, va_up_ne _ _ e]
    · rfl
theorem ct_mul (hX : mm_mono X) {ix : Nat} {n m : Int32} (n1 m1 : Nat) (cd : mm_cd y = K) (hf : mm_find K pc = some (.multianewarray ix 2, a, b)) (hn : ¬ n < 0) (hm : ¬ m < 0) (en : n.toNatClampNeg = n1) (em : m.toNatClampNeg = m1) (hn6 : n1 ≤ 65536) (hm6 : m1 ≤ 65536) (hc : 1 + n1 ≤ c) (hk : n1 + n1 * m1 ≤ k) (hW : W_ N A (va_up C i (.inr (ci, fs))) h) (hi : i < N)
    (g : ∀ A2 C2 h2, (∀ j, j < N → A2 j = A j) → (∀ j, j < N → C2 j = C j) → C2 N = .inl (8, n1, .inr (.inr (.inr (.inr (aR_ n1 (fun t => A2 (N + 1 + t))))))) → (∀ j, j < n1 → C2 (N + 1 + j) = .inl (0, m1, .inl (fun _ => 0))) → W_ (N + 1 + n1) A2 (va_up C2 i (.inr (ci, fs))) h2 → mm_Ex (mm_Run X d) y Q (pc + 4, .ref (A2 N) :: rest, ls, h2) (c - (1 + n1)) (k - (n1 + n1 * m1))) : mm_Ex (mm_Run X d) y Q (pc, .int m :: .int n :: rest, ls, h) c k := by
  subst en; subst em
  refine mm_Ex_go (mm_Run_mono hX d) ?_
  unfold mm_row1
  dsimp only
  rw [cd, hf]
  show mm_do _ _ _ _ _ _ _ _ _ _ _ _ _
  unfold mm_do
  refine ⟨rfl, hn, hm, hn6, hm6, hc, hk, fun q hq => ?_⟩
  have hne : ∀ j t, j < N → t ≤ n.toNatClampNeg → A j ≠ q + t := fun j t hj ht e => (hq t ht).1 (e ▸ hW.1 j hj)
  have a1 : ∀ j, j < N → (fun j => if j < N then A j else q + (j - N)) j = A j := fun j hj => if_pos hj
  have a2 : ∀ t, (fun j => if j < N then A j else q + (j - N)) (N + t) = q + t := fun t => (if_neg (by omega)).trans (by rw [Nat.add_sub_cancel_left])
  generalize hA2 : (fun j => if j < N then A j else q + (j - N)) = A2 at a1 a2
  have h2 := g A2 (fun j => if j < N then C j else if j = N then .inl (8, n.toNatClampNeg, .inr (.inr (.inr (.inr (aR_ n.toNatClampNeg (fun t => A2 (N + 1 + t))))))) else .inl (0, m.toNatClampNeg, .inl (fun _ => 0))) (mm_mu h q n.toNatClampNeg m.toNatClampNeg) a1 (fun j hj => if_pos hj)
    ((if_neg (by omega)).trans (if_pos rfl)) (fun j hj => (if_neg (by omega)).trans (if_neg (by omega))) ?_
  · have e0 : A2 N = q := a2 0
    rw [e0] at h2
    exact h2
  · have e0 : A2 N = q := a2 0
    have e1 : ∀ t, A2 (N + 1 + t) = q + 1 + t := fun t => by
      have := a2 (1 + t)
      rw [← Nat.add_assoc] at this
      rw [this]
      omega
    refine ⟨fun j hj => ?_, fun j1 j2 h1 h2 e => ?_, fun j hj => ?_⟩
    · by_cases ej : j < N
      · rw [a1 j ej]
        exact List.mem_append_left _ (hW.1 j ej)
      · obtain ⟨t, rfl⟩ := Nat.exists_eq_add_of_le (Nat.not_lt.mp ej)
        rw [a2 t]
        exact List.mem_append_right _ (List.mem_map.mpr ⟨t, List.mem_range.mpr (by omega), rfl⟩)
    · by_cases ej : j1 < N
      · by_cases ej2 : j2 < N
        · rw [a1 j1 ej, a1 j2 ej2] at e
          exact hW.2.1 j1 j2 ej ej2 e
        · obtain ⟨t, rfl⟩ := Nat.exists_eq_add_of_le (Nat.not_lt.mp ej2)
          rw [a1 j1 ej, a2 t] at e
          exact absurd e (hne j1 t ej (by omega))
      · obtain ⟨t, rfl⟩ := Nat.exists_eq_add_of_le (Nat.not_lt.mp ej)
        by_cases ej2 : j2 < N
        · rw [a1 j2 ej2, a2 t] at e
          exact absurd e.symm (hne j2 t ej2 (by omega))
        · obtain ⟨t2, rfl⟩ := Nat.exists_eq_add_of_le (Nat.not_lt.mp ej2)
          rw [a2 t, a2 t2] at e
          omega
    · by_cases ej : j < N
      · rw [a1 j ej, mm_mu_o (fun t ht => hne j t ej ht), hW.2.2 j ej]
        unfold va_up
        by_cases e : j = i
        · rw [if_pos e, if_pos e]
        · rw [if_neg e, if_neg e]
          exact (if_pos ej).symm
      · rw [va_up_ne _ _ (by omega)]
        by_cases ej2 : j = N
        · subst ej2
          rw [e0, mm_mu_0]
          refine Eq.trans ?_ ((if_neg (Nat.lt_irrefl _)).trans (if_pos rfl)).symm
          have : (fun j => if j < n.toNatClampNeg then some (q + 1 + j) else none) = aR_ n.toNatClampNeg (fun t => A2 (j + 1 + t)) := by
            funext t
            unfold aR_
            show _ = if t < n.toNatClampNeg then some (A2 (j + 1 + t)) else none
            rw [e1 t]
          rw [this]
        · obtain ⟨t, rfl⟩ := Nat.exists_eq_add_of_le (show N + 1 ≤ j by omega)
          rw [e1 t, mm_mu_1 (by omega)]
          exact ((if_neg (by omega)).trans (if_neg (by omega))).symm
end CT
