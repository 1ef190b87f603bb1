/-! a treaty of the class: sixteen cells -/
def fS_ (f : Nat → Int32) : List Value := [.int (f 0), .int (f 1), .int (f 2), .int (f 3), .int (f 4), .int (f 5), .int (f 6)]
def fG_ (f : Nat → Int32) : List Value := [.int (f 0), .int (f 1), .int (f 2), .int (f 3), .int (f 4)]
def fT_ (l : Nat → Nat) (f : Nat → Int32) : List Value := [.ref (l 1), .ref (l 2), .ref (l 3), .int (f 3), .int (f 4), .int (f 5), .int (f 6), .int (f 7), .int (f 8), .int (f 9)]
def aR_ (n : Nat) (f : Nat → Nat) : Nat → Option Nat := fun k => if k < n then some (f k) else none
def tc_ (l g : Nat → Nat) (w : Nat → Nat → Int32) (i : Nat) : mm_Ce := match i with
  | 0 => .inr (3, fT_ l (w 0))
  | 1 => .inl (5, 2, .inr (.inr (.inr (.inr (aR_ 2 (fun k => l (k + 4)))))))
  | 2 => .inl (0, 8, .inl (w 2))
  | 3 => .inl (6, 10, .inr (.inr (.inr (.inr (aR_ 10 (fun k => l (g k)))))))
  | 4 => .inr (0, fG_ (w 4))
  | 5 => .inr (0, fG_ (w 5))
  | i + 6 => .inr (2, fS_ (w (i + 6)))
def tv_ (l g : Nat → Nat) (w : Nat → Nat → Int32) (h : mm_S) : mm_S := ov_ 16 (tc_ l g w) l h
def w2_ (w : Nat → Nat → Int32) (i k : Nat) (v : Int32) : Nat → Nat → Int32 := fun a b => if a = i ∧ b = k then v else w a b
def si_ (i : Nat) : Prop := 6 ≤ i ∧ i < 16
def gi_ (i : Nat) : Prop := i = 4 ∨ i = 5
theorem tc_S {l g : Nat → Nat} {w : Nat → Nat → Int32} {i : Nat} (hi : si_ i) : tc_ l g w i = .inr (2, fS_ (w i)) := by
  obtain ⟨n, rfl⟩ := Nat.exists_eq_add_of_le' hi.1
  rfl
theorem tc_G {l g : Nat → Nat} {w : Nat → Nat → Int32} {i : Nat} (hi : gi_ i) : tc_ l g w i = .inr (0, fG_ (w i)) := by
  rcases hi with rfl | rfl <;> rfl
theorem tc_w {l g : Nat → Nat} {w w' : Nat → Nat → Int32} {i : Nat} (e : w i = w' i) : tc_ l g w i = tc_ l g w' i := by
  unfold tc_
  split <;> simp only [e]
theorem w2_ne {w : Nat → Nat → Int32} {i k a : Nat} {v : Int32} (e : a ≠ i) : w2_ w i k v a = w a := by
  funext b
  unfold w2_
  rw [if_neg (fun q => e q.1)]
theorem w2_upd {w : Nat → Nat → Int32} {i k : Nat} {v : Int32} : w2_ w i k v i = upd (w i) k v := by
  funext b
  unfold w2_ upd
  by_cases e : b = k
  · rw [if_pos ⟨rfl, e⟩, if_pos e]
  · rw [if_neg (fun q => e q.2), if_neg e]
theorem fit_int (x : Int32) : narrow .int (.int x) = .int x ∧ fits .int (.int x) = true := ⟨vp_nar_int x, rfl⟩
theorem fS_get (f : Nat → Int32) : ∀ k, k < 7 → (fS_ f)[k]? = some (.int (f k)) := by
  intro k hk
  match k, hk with
  | 0, _ | 1, _ | 2, _ | 3, _ | 4, _ | 5, _ | 6, _ => rfl
theorem fS_set (f : Nat → Int32) (v : Int32) : ∀ k, k < 7 → (fS_ f).set k (.int v) = fS_ (upd f k v) := by
  intro k hk
  match k, hk with
  | 0, _ | 1, _ | 2, _ | 3, _ | 4, _ | 5, _ | 6, _ => rfl
theorem fS_fit (v : Int32) : ∀ k, k < 7 → (narrow (mm_fty 2 k) (.int v) = .int v ∧ fits (mm_fty 2 k) (.int v) = true) := by
  intro k hk
  match k, hk with
  | 0, _ | 1, _ | 2, _ | 3, _ | 4, _ | 5, _ | 6, _ => exact fit_int v
theorem fG_get (f : Nat → Int32) : ∀ k, k < 5 → (fG_ f)[k]? = some (.int (f k)) := by
  intro k hk
  match k, hk with
  | 0, _ | 1, _ | 2, _ | 3, _ | 4, _ => rfl
theorem fG_set (f : Nat → Int32) (v : Int32) : ∀ k, k < 5 → (fG_ f).set k (.int v) = fG_ (upd f k v) := by
  intro k hk
  match k, hk with
  | 0, _ | 1, _ | 2, _ | 3, _ | 4, _ => rfl
theorem fG_fit (v : Int32) : ∀ k, k < 5 → (narrow (mm_fty 0 k) (.int v) = .int v ∧ fits (mm_fty 0 k) (.int v) = true) := by
  intro k hk
  match k, hk with
  | 0, _ | 1, _ | 2, _ | 3, _ | 4, _ => exact fit_int v
theorem fT_get (l : Nat → Nat) (f : Nat → Int32) : ∀ k, 3 ≤ k → k < 10 → (fT_ l f)[k]? = some (.int (f k)) := by
  intro k h3 hk
  match k, h3, hk with
  | 3, _, _ | 4, _, _ | 5, _, _ | 6, _, _ | 7, _, _ | 8, _, _ | 9, _, _ => rfl
theorem fT_set (l : Nat → Nat) (f : Nat → Int32) (v : Int32) : ∀ k, 3 ≤ k → k < 10 → (fT_ l f).set k (.int v) = fT_ l (upd f k v) := by
  intro k h3 hk
  match k, h3, hk with
  | 3, _, _ | 4, _, _ | 5, _, _ | 6, _, _ | 7, _, _ | 8, _, _ | 9, _, _ => rfl
theorem fT_fit (v : Int32) : ∀ k, 3 ≤ k → k < 10 → (narrow (mm_fty 3 k) (.int v) = .int v ∧ fits (mm_fty 3 k) (.int v) = true) := by
  intro k h3 hk
  match k, h3, hk with
  | 3, _, _ | 4, _, _ | 5, _, _ | 6, _, _ | 7, _, _ | 8, _, _ | 9, _, _ => exact fit_int v
theorem fx_in_nI {j n : Nat} (h : j < n) (hn : n < 2 ^ 31) : fx_in (nI j) n = true := by
  have h1 := nI_in h hn
  unfold fx_in
  rw [Bool.not_eq_true', Bool.or_eq_false_iff, decide_eq_false_iff_not, decide_eq_false_iff_not]
  exact ⟨fun q => h1 (.inl q), fun q => h1 (.inr q)⟩
section OO
variable {n : Nat} {c : Nat → mm_Ce} {l : Nat → Nat} {h : mm_S} {i : Nat}
theorem ox_obj (hl : ov_L n l h) (hi : i < n) {a : Nat} {fs : List Value} (e : c i = .inr (a, fs)) : fx_obj (ov_ n c l h) (l i) a = some fs := by
  unfold fx_obj
  rw [if_pos (show l i ∈ (ov_ n c l h).1 from hl.1 i hi), ov_at hl hi, e]
  exact if_pos rfl
theorem ox_is (hl : ov_L n l h) (hi : i < n) {a : Nat} {fs : List Value} (e : c i = .inr (a, fs)) : fx_is (ov_ n c l h) (l i) a = some () := by
  unfold fx_is
  rw [ox_obj hl hi e]
  rfl
theorem ox_gI (hl : ov_L n l h) (hi : i < n) {a k : Nat} {fs : List Value} {x : Int32} (e : c i = .inr (a, fs)) (hk : fs[k]? = some (.int x)) : fx_gI (ov_ n c l h) (l i) a k = some x := by
  unfold fx_gI
  rw [ox_obj hl hi e, Option.bind_some, hk]
theorem ox_gL (hl : ov_L n l h) (hi : i < n) {a k : Nat} {fs : List Value} {x : Int64} (e : c i = .inr (a, fs)) (hk : fs[k]? = some (.long x)) : fx_gL (ov_ n c l h) (l i) a k = some x := by
  unfold fx_gL
  rw [ox_obj hl hi e, Option.bind_some, hk]
theorem ox_gR (hl : ov_L n l h) (hi : i < n) {a k : Nat} {fs : List Value} {x : Nat} (e : c i = .inr (a, fs)) (hk : fs[k]? = some (.ref x)) : fx_gR (ov_ n c l h) (l i) a k = some x := by
  unfold fx_gR
  rw [ox_obj hl hi e, Option.bind_some, hk]
theorem ox_pV (hl : ov_L n l h) (hi : i < n) {a k : Nat} {fs : List Value} {v : Value} (e : c i = .inr (a, fs)) (hk : k < fs.length) (hf : narrow (mm_fty a k) v = v ∧ fits (mm_fty a k) v = true) : fx_pV (ov_ n c l h) (l i) a k v = some (ov_ n (va_up c i (.inr (a, fs.set k v))) l h) := by
  unfold fx_pV
  rw [ox_obj hl hi e, Option.bind_some, if_pos ⟨hk, hf⟩, ov_put hl hi]
theorem ox_arI (hl : ov_L n l h) (hi : i < n) {ts : List Nat} {t m : Nat} {f : Nat → Int32} (e : c i = .inl (t, m, .inl f)) (ht : t ∈ ts) : fx_arI (ov_ n c l h) (l i) ts = some (t, m, f) := by
  unfold fx_arI
  rw [if_pos (show l i ∈ (ov_ n c l h).1 from hl.1 i hi), ov_at hl hi, e]
  exact if_pos ht
theorem ox_aI (hl : ov_L n l h) (hi : i < n) {m j : Nat} {f : Nat → Int32} (e : c i = .inl (0, m, .inl f)) (hj : j < m) (hm : m < 2 ^ 31) : fx_aI (ov_ n c l h) (l i) (nI j) = some (f j) := by
  unfold fx_aI
  rw [ox_arI hl hi e List.mem_cons_self, Option.bind_some]
  dsimp only
  rw [if_pos (fx_in_nI hj hm), nI_clamp (by omega)]
theorem ox_sI (hl : ov_L n l h) (hi : i < n) {m j : Nat} {f : Nat → Int32} {x : Int32} (e : c i = .inl (0, m, .inl f)) (hj : j < m) (hm : m < 2 ^ 31) : fx_sI (ov_ n c l h) (l i) (nI j) x = some (ov_ n (va_up c i (.inl (0, m, .inl (upd f j x)))) l h) := by
  unfold fx_sI
  rw [ox_arI hl hi e List.mem_cons_self, Option.bind_some]
  dsimp only
  rw [if_pos (fx_in_nI hj hm), nI_clamp (by omega), ov_put hl hi]
theorem ox_arR (hl : ov_L n l h) (hi : i < n) {t m : Nat} {f : Nat → Option Nat} (e : c i = .inl (t, m, .inr (.inr (.inr (.inr f))))) (ht : 5 ≤ t ∧ t < 9) : fx_arR (ov_ n c l h) (l i) = some (t, m, f) := by
  unfold fx_arR
  rw [if_pos (show l i ∈ (ov_ n c l h).1 from hl.1 i hi), ov_at hl hi, e]
  exact if_pos ht
theorem ox_aR (hl : ov_L n l h) (hi : i < n) {t m j v : Nat} {f : Nat → Option Nat} (e : c i = .inl (t, m, .inr (.inr (.inr (.inr f))))) (ht : 5 ≤ t ∧ t < 9) (hj : j < m) (hm : m < 2 ^ 31) (hv : f j = some v) : fx_aR (ov_ n c l h) (l i) (nI j) = some v := by
  unfold fx_aR
  rw [ox_arR hl hi e ht, Option.bind_some]
  dsimp only
  rw [if_pos (fx_in_nI hj hm), nI_clamp (by omega), hv]
theorem ox_sR (hl : ov_L n l h) (hi : i < n) {t m j z a : Nat} {fs : List Value} {f : Nat → Option Nat} (e : c i = .inl (t, m, .inr (.inr (.inr (.inr f))))) (ht : 5 ≤ t ∧ t < 9) (hj : j < m) (hm : m < 2 ^ 31) (hz : z < n) (ez : c z = .inr (a, fs)) (ha : mm_tyl[t]? = some (.object (mm_C a).1) ∧ a < 8) : fx_sR (ov_ n c l h) (l i) (nI j) (l z) = some (ov_ n (va_up c i (.inl (t, m, .inr (.inr (.inr (.inr (va_up f j (some (l z))))))))) l h) := by
  unfold fx_sR
  rw [ox_arR hl hi e ht, Option.bind_some]
  dsimp only
  rw [if_pos ⟨fx_in_nI hj hm, show l z ∈ (ov_ n c l h).1 from hl.1 z hz⟩, ov_at hl hz, ez]
  dsimp only
  rw [if_pos ha, nI_clamp (by omega), ov_put hl hi]
theorem ox_len (hl : ov_L n l h) (hi : i < n) {t : Nat} {x : Nat × ((Nat → Int32) ⊕ (Nat → Int64) ⊕ (Nat → UInt32) ⊕ (Nat → UInt64) ⊕ (Nat → Option Nat))} (e : c i = .inl (t, x)) (ht : t < 9) : fx_len (ov_ n c l h) (l i) = some (nI x.1) := by
  unfold fx_len
  rw [if_pos (show l i ∈ (ov_ n c l h).1 from hl.1 i hi), ov_at hl hi, e]
  exact if_pos ht
end OO
section TV
variable {l g : Nat → Nat} {w : Nat → Nat → Int32} {h : mm_S} {i k j b : Nat} {v : Int32}
theorem tv_is (hl : ov_L 16 l h) : fx_is (tv_ l g w h) (l 0) 3 = some () := ox_is hl (by decide) rfl
theorem tv_isS (hl : ov_L 16 l h) (hi : si_ i) : fx_is (tv_ l g w h) (l i) 2 = some () := ox_is hl hi.2 (tc_S hi)
theorem gi_lt {i : Nat} (hi : gi_ i) : i < 16 := by rcases hi with rfl | rfl <;> decide
theorem tv_isG (hl : ov_L 16 l h) (hi : gi_ i) : fx_is (tv_ l g w h) (l i) 0 = some () := ox_is hl (gi_lt hi) (tc_G hi)
theorem tv_r0 (hl : ov_L 16 l h) : fx_gR (tv_ l g w h) (l 0) 3 0 = some (l 1) := ox_gR hl (by decide) rfl rfl
theorem tv_r1 (hl : ov_L 16 l h) : fx_gR (tv_ l g w h) (l 0) 3 1 = some (l 2) := ox_gR hl (by decide) rfl rfl
theorem tv_r2 (hl : ov_L 16 l h) : fx_gR (tv_ l g w h) (l 0) 3 2 = some (l 3) := ox_gR hl (by decide) rfl rfl
theorem tv_gN (hl : ov_L 16 l h) (h3 : 3 ≤ k) (hk : k < 10) : fx_gI (tv_ l g w h) (l 0) 3 k = some (w 0 k) := ox_gI hl (by decide) rfl (fT_get l (w 0) k h3 hk)
theorem tv_gG (hl : ov_L 16 l h) (hi : gi_ i) (hk : k < 5) : fx_gI (tv_ l g w h) (l i) 0 k = some (w i k) := ox_gI hl (gi_lt hi) (tc_G hi) (fG_get (w i) k hk)
theorem tv_gS (hl : ov_L 16 l h) (hi : si_ i) (hk : k < 7) : fx_gI (tv_ l g w h) (l i) 2 k = some (w i k) := ox_gI hl hi.2 (tc_S hi) (fS_get (w i) k hk)
theorem tv_aO (hl : ov_L 16 l h) (hk : k < 8) : fx_aI (tv_ l g w h) (l 2) (nI k) = some (w 2 k) := ox_aI hl (by decide) rfl hk (by decide)
theorem tv_aG (hl : ov_L 16 l h) (hk : b < 2) : fx_aR (tv_ l g w h) (l 1) (nI b) = some (l (b + 4)) := ox_aR hl (by decide) rfl (by decide) hk (by decide) (if_pos hk)
theorem tv_aS (hl : ov_L 16 l h) (hk : j < 10) : fx_aR (tv_ l g w h) (l 3) (nI j) = some (l (g j)) := ox_aR hl (by decide) rfl (by decide) hk (by decide) (if_pos hk)
theorem tv_up {i : Nat} {w' : Nat → Nat → Int32} {x : mm_Ce} (hx : x = tc_ l g w' i) (hw : ∀ a, a ≠ i → w a = w' a) : ov_ 16 (va_up (tc_ l g w) i x) l h = tv_ l g w' h := by
  refine ov_ext fun a _ => ?_
  by_cases e : a = i
  · subst e
    rw [va_up_self, hx]
  · rw [va_up_ne _ _ e]
    exact tc_w (hw a e)
theorem tv_pN (hl : ov_L 16 l h) (h3 : 3 ≤ k) (hk : k < 10) : fx_pV (tv_ l g w h) (l 0) 3 k (.int v) = some (tv_ l g (w2_ w 0 k v) h) := by
  unfold tv_
  rw [ox_pV hl (by decide) (show tc_ l g w 0 = .inr (3, fT_ l (w 0)) from rfl) hk (fT_fit v k h3 hk), fT_set l (w 0) v k h3 hk]
  exact congrArg some (tv_up (by rw [← w2_upd]; rfl) (fun a ha => (w2_ne ha).symm))
theorem tv_pG (hl : ov_L 16 l h) (hi : gi_ i) (hk : k < 5) : fx_pV (tv_ l g w h) (l i) 0 k (.int v) = some (tv_ l g (w2_ w i k v) h) := by
  unfold tv_
  rw [ox_pV hl (gi_lt hi) (tc_G hi) hk (fG_fit v k hk), fG_set (w i) v k hk]
  exact congrArg some (tv_up (by rw [tc_G hi, w2_upd]) (fun a ha => (w2_ne ha).symm))
theorem tv_pS (hl : ov_L 16 l h) (hi : si_ i) (hk : k < 7) : fx_pV (tv_ l g w h) (l i) 2 k (.int v) = some (tv_ l g (w2_ w i k v) h) := by
  unfold tv_
  rw [ox_pV hl hi.2 (tc_S hi) hk (fS_fit v k hk), fS_set (w i) v k hk]
  exact congrArg some (tv_up (by rw [tc_S hi, w2_upd]) (fun a ha => (w2_ne ha).symm))
theorem tv_sO (hl : ov_L 16 l h) (hk : k < 8) : fx_sI (tv_ l g w h) (l 2) (nI k) v = some (tv_ l g (w2_ w 2 k v) h) := by
  unfold tv_
  rw [ox_sI hl (by decide) (show tc_ l g w 2 = .inl (0, 8, .inl (w 2)) from rfl) hk (by decide)]
  exact congrArg some (tv_up (by rw [← w2_upd]; rfl) (fun a ha => (w2_ne ha).symm))
theorem tv_sS (hl : ov_L 16 l h) (hj : j < 10) (hi : si_ i) : fx_sR (tv_ l g w h) (l 3) (nI j) (l i) = some (tv_ l (va_up g j i) w h) := by
  unfold tv_
  rw [ox_sR hl (by decide) (show tc_ l g w 3 = .inl (6, 10, .inr (.inr (.inr (.inr (aR_ 10 (fun k => l (g k))))))) from rfl) (by decide) hj (by decide) hi.2 (tc_S hi) ⟨rfl, by decide⟩]
  refine congrArg some (ov_ext fun a _ => ?_)
  by_cases e : a = 3
  · subst e
    rw [va_up_self]
    have e2 : va_up (aR_ 10 (fun k => l (g k))) j (some (l i)) = aR_ 10 (fun k => l (va_up g j i k)) := by
      funext z
      unfold aR_ va_up
      by_cases ez : z = j
      · subst ez
        dsimp only
        rw [if_pos rfl, if_pos hj, if_pos rfl]
      · dsimp only
        rw [if_neg ez, if_neg ez]
    rw [e2]
    rfl
  · rw [va_up_ne _ _ e]
    unfold tc_
    split <;> first | rfl | (exact absurd rfl e)
end TV
