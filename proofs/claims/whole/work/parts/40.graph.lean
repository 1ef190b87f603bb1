/-! ways: walks, distances, and when a row holds the distances -/
def wk_ (E : Nat → Nat → Nat → Prop) (s : Nat) : Nat → Nat → Nat → Prop
  | 0, v, x => v = s ∧ x = 0
  | k + 1, v, x => ∃ u y c, wk_ E s k u y ∧ E u v c ∧ x = y + c
/-- an edge joins two of eight landings and costs from 1 to 80 -/
def ed_ (E : Nat → Nat → Nat → Prop) : Prop := ∀ u v c, E u v c → u < 8 ∧ v < 8 ∧ 1 ≤ c ∧ c ≤ 80
/-- each number is that of a walk, or far -/
def so_ (E : Nat → Nat → Nat → Prop) (s : Nat) (r : Nat → Nat) : Prop := ∀ v, v < 8 → r v = 1000000 ∨ (r v < 1000000 ∧ ∃ k, wk_ E s k v (r v))
def gd_ (E : Nat → Nat → Nat → Prop) (s : Nat) (r : Nat → Nat) : Prop := r s = 0 ∧ (∀ u v c, E u v c → r v ≤ r u + c) ∧ so_ E s r
section GR
variable {E : Nat → Nat → Nat → Prop} {s : Nat} {r r' d : Nat → Nat}
theorem gd_le (hg : gd_ E s r) : ∀ {k v x : Nat}, wk_ E s k v x → r v ≤ x
  | 0, v, x, h => by
    rw [h.1, hg.1]
    exact Nat.zero_le _
  | k + 1, v, x, ⟨u, y, c, h1, h2, h3⟩ => by
    have h4 := gd_le hg h1
    have h5 := hg.2.1 u v c h2
    omega
theorem gd_eq (hg : gd_ E s r) (hr : gd_ E s r') {v : Nat} (hv : v < 8) : r v = r' v := by
  rcases hg.2.2 v hv with a | ⟨a, k, w⟩ <;> rcases hr.2.2 v hv with b | ⟨b, k2, w2⟩
  · rw [a, b]
  · have := gd_le hg w2
    omega
  · have := gd_le hr w
    omega
  · have := gd_le hr w
    have := gd_le hg w2
    omega
/-- a row that is nowhere above the distances holds them -/
theorem so_eq (hd : gd_ E s d) (hr : so_ E s r) (h : ∀ v, v < 8 → d v < 1000000 → r v ≤ d v) {v : Nat} (hv : v < 8) : r v = d v := by
  rcases hr v hv with b | ⟨b, k2, w2⟩
  · rcases hd.2.2 v hv with a | ⟨a, k, w⟩
    · rw [a, b]
    · have := h v hv a
      omega
  · have h1 := gd_le hd w2
    have := h v hv (by omega)
    omega
theorem so_up (hr : so_ E s r) {u v c : Nat} (he : ed_ E) (h : E u v c) : so_ E s (va_up r v (min (r v) (r u + c))) := by
  intro x hx
  by_cases e : x = v
  · rw [e, va_up_self]
    have hu := (he _ _ _ h).1
    by_cases q : r v ≤ r u + c
    · rw [Nat.min_eq_left q]
      exact hr v (e ▸ hx)
    · rw [Nat.min_eq_right (by omega)]
      have hv := hr v (e ▸ hx)
      rcases hr u hu with a | ⟨a, k, w⟩
      · omega
      · exact .inr ⟨by omega, k + 1, u, _, c, w, h, rfl⟩
  · rw [va_up_ne _ _ e]
    exact hr x hx
/-- walks by the landings that they may go over -/
def Q_ (E : Nat → Nat → Nat → Prop) : Nat → Nat → Nat → Nat → Prop
  | 0, i, j, x => (i = j ∧ x = 0) ∨ E i j x
  | k + 1, i, j, x => Q_ E k i j x ∨ ∃ y z, Q_ E k i k y ∧ Q_ E k k j z ∧ x = y + z
theorem Q_to : ∀ {k i y : Nat}, Q_ E (k + 1) i k y → ∃ y2, y2 ≤ y ∧ Q_ E k i k y2
  | k, i, y, .inl h => ⟨y, Nat.le_refl _, h⟩
  | k, i, y, .inr ⟨a, b, h1, h2, h3⟩ => ⟨a, by omega, h1⟩
theorem Q_of : ∀ {k j y : Nat}, Q_ E (k + 1) k j y → ∃ y2, y2 ≤ y ∧ Q_ E k k j y2
  | k, j, y, .inl h => ⟨y, Nat.le_refl _, h⟩
  | k, j, y, .inr ⟨a, b, h1, h2, h3⟩ => ⟨b, by omega, h2⟩
theorem Q_tri : ∀ {k i u j y z : Nat}, u < k → Q_ E k i u y → Q_ E k u j z → ∃ x, x ≤ y + z ∧ Q_ E k i j x
  | 0, i, u, j, y, z, h, _, _ => by omega
  | k + 1, i, u, j, y, z, h, h1, h2 => by
    by_cases e : u = k
    · subst e
      obtain ⟨y2, hy, g1⟩ := Q_to h1
      obtain ⟨z2, hz, g2⟩ := Q_of h2
      exact ⟨y2 + z2, by omega, .inr ⟨_, _, g1, g2, rfl⟩⟩
    · have hu : u < k := by omega
      rcases h1 with h1 | ⟨y1, y2, a1, a2, a3⟩ <;> rcases h2 with h2 | ⟨z1, z2, b1, b2, b3⟩
      · obtain ⟨x, hx, g⟩ := Q_tri hu h1 h2
        exact ⟨x, hx, .inl g⟩
      · obtain ⟨x, hx, g⟩ := Q_tri hu h1 b1
        exact ⟨x + z2, by omega, .inr ⟨_, _, g, b2, rfl⟩⟩
      · obtain ⟨x, hx, g⟩ := Q_tri hu a2 h2
        exact ⟨y1 + x, by omega, .inr ⟨_, _, a1, g, rfl⟩⟩
      · exact ⟨y1 + z2, by omega, .inr ⟨_, _, a1, b2, rfl⟩⟩
theorem Q_up : ∀ {k i j x : Nat}, Q_ E 0 i j x → Q_ E k i j x
  | 0, _, _, _, h => h
  | _ + 1, _, _, _, h => .inl (Q_up h)
theorem Q_wk (he : ed_ E) : ∀ {k v x : Nat}, wk_ E s k v x → ∃ x2, x2 ≤ x ∧ Q_ E 8 s v x2
  | 0, v, x, h => ⟨0, Nat.zero_le _, Q_up (.inl ⟨h.1.symm, rfl⟩)⟩
  | k + 1, v, x, ⟨u, y, c, h1, h2, h3⟩ => by
    obtain ⟨y2, hy, g⟩ := Q_wk he h1
    obtain ⟨x2, hx, g2⟩ := Q_tri (he _ _ _ h2).1 g (Q_up (.inr h2) : Q_ E 8 u v c)
    exact ⟨x2, by omega, g2⟩
theorem wk_cat {t : Nat} : ∀ {m k u v x y : Nat}, wk_ E s k u x → wk_ E u m v y → ∃ z, wk_ E s z v (x + y)
  | 0, k, u, v, x, y, h1, h2 => ⟨k, by rw [h2.1, h2.2]; exact h1⟩
  | m + 1, k, u, v, x, y, h1, ⟨p, q, c, h2, h3, h4⟩ => by
    obtain ⟨z, hz⟩ := wk_cat (t := t) h1 h2
    exact ⟨z + 1, p, x + q, c, hz, h3, by omega⟩
theorem Q_sound : ∀ {k i j x : Nat}, Q_ E k i j x → ∃ m, wk_ E i m j x
  | 0, i, j, x, .inl h => ⟨0, h.1.symm, h.2⟩
  | 0, i, j, x, .inr h => ⟨1, i, 0, x, ⟨rfl, rfl⟩, h, by omega⟩
  | k + 1, i, j, x, .inl h => Q_sound h
  | k + 1, i, j, x, .inr ⟨y, z, h1, h2, h3⟩ => by
    obtain ⟨a, ha⟩ := Q_sound h1
    obtain ⟨b, hb⟩ := Q_sound h2
    rw [h3]
    exact wk_cat (t := 0) ha hb
theorem Q_bound (he : ed_ E) : ∀ {k i j x : Nat}, Q_ E k i j x → x ≤ 80 * 2 ^ k
  | 0, i, j, x, .inl h => by omega
  | 0, i, j, x, .inr h => by
    have := (he _ _ _ h).2.2.2
    omega
  | k + 1, i, j, x, .inl h => by
    have := Q_bound he h
    rw [Nat.pow_succ]
    omega
  | k + 1, i, j, x, .inr ⟨y, z, h1, h2, h3⟩ => by
    have := Q_bound he h1
    have := Q_bound he h2
    rw [Nat.pow_succ]
    omega
theorem Q_sym (hs : ∀ u v c, E u v c → E v u c) : ∀ {k i j x : Nat}, Q_ E k i j x → Q_ E k j i x
  | 0, i, j, x, .inl h => .inl ⟨h.1.symm, h.2⟩
  | 0, i, j, x, .inr h => .inr (hs _ _ _ h)
  | k + 1, i, j, x, .inl h => .inl (Q_sym hs h)
  | k + 1, i, j, x, .inr ⟨y, z, h1, h2, h3⟩ => .inr ⟨z, y, Q_sym hs h2, Q_sym hs h1, by omega⟩
theorem mn_ {P : Nat → Prop} : ∀ {n : Nat}, P n → ∃ m, P m ∧ ∀ y, P y → m ≤ y := by
  intro n
  induction n using Nat.strongRecOn with
  | ind n ih =>
    intro h
    by_cases q : ∃ y, P y ∧ y < n
    · obtain ⟨y, h1, h2⟩ := q
      exact ih y h2 h1
    · exact ⟨n, h, fun y hy => Nat.le_of_not_lt (fun z => q ⟨y, hy, z⟩)⟩
theorem gd_ex (he : ed_ E) : ∃ d, gd_ E s d ∧ ∀ v, d v = 1000000 ∨ (d v ≤ 20480 ∧ Q_ E 8 s v (d v) ∧ ∀ x, Q_ E 8 s v x → d v ≤ x) := by
  have h : ∀ v, ∃ m, (Q_ E 8 s v m ∧ ∀ x, Q_ E 8 s v x → m ≤ x) ∨ (m = 1000000 ∧ ∀ x, ¬ Q_ E 8 s v x) := by
    intro v
    by_cases q : ∃ x, Q_ E 8 s v x
    · obtain ⟨x, hx⟩ := q
      obtain ⟨m, h1, h2⟩ := mn_ (P := fun x => Q_ E 8 s v x) hx
      exact ⟨m, .inl ⟨h1, h2⟩⟩
    · exact ⟨1000000, .inr ⟨rfl, fun x hx => q ⟨x, hx⟩⟩⟩
  obtain ⟨d, hd⟩ := Classical.axiomOfChoice h
  have hb : ∀ v, d v = 1000000 ∨ (d v ≤ 20480 ∧ Q_ E 8 s v (d v) ∧ ∀ x, Q_ E 8 s v x → d v ≤ x) := by
    intro v
    rcases hd v with ⟨h1, h2⟩ | ⟨h1, h2⟩
    · exact .inr ⟨Q_bound he h1, h1, h2⟩
    · exact .inl h1
  refine ⟨d, ⟨?_, ?_, ?_⟩, hb⟩
  · have q0 : Q_ E 8 s s 0 := Q_up (.inl ⟨rfl, rfl⟩)
    rcases hd s with ⟨h1, h2⟩ | ⟨h1, h2⟩
    · have := h2 0 q0
      omega
    · exact absurd q0 (h2 0)
  · intro u v c h1
    rcases hd u with ⟨a1, a2⟩ | ⟨a1, a2⟩
    · obtain ⟨x, hx, q⟩ := Q_tri (he _ _ _ h1).1 a1 (Q_up (.inr h1) : Q_ E 8 u v c)
      rcases hd v with ⟨b1, b2⟩ | ⟨b1, b2⟩
      · have := b2 x q
        omega
      · exact absurd q (b2 x)
    · rcases hb v with b | ⟨b, -⟩
      · omega
      · omega
  · intro v hv
    rcases hb v with b | ⟨b, q, -⟩
    · exact .inl b
    · exact .inr ⟨by omega, Q_sound q⟩
/-- the way back is as long -/
theorem gd_sym (he : ed_ E) (hs : ∀ u v c, E u v c → E v u c) {t : Nat} (hs8 : s < 8) (ht8 : t < 8) {r2 : Nat → Nat} (h1 : gd_ E s r) (h2 : gd_ E t r2) : r t = r2 s := by
  obtain ⟨d, g, hd⟩ := gd_ex (s := s) he
  obtain ⟨d2, g2, hd2⟩ := gd_ex (s := t) he
  rw [gd_eq h1 g ht8, gd_eq h2 g2 hs8]
  rcases hd t with a | ⟨a, q, m⟩ <;> rcases hd2 s with b | ⟨b, q2, m2⟩
  · rw [a, b]
  · obtain ⟨k, w⟩ := Q_sound (Q_sym hs q2)
    have := gd_le g w
    omega
  · obtain ⟨k, w⟩ := Q_sound (Q_sym hs q)
    have := gd_le g2 w
    omega
  · have := m _ (Q_sym hs q2)
    have := m2 _ (Q_sym hs q)
    omega
/-! rounds -/
def cn_ (d : Nat → Nat) (x : Nat) : Nat → Nat
  | 0 => 0
  | m + 1 => cn_ d x m + (if d m < x then 1 else 0)
theorem cn_le {x y : Nat} (h : x ≤ y) : ∀ {m : Nat}, cn_ d x m ≤ cn_ d y m
  | 0 => Nat.le_refl _
  | m + 1 => by
    have := cn_le h (m := m)
    unfold cn_
    split <;> split <;> omega
theorem cn_lt {x y : Nat} (h : x ≤ y) : ∀ {m u : Nat}, u < m → d u < y → ¬ d u < x → cn_ d x m < cn_ d y m
  | 0, u, hu, _, _ => by omega
  | m + 1, u, hu, h1, h2 => by
    have h3 := cn_le (d := d) h (m := m)
    unfold cn_
    by_cases e : u = m
    · subst e
      rw [if_neg h2, if_pos h1]
      omega
    · have := cn_lt h (m := m) (show u < m by omega) h1 h2
      split <;> split <;> omega
theorem cn_m {x : Nat} : ∀ {m : Nat}, cn_ d x m ≤ m
  | 0 => Nat.le_refl _
  | m + 1 => by
    have := cn_m (x := x) (m := m)
    unfold cn_
    split <;> omega
theorem cn_ms {x : Nat} : ∀ {m u : Nat}, u < m → ¬ d u < x → cn_ d x m < m
  | 0, u, hu, _ => by omega
  | m + 1, u, hu, h2 => by
    unfold cn_
    by_cases e : u = m
    · subst e
      rw [if_neg h2]
      have := cn_m (d := d) (x := x) (m := u)
      omega
    · have := cn_ms (m := m) (show u < m by omega) h2
      split <;> omega
/-- the landing before: the distance is that of a landing nearer, and an edge -/
theorem gd_pred (hd : gd_ E s d) (he : ed_ E) {v : Nat} (hv : v < 8) (hf : d v < 1000000) (hs : ¬ v = s) : ∃ u c, E u v c ∧ d v = d u + c ∧ d u < d v := by
  rcases hd.2.2 v hv with a | ⟨a, k, w⟩
  · omega
  · cases k with
    | zero => exact absurd w.1 hs
    | succ k =>
      obtain ⟨u, y, c, h1, h2, h3⟩ := w
      have h4 := gd_le hd h1
      have h5 := hd.2.1 u v c h2
      have h6 := (he _ _ _ h2).2.2.1
      exact ⟨u, c, h2, by omega, by omega⟩
/-- what rounds of relaxing have reached -/
def rk_ (d : Nat → Nat) (k : Nat) (r : Nat → Nat) : Prop := ∀ v, v < 8 → d v < 1000000 → cn_ d (d v) 8 ≤ k → r v ≤ d v
theorem rk_0 (hd : gd_ E s d) (he : ed_ E) (hs : r s = 0) : rk_ d 0 r := by
  intro v hv hf hc
  by_cases e : v = s
  · rw [e, hs]
    exact Nat.zero_le _
  · obtain ⟨u, c, h1, h2, h3⟩ := gd_pred hd he hv hf e
    have := cn_lt (d := d) (Nat.le_of_lt h3) (m := 8) (he _ _ _ h1).1 h3 (Nat.lt_irrefl _)
    omega
theorem rk_s (hd : gd_ E s d) (he : ed_ E) {k : Nat} (h : rk_ d k r) (hm : ∀ v, v < 8 → r' v ≤ r v) (hr : ∀ u v c, E u v c → r' v ≤ r u + c) (hs : r s = 0) (hs8 : s < 8) : rk_ d (k + 1) r' := by
  intro v hv hf hc
  by_cases e : v = s
  · have := hm s hs8
    rw [e]
    omega
  · obtain ⟨u, c, h1, h2, h3⟩ := gd_pred hd he hv hf e
    have h4 := cn_lt (d := d) (Nat.le_of_lt h3) (m := 8) (he _ _ _ h1).1 h3 (Nat.lt_irrefl _)
    have h5 := h u (he _ _ _ h1).1 (by omega) (by omega)
    have h6 := hr u v c h1
    omega
theorem rk_end (hd : gd_ E s d) (hr : so_ E s r) {k : Nat} (hk : 7 ≤ k) (h : rk_ d k r) {v : Nat} (hv : v < 8) : r v = d v :=
  so_eq hd hr (fun v hv hf => h v hv hf (by
    have := cn_ms (d := d) (x := d v) (m := 8) hv (Nat.lt_irrefl _)
    omega)) hv
/-! the nearest first -/
def dj_ (E : Nat → Nat → Nat → Prop) (s : Nat) (d r : Nat → Nat) (D : Nat → Prop) : Prop := so_ E s r ∧ r s = 0 ∧ (∀ v, v < 8 → D v → r v = d v) ∧ ∀ u v c, D u → E u v c → r v ≤ r u + c
theorem dj_low (hd : gd_ E s d) (he : ed_ E) {D : Nat → Prop} (h : dj_ E s d r D) (hs8 : s < 8) {m : Nat} (hm : ∀ v, v < 8 → ¬ D v → m ≤ r v) : ∀ (n v : Nat), d v < n → v < 8 → ¬ D v → d v < 1000000 → m ≤ d v := by
  intro n
  induction n with
  | zero => intro v h1; omega
  | succ n ih =>
    intro v h1 hv hD hf
    by_cases e : v = s
    · have h2 := hm s hs8 (e ▸ hD)
      have h3 := h.2.1
      omega
    · obtain ⟨u, c, g1, g2, g3⟩ := gd_pred hd he hv hf e
      have hu := (he _ _ _ g1).1
      by_cases hu2 : D u
      · have h4 := h.2.2.2 u v c hu2 g1
        have h5 := h.2.2.1 u hu hu2
        have h6 := hm v hv hD
        omega
      · have h4 := ih u (by omega) hu hu2 (by omega)
        omega
theorem so_ge (hd : gd_ E s d) (hr : so_ E s r) {v : Nat} (hv : v < 8) : d v ≤ r v := by
  rcases hr v hv with b | ⟨b, k2, w2⟩
  · rcases hd.2.2 v hv with a | ⟨a, -⟩ <;> omega
  · exact gd_le hd w2
theorem dj_near (hd : gd_ E s d) (he : ed_ E) {D : Nat → Prop} (h : dj_ E s d r D) (hs8 : s < 8) {x : Nat} (hx : x < 8) (hf : r x < 1000000) (hD : ¬ D x) (hm : ∀ v, v < 8 → ¬ D v → r x ≤ r v) : r x = d x := by
  have h1 := so_ge hd h.1 hx
  have h2 := dj_low hd he h hs8 hm (d x + 1) x (by omega) hx hD (by omega)
  omega
theorem dj_end (hd : gd_ E s d) (he : ed_ E) {D : Nat → Prop} (h : dj_ E s d r D) (hs8 : s < 8) (hm : ∀ v, v < 8 → ¬ D v → 1000000 ≤ r v) {v : Nat} (hv : v < 8) : r v = d v := by
  by_cases hD : D v
  · exact h.2.2.1 v hv hD
  · have h1 := hm v hv hD
    have h2 := so_ge hd h.1 hv
    rcases h.1 v hv with a | ⟨a, -⟩
    · by_cases hf : d v < 1000000
      · have := dj_low hd he h hs8 hm (d v + 1) v (by omega) hv hD hf
        omega
      · rcases hd.2.2 v hv with b | ⟨b, -⟩ <;> omega
    · omega
/-- one more is done -/
theorem dj_step (hd : gd_ E s d) {D : Nat → Prop} (h : dj_ E s d r D) {x : Nat} (hx : x < 8) (hrx : r x = d x) (hso : so_ E s r') (hm : ∀ v, v < 8 → r' v ≤ r v) (hs8 : s < 8) (he : ed_ E) (hrel : ∀ v c, E x v c → r' v ≤ r x + c) : dj_ E s d r' (fun v => D v ∨ v = x) := by
  have key : ∀ v, v < 8 → (D v ∨ v = x) → r' v = d v := by
    intro v hv hD
    have h1 := hm v hv
    have h2 := so_ge hd hso hv
    rcases hD with hD | rfl
    · have := h.2.2.1 v hv hD
      omega
    · omega
  refine ⟨hso, ?_, key, ?_⟩
  · have := hm s hs8
    have := h.2.1
    omega
  · intro u v c hD hE
    obtain ⟨hu, hv, -⟩ := he _ _ _ hE
    have h1 := hm v hv
    have h3 := key u hu hD
    rcases hD with hD | rfl
    · have h4 := h.2.2.2 u v c hD hE
      have h5 := h.2.2.1 u hu hD
      omega
    · have := hrel v c hE
      omega
end GR
