/-! writing the row -/
def tS_ (T : Nat → Int32) (j k : Nat) (v : Int32) : Nat → Int32 := upd T (34 + 7 * j + k) v
def tG_ (T : Nat → Int32) (b k : Nat) (v : Int32) : Nat → Int32 := upd T (12 + 5 * b + k) v
def tO_ (T : Nat → Int32) (i : Nat) (v : Int32) : Nat → Int32 := upd T (24 + i) v
section WR
variable {T : Nat → Int32} {i j k b i2 j2 k2 b2 m n : Nat} {v x : Int32}
theorem sS_at (hk : k < 7) : sT_ (tS_ T j k v) j k = v := pk_us
theorem sS_ne (hk : k < 7) (hk2 : k2 < 7) (h : ¬ (j2 = j ∧ k2 = k)) : sT_ (tS_ T j k v) j2 k2 = sT_ T j2 k2 := pk_un (by omega)
theorem sG (hb : b < 2) (hk : k < 5) : sT_ (tG_ T b k v) j2 k2 = sT_ T j2 k2 := pk_un (by omega)
theorem sO (hi : i < 8) : sT_ (tO_ T i v) j2 k2 = sT_ T j2 k2 := pk_un (by omega)
theorem sN (hm : m < 12) : sT_ (upd T m v) j2 k2 = sT_ T j2 k2 := pk_un (by omega)
theorem gG_at : gT_ (tG_ T b k v) b k = v := pk_us
theorem gG_ne (hk : k < 5) (hk2 : k2 < 5) (h : ¬ (b2 = b ∧ k2 = k)) : gT_ (tG_ T b k v) b2 k2 = gT_ T b2 k2 := pk_un (by omega)
theorem gS (hb : b2 < 2) (hk : k2 < 5) : gT_ (tS_ T j k v) b2 k2 = gT_ T b2 k2 := pk_un (by omega)
theorem gO (hb : b2 < 2) (hk : k2 < 5) : gT_ (tO_ T i v) b2 k2 = gT_ T b2 k2 := pk_un (by omega)
theorem gN (hm : m < 12) : gT_ (upd T m v) b2 k2 = gT_ T b2 k2 := pk_un (by omega)
theorem oO_at : oT_ (tO_ T i v) i = v := pk_us
theorem oO_ne (h : ¬ i2 = i) : oT_ (tO_ T i v) i2 = oT_ T i2 := pk_un (by omega)
theorem oS (hi : i2 < 8) : oT_ (tS_ T j k v) i2 = oT_ T i2 := pk_un (by omega)
theorem oG (hb : b < 2) (hk : k < 5) : oT_ (tG_ T b k v) i2 = oT_ T i2 := pk_un (by omega)
theorem oN (hm : m < 12) : oT_ (upd T m v) i2 = oT_ T i2 := pk_un (by omega)
theorem nS (hi : i < 12) : (tS_ T j k v) i = T i := pk_un (by omega)
theorem nG (hi : i < 12) : (tG_ T b k v) i = T i := pk_un (by omega)
theorem nO (hi : i < 12) : (tO_ T i2 v) i = T i := pk_un (by omega)
end WR
section RW
variable {l g : Nat → Nat} {w : Nat → Nat → Int32} {h : mm_S} {i k j b n : Nat} {v : Int32} {T : Nat → Int32}
theorem w2_at {w : Nat → Nat → Int32} {i k : Nat} {v : Int32} : w2_ w i k v i k = v := if_pos ⟨rfl, rfl⟩
theorem w2_n2 {w : Nat → Nat → Int32} {i k a c : Nat} {v : Int32} (e : ¬ (a = i ∧ c = k)) : w2_ w i k v a c = w a c := if_neg e
theorem R_pS (R : R_ g w T n) (hj : j < n) (hk : k < 7) (v : Int32) : R_ g (w2_ w (g j) k v) (tS_ T j k v) n := by
  have hs := R_si R hj
  unfold si_ at hs
  have hn := R_n R
  obtain ⟨R1, ⟨a0, a1, a2, a3, a4, a5, a6, a7⟩, R3, R4, R5, R6, R7⟩ := R
  have hz : ∀ c, w2_ w (g j) k v 0 c = w 0 c := fun c => w2_n2 (by omega)
  refine ⟨R1, ⟨?_, ?_, ?_, ?_, ?_, ?_, ?_, ?_⟩, ?_, ?_, ?_, R6, R7⟩
  · rw [nS (by decide)]; exact a0
  · rw [hz]; exact a1
  · rw [hz, nS (by decide)]; exact a2
  · rw [hz, nS (by decide)]; exact a3
  · rw [hz, nS (by decide)]; exact a4
  · rw [hz, nS (by decide)]; exact a5
  · rw [hz, nS (by decide)]; exact a6
  · rw [hz, nS (by decide)]; exact a7
  · intro c hc
    rw [w2_n2 (by omega), oS hc]
    exact R3 c hc
  · intro b c hb hc
    rw [w2_n2 (by omega), gS hb hc]
    exact R4 b c hb hc
  · intro j2 c hj2 hc
    by_cases e : j2 = j ∧ c = k
    · rw [e.1, e.2, w2_at, sS_at hk]
    · rw [sS_ne hk hc e, w2_n2 (fun q => e ⟨R7 _ _ (by omega) (by omega) q.1, q.2⟩)]
      exact R5 j2 c hj2 hc
theorem R_pG (R : R_ g w T n) (hb : b < 2) (hk : k < 5) (v : Int32) : R_ g (w2_ w (b + 4) k v) (tG_ T b k v) n := by
  have hn := R_n R
  obtain ⟨R1, ⟨a0, a1, a2, a3, a4, a5, a6, a7⟩, R3, R4, R5, R6, R7⟩ := R
  have hz : ∀ c, w2_ w (b + 4) k v 0 c = w 0 c := fun c => w2_n2 (by omega)
  refine ⟨R1, ⟨?_, ?_, ?_, ?_, ?_, ?_, ?_, ?_⟩, ?_, ?_, ?_, R6, R7⟩
  · rw [nG (by decide)]; exact a0
  · rw [hz]; exact a1
  · rw [hz, nG (by decide)]; exact a2
  · rw [hz, nG (by decide)]; exact a3
  · rw [hz, nG (by decide)]; exact a4
  · rw [hz, nG (by decide)]; exact a5
  · rw [hz, nG (by decide)]; exact a6
  · rw [hz, nG (by decide)]; exact a7
  · intro c hc
    rw [w2_n2 (by omega), oG hb hk]
    exact R3 c hc
  · intro b2 c hb2 hc
    by_cases e : b2 = b ∧ c = k
    · rw [e.1, e.2, w2_at, gG_at]
    · rw [gG_ne hk hc e, w2_n2 (by omega)]
      exact R4 b2 c hb2 hc
  · intro j2 c hj2 hc
    have hs := R6 j2 (by omega)
    unfold si_ at hs
    rw [sG hb hk, w2_n2 (by omega)]
    exact R5 j2 c hj2 hc
theorem R_pO (R : R_ g w T n) (hk : k < 8) (v : Int32) : R_ g (w2_ w 2 k v) (tO_ T k v) n := by
  have hn := R_n R
  obtain ⟨R1, ⟨a0, a1, a2, a3, a4, a5, a6, a7⟩, R3, R4, R5, R6, R7⟩ := R
  have hz : ∀ c, w2_ w 2 k v 0 c = w 0 c := fun c => w2_n2 (by omega)
  refine ⟨R1, ⟨?_, ?_, ?_, ?_, ?_, ?_, ?_, ?_⟩, ?_, ?_, ?_, R6, R7⟩
  · rw [nO (by decide)]; exact a0
  · rw [hz]; exact a1
  · rw [hz, nO (by decide)]; exact a2
  · rw [hz, nO (by decide)]; exact a3
  · rw [hz, nO (by decide)]; exact a4
  · rw [hz, nO (by decide)]; exact a5
  · rw [hz, nO (by decide)]; exact a6
  · rw [hz, nO (by decide)]; exact a7
  · intro c hc
    by_cases e : c = k
    · rw [e, w2_at, oO_at]
    · rw [oO_ne e, w2_n2 (by omega)]
      exact R3 c hc
  · intro b2 c hb2 hc
    rw [gO hb2 hc, w2_n2 (by omega)]
    exact R4 b2 c hb2 hc
  · intro j2 c hj2 hc
    have hs := R6 j2 (by omega)
    unfold si_ at hs
    rw [sO hk, w2_n2 (by omega)]
    exact R5 j2 c hj2 hc
/-- the numbers of the treaty: the class's place k, the row's place m -/
def nk_ (k m : Nat) : Prop := (k = 4 ∧ m = 1) ∨ (k = 5 ∧ m = 3) ∨ (k = 6 ∧ m = 2) ∨ (k = 7 ∧ m = 5) ∨ (k = 8 ∧ m = 8) ∨ (k = 9 ∧ m = 9)
theorem R_pN {m : Nat} (R : R_ g w T n) (hk : nk_ k m) (v : Int32) : R_ g (w2_ w 0 k v) (upd T m v) n := by
  have hn := R_n R
  unfold nk_ at hk
  obtain ⟨R1, ⟨a0, a1, a2, a3, a4, a5, a6, a7⟩, R3, R4, R5, R6, R7⟩ := R
  have key : ∀ c d, nk_ c d → w 0 c = T d → w2_ w 0 k v 0 c = upd T m v d := by
    intro c d hc e
    unfold nk_ at hc
    by_cases e2 : c = k
    · have e3 : d = m := by omega
      rw [e2, e3, w2_at, pk_us]
    · rw [w2_n2 (by omega), pk_un (by omega), e]
  refine ⟨R1, ⟨?_, ?_, key 4 1 (by unfold nk_; omega) a2, key 5 3 (by unfold nk_; omega) a3, key 6 2 (by unfold nk_; omega) a4, key 7 5 (by unfold nk_; omega) a5, key 8 8 (by unfold nk_; omega) a6, key 9 9 (by unfold nk_; omega) a7⟩, ?_, ?_, ?_, R6, R7⟩
  · rw [pk_un (by omega)]; exact a0
  · rw [w2_n2 (by omega)]; exact a1
  · intro c hc
    rw [w2_n2 (by omega), oN (by omega)]
    exact R3 c hc
  · intro b2 c hb2 hc
    rw [gN (by omega), w2_n2 (by omega)]
    exact R4 b2 c hb2 hc
  · intro j2 c hj2 hc
    have hs := R6 j2 (by omega)
    unfold si_ at hs
    rw [sN (by omega), w2_n2 (by omega)]
    exact R5 j2 c hj2 hc
theorem R_px {m : Nat} (R : R_ g w T n) (hm : m = 4 ∨ m = 6 ∨ m = 7) (v : Int32) : R_ g w (upd T m v) n := by
  obtain ⟨R1, ⟨a0, a1, a2, a3, a4, a5, a6, a7⟩, R3, R4, R5, R6, R7⟩ := R
  refine ⟨R1, ⟨?_, a1, ?_, ?_, ?_, ?_, ?_, ?_⟩, ?_, ?_, ?_, R6, R7⟩
  · rw [pk_un (by omega)]; exact a0
  · rw [pk_un (by omega)]; exact a2
  · rw [pk_un (by omega)]; exact a3
  · rw [pk_un (by omega)]; exact a4
  · rw [pk_un (by omega)]; exact a5
  · rw [pk_un (by omega)]; exact a6
  · rw [pk_un (by omega)]; exact a7
  · intro c hc
    rw [oN (by omega)]
    exact R3 c hc
  · intro b2 c hb2 hc
    rw [gN (by omega)]
    exact R4 b2 c hb2 hc
  · intro j2 c hj2 hc
    rw [sN (by omega)]
    exact R5 j2 c hj2 hc
end RW
