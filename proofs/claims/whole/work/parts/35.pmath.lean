/-! ===== pouring: sets as numbers, sums, chains ===== -/
def sb (s k : Nat) : Nat := s ||| 1 <<< k
theorem bs_or : ∀ s : Fin 256, ∀ k : Fin 8, nI s.1 ||| (Int32.ofInt 1 <<< (nI k.1 &&& 31)) = nI (sb s.1 k.1) := by decide +kernel
theorem bs_and : ∀ s : Fin 256, ∀ k : Fin 8, (nI s.1 &&& (Int32.ofInt 1 <<< (nI k.1 &&& 31)) = 0) ↔ s.1.testBit k.1 = false := by decide +kernel
theorem bs_shr : ∀ s : Fin 256, ∀ k : Fin 8, (nI s.1 >>> (nI k.1 &&& 31)) &&& Int32.ofInt 1 = nI (if s.1.testBit k.1 = true then 1 else 0) := by decide +kernel
theorem bs_del1 : ∀ s : Fin 256, ∀ k : Fin 8, s.1.testBit k.1 = true → nI s.1 &&& ((Int32.ofInt 1 <<< (nI k.1 &&& 31)) ^^^ Int32.ofInt (-1)) = nI (s.1 - 2 ^ k.1) := by decide +kernel
theorem bs_del0 : ∀ s : Fin 256, ∀ k : Fin 8, s.1.testBit k.1 = false → nI s.1 &&& ((Int32.ofInt 1 <<< (nI k.1 &&& 31)) ^^^ Int32.ofInt (-1)) = nI s.1 := by decide +kernel
theorem bs_pow : ∀ k : Fin 9, Int32.ofInt 1 <<< (nI k.1 &&& 31) = nI (2 ^ k.1) := by decide +kernel
theorem cb_ok : ∀ s : Fin 256, ∀ k : Fin 8, s.1.testBit k.1 = true → 2 ^ k.1 ≤ s.1 ∧ (s.1 - 2 ^ k.1).testBit k.1 = false ∧ sb (s.1 - 2 ^ k.1) k.1 = s.1 := by decide +kernel
theorem sb_ok : ∀ s : Fin 256, ∀ k : Fin 8, s.1.testBit k.1 = false → sb s.1 k.1 = s.1 + 2 ^ k.1 ∧ sb s.1 k.1 < 256 ∧ (sb s.1 k.1).testBit k.1 = true := by decide +kernel
theorem sb_same : ∀ s : Fin 256, ∀ k : Fin 8, s.1.testBit k.1 = true → sb s.1 k.1 = s.1 := by decide +kernel
theorem sb_oth : ∀ s : Fin 256, ∀ k j : Fin 8, j.1 ≠ k.1 → (sb s.1 k.1).testBit j.1 = s.1.testBit j.1 := by decide +kernel
def pc (s : Nat) : Nat := cnt (fun k => s.testBit k) 8
theorem pc_sb : ∀ s : Fin 256, ∀ k : Fin 8, s.1.testBit k.1 = false → pc (sb s.1 k.1) = pc s.1 + 1 := by decide +kernel
theorem pc_0 : pc 0 = 0 := by decide +kernel
/-- sets of the first n moulds -/
theorem hi_bit : ∀ s : Fin 256, ∀ n k : Fin 9, s.1 < 2 ^ n.1 → n.1 ≤ k.1 → s.1.testBit k.1 = false := by decide +kernel
theorem sb_lt : ∀ s : Fin 256, ∀ n k : Fin 9, s.1 < 2 ^ n.1 → k.1 < n.1 → sb s.1 k.1 < 2 ^ n.1 := by decide +kernel
theorem p2_le {n : Nat} (h : n ≤ 8) : 2 ^ n ≤ 256 := Nat.le_trans (Nat.pow_le_pow_right (by omega) h) (by decide)
section BT
variable {s k n : Nat}
theorem b_or8 (hs : s < 256) (hk : k < 8) : nI s ||| (Int32.ofInt 1 <<< (nI k &&& 31)) = nI (sb s k) := bs_or ⟨s, hs⟩ ⟨k, hk⟩
theorem b_and8 (hs : s < 256) (hk : k < 8) : (nI s &&& (Int32.ofInt 1 <<< (nI k &&& 31)) = 0) ↔ s.testBit k = false := bs_and ⟨s, hs⟩ ⟨k, hk⟩
theorem b_shr8 (hs : s < 256) (hk : k < 8) : (nI s >>> (nI k &&& 31)) &&& Int32.ofInt 1 = nI (if s.testBit k = true then 1 else 0) := bs_shr ⟨s, hs⟩ ⟨k, hk⟩
theorem sb_256 (hs : s < 256) (hk : k < 8) : sb s k < 256 := sb_lt ⟨s, hs⟩ ⟨8, by omega⟩ ⟨k, by omega⟩ hs hk
theorem sb_n (hn : n ≤ 8) (hs : s < 2 ^ n) (hk : k < n) : sb s k < 2 ^ n := sb_lt ⟨s, Nat.lt_of_lt_of_le hs (p2_le hn)⟩ ⟨n, by omega⟩ ⟨k, by omega⟩ hs hk
theorem sb_t (hs : s < 256) (hk : k < 8) {j : Nat} (hj : j < 8) : (sb s k).testBit j = (decide (j = k) || s.testBit j) := by
  by_cases e : j = k
  · subst e
    cases hb : s.testBit j with
    | false => rw [(sb_ok ⟨s, hs⟩ ⟨j, hj⟩ hb).2.2]; simp
    | true => rw [sb_same ⟨s, hs⟩ ⟨j, hj⟩ hb, hb]; simp
  · rw [sb_oth ⟨s, hs⟩ ⟨k, hk⟩ ⟨j, hj⟩ e]
    simp [e]
end BT
def sumB (f : Nat → Nat) (s : Nat) : Nat → Nat
  | 0 => 0
  | n + 1 => sumB f s n + (if s.testBit n = true then f n else 0)
theorem sumB_0 {f : Nat → Nat} : ∀ {n : Nat}, sumB f 0 n = 0
  | 0 => rfl
  | n + 1 => by unfold sumB; rw [sumB_0, Nat.zero_testBit]; rfl
theorem sumB_sb {f : Nat → Nat} {s k : Nat} (hs : s < 256) (hk : k < 8) (h : s.testBit k = false) : ∀ {n : Nat}, n ≤ 8 → sumB f (sb s k) n = sumB f s n + (if k < n then f k else 0)
  | 0, _ => by simp [sumB]
  | n + 1, hn => by
    unfold sumB
    rw [sumB_sb hs hk h (by omega), sb_t hs hk (show n < 8 by omega)]
    by_cases e : n = k
    · subst e
      rw [h]
      simp
    · have : (k < n + 1) ↔ (k < n) := by omega
      simp only [e, decide_false, Bool.false_or, this]
      omega
theorem sumB_le {f : Nat → Nat} {B s : Nat} (h : ∀ k, f k ≤ B) : ∀ n, sumB f s n ≤ n * B
  | 0 => by simp [sumB]
  | n + 1 => by
    unfold sumB
    have := sumB_le (s := s) h n
    have := h n
    rw [Nat.succ_mul]
    split <;> omega
/-- what pouring asks: cores C of n moulds, heat H, pounds P -/
abbrev pT : Type := (Nat → Nat) × Nat × Nat × Nat
def fH (C : Nat → Nat) (j : Nat) : Nat := C j + 2
def fP (C : Nat → Nat) (j : Nat) : Nat := 5 * C j + 10
def okS (D : pT) (s k : Nat) : Prop := sumB (fH D.1) s D.2.1 + (700 + 8 * D.1 k) ≤ D.2.2.1 ∧ sumB (fP D.1) s D.2.1 + (5 * D.1 k + 10) ≤ D.2.2.2
def avl (D : pT) (s k : Nat) : Prop := k < D.2.1 ∧ s.testBit k = false ∧ okS D s k
def chn (D : pT) : Nat → List Nat → Prop
  | _, [] => True
  | s, k :: l => avl D s k ∧ chn D (sb s k) l
def setL : Nat → List Nat → Nat
  | s, [] => s
  | s, k :: l => setL (sb s k) l
/-- the most moulds behind a set -/
def isMx (D : pT) (s m : Nat) : Prop := (∃ l, chn D s l ∧ l.length = m) ∧ ∀ l, chn D s l → l.length ≤ m
theorem isMx_u {D : pT} {s a b : Nat} (h1 : isMx D s a) (h2 : isMx D s b) : a = b := by
  obtain ⟨l1, c1, e1⟩ := h1.1
  obtain ⟨l2, c2, e2⟩ := h2.1
  have := h1.2 l2 c2
  have := h2.2 l1 c1
  omega
/-- of the first k moulds as the next one -/
def pmx (D : pT) (s k m : Nat) : Prop := (m = 0 ∨ ∃ j, j < k ∧ avl D s j ∧ ∃ l, chn D (sb s j) l ∧ m = 1 + l.length) ∧ ∀ j, j < k → avl D s j → ∀ l, chn D (sb s j) l → 1 + l.length ≤ m
theorem pmx_0 {D : pT} {s : Nat} : pmx D s 0 0 := ⟨Or.inl rfl, fun j hj => by omega⟩
theorem pmx_n {D : pT} {s k m : Nat} (h : pmx D s k m) (hn : ¬ avl D s k) : pmx D s (k + 1) m := ⟨h.1.imp_right fun ⟨j, hj, q⟩ => ⟨j, by omega, q⟩, fun j hj ha => by
  rcases Nat.lt_or_ge j k with z | z
  · exact h.2 j z ha
  · have : j = k := by omega
    subst this
    exact absurd ha hn⟩
theorem pmx_y {D : pT} {s k m b : Nat} (h : pmx D s k m) (ha : avl D s k) (hb : isMx D (sb s k) b) : pmx D s (k + 1) (max m (1 + b)) := by
  obtain ⟨l, hl, e⟩ := hb.1
  refine ⟨?_, fun j hj ha2 l2 hl2 => ?_⟩
  · rcases Nat.le_total m (1 + b) with q | q
    · rw [Nat.max_eq_right q]
      exact Or.inr ⟨k, by omega, ha, l, hl, by omega⟩
    · rw [Nat.max_eq_left q]
      exact h.1.imp_right fun ⟨j, hj, q⟩ => ⟨j, by omega, q⟩
  · rcases Nat.lt_or_ge j k with z | z
    · exact Nat.le_trans (h.2 j z ha2 l2 hl2) (Nat.le_max_left _ _)
    · have : j = k := by omega
      subst this
      have := hb.2 l2 hl2
      exact Nat.le_trans (by omega) (Nat.le_max_right _ _)
theorem pmx_all {D : pT} {s m : Nat} (h : pmx D s D.2.1 m) : isMx D s m := by
  refine ⟨?_, fun l hl => ?_⟩
  · rcases h.1 with rfl | ⟨j, hj, ha, l, hl, rfl⟩
    · exact ⟨[], trivial, rfl⟩
    · exact ⟨j :: l, ⟨ha, hl⟩, by simp; omega⟩
  · cases l with
    | nil => simp
    | cons j l =>
      have := h.2 j hl.1.1 hl.1 l hl.2
      simp
      omega
theorem isMx_le {D : pT} (hn : D.2.1 ≤ 8) : ∀ (l : List Nat) (s : Nat), s < 256 → chn D s l → pc s + l.length ≤ 8
  | [], s, hs, _ => by
    have : pc s ≤ 8 := cnt_le _ _
    simpa using this
  | k :: l, s, hs, h => by
    have hk : k < 8 := Nat.lt_of_lt_of_le h.1.1 hn
    have h1 := isMx_le hn l (sb s k) (sb_256 hs hk) h.2
    rw [pc_sb ⟨s, hs⟩ ⟨k, hk⟩ h.1.2.1] at h1
    simp only [List.length_cons]
    have : pc (⟨s, hs⟩ : Fin 256).1 = pc s := rfl
    omega
