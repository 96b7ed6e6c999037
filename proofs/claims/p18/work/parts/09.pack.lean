def hq_pk : List Int32 → Nat
  | [] => 0
  | t :: L => t.toNatClampNeg + 32 * hq_pk L
theorem hq_p5 (n : Nat) : 2 ^ (5 * (n + 1)) = 32 * 2 ^ (5 * n) := by
  rw [Nat.mul_succ, Nat.pow_add, Nat.mul_comm]
theorem hq_vt_c {t : Int32} (h : hp_vt t) : t.toNatClampNeg < 32 ∧ t = nI t.toNatClampNeg := by
  obtain ⟨j, hj, e⟩ := h
  have hc : (nI j).toNatClampNeg = j := nI_clamp (by omega)
  rw [e, hc]
  exact ⟨hj, rfl⟩
theorem hq_pk_lt : ∀ (A : List Int32), (∀ t, t ∈ A → hp_vt t) → hq_pk A < 2 ^ (5 * A.length) := by
  intro A
  induction A with
  | nil => intro _; exact Nat.one_pos
  | cons t A ih =>
    intro h
    have h1 := ih (fun x hx => h x (List.mem_cons_of_mem t hx))
    have h2 := (hq_vt_c (h t List.mem_cons_self)).1
    show t.toNatClampNeg + 32 * hq_pk A < 2 ^ (5 * (A.length + 1))
    rw [hq_p5]
    omega
theorem hq_pk_app : ∀ (A B : List Int32), hq_pk (A ++ B) = hq_pk A + hq_pk B * 2 ^ (5 * A.length) := by
  intro A B
  induction A with
  | nil => show hq_pk B = 0 + hq_pk B * 1; omega
  | cons t A ih =>
    show t.toNatClampNeg + 32 * hq_pk (A ++ B) = t.toNatClampNeg + 32 * hq_pk A + hq_pk B * 2 ^ (5 * (A.length + 1))
    rw [ih, hq_p5, Nat.mul_left_comm]
    omega
theorem hq_pk_64 {A : List Int32} (h : ∀ t, t ∈ A → hp_vt t) (hl : A.length ≤ 12) : hq_pk A < 2 ^ 64 := Nat.lt_of_lt_of_le (hq_pk_lt A h) (Nat.pow_le_pow_right (by decide) (by omega))
theorem hq_5 (k : Nat) : (5 : Int32) * nI k = nI (5 * k) := pk_mul 5 k
theorem hq_mem_app {A B : List Int32} (hA : ∀ t, t ∈ A → hp_vt t) (hB : ∀ t, t ∈ B → hp_vt t) : ∀ t, t ∈ A ++ B → hp_vt t := by
  intro t ht
  rcases List.mem_append.mp ht with h | h
  · exact hA t h
  · exact hB t h
theorem hq_or {A B : List Int32} {k : Nat} (hk : A.length = k) (hA : ∀ t, t ∈ A → hp_vt t) (hB : ∀ t, t ∈ B → hp_vt t) (hl : A.length + B.length ≤ 12) : lN (hq_pk A) ||| (lN (hq_pk B) <<< ((5 * nI k).toInt64 &&& 63)) = lN (hq_pk (A ++ B)) := by
  subst hk
  have h1 := hq_pk_64 (hq_mem_app hA hB) (by rw [List.length_append]; exact hl)
  rw [hq_pk_app] at h1
  rw [hq_5, wb_shl _ (by omega), g_or' (k := 5 * A.length) rfl (hq_pk_lt A hA) h1, hq_pk_app]
theorem hq_or0 {B : List Int32} (hB : ∀ t, t ∈ B → hp_vt t) (hl : B.length ≤ 12) : lN (hq_pk []) ||| lN (hq_pk B) = lN (hq_pk B) := by
  have h1 := hq_pk_64 hB hl
  have h2 := g_or' (k := 0) (p := 1) (a := 0) (b := hq_pk B) rfl (by decide) (by omega)
  rw [Nat.mul_one, Nat.zero_add] at h2
  exact h2
theorem hq_one {t : Int32} (h : hp_vt t) : t.toInt64 = lN (hq_pk [t]) := by
  obtain ⟨h1, h2⟩ := hq_vt_c h
  have h3 : (nI t.toNatClampNeg).toInt64 = lN t.toNatClampNeg := nI_l (by omega)
  rw [← h2] at h3
  exact h3
theorem hq_or1 {A : List Int32} {t : Int32} {k : Nat} (hk : A.length = k) (hA : ∀ t, t ∈ A → hp_vt t) (ht : hp_vt t) (hl : k < 12) : lN (hq_pk A) ||| (t.toInt64 <<< ((5 * nI k).toInt64 &&& 63)) = lN (hq_pk (A ++ [t])) := by
  rw [hq_one ht]
  refine hq_or hk hA (fun x hx => ?_) ?_
  · rw [List.mem_singleton.mp hx]; exact ht
  · show A.length + 1 ≤ 12
    omega
theorem hq_head {t : Int32} {L : List Int32} (h : ∀ x, x ∈ t :: L → hp_vt x) (hl : (t :: L).length ≤ 12) : (lN (hq_pk (t :: L)) &&& 31).toInt32 = t := by
  obtain ⟨h1, h2⟩ := hq_vt_c (h t List.mem_cons_self)
  have h3 := wb_mask (k := 5) (hq_pk_64 h hl) (by decide)
  have h4 : hq_pk (t :: L) % 2 ^ 5 = t.toNatClampNeg := by
    show (t.toNatClampNeg + 32 * hq_pk L) % 32 = t.toNatClampNeg
    omega
  have h5 : (lN (hq_pk (t :: L)) &&& 31) = lN t.toNatClampNeg := by rw [← h4]; exact h3
  rw [h5, lN_i]
  exact h2.symm
theorem hq_tail {t : Int32} {L : List Int32} (h : ∀ x, x ∈ t :: L → hp_vt x) (hl : (t :: L).length ≤ 12) : ((lN (hq_pk (t :: L))).toUInt64 >>> ((5 : Int32).toInt64.toUInt64 &&& Int64.toUInt64 63)).toInt64 = lN (hq_pk L) := by
  obtain ⟨h1, _⟩ := hq_vt_c (h t List.mem_cons_self)
  have h3 := wb_shr (k := 5) (hq_pk_64 h hl) (by decide)
  have h4 : hq_pk (t :: L) / 2 ^ 5 = hq_pk L := by
    show (t.toNatClampNeg + 32 * hq_pk L) / 32 = hq_pk L
    omega
  rw [h4] at h3
  exact h3
def hq_s (ef : Int64 → Nat → Int64) (pn : Nat → Int32) (ini : Int64) : Nat → Int64
  | 0 => ini
  | i + 1 => ef (hq_s ef pn ini i) (pn i).toNatClampNeg
section
variable {M : Nat} {tk : Nat → Int32} {sb : Nat → List Int32} {ok : Int64 → Nat → Prop} {ef : Int64 → Nat → Int64} {mk : Int64 → Nat → Prop}
theorem hq_rep_c {n dl : Nat} {pn dc pn2 dc2 : Nat → Int32} (h1 : ∀ i, i < n → pn2 i = pn i) (h2 : ∀ i, i < dl → dc2 i = dc i) : ∀ (f : Nat) (L : List Int32) (s : Int64) (pi di : Nat), hq_rep M tk sb ok ef mk n dl pn dc f L s pi di → hq_rep M tk sb ok ef mk n dl pn2 dc2 f L s pi di := by
  intro f
  induction f with
  | zero => intro L s pi di h; exact h
  | succ f ih =>
    intro L s pi di h
    obtain ⟨t, L', e, h⟩ := h
    refine ⟨t, L', e, ?_⟩
    rcases h with ⟨a1, a2, a3, a4, a5⟩ | ⟨a1, a2, m, a3, a4, a5, a6, a7⟩
    · exact Or.inl ⟨a1, a2, (h1 pi a2).trans a3, a4, ih _ _ _ _ a5⟩
    · exact Or.inr ⟨a1, a2, m, a3, (h2 di a2).trans a4, a5, a6, ih _ _ _ _ a7⟩
theorem hq_rep_ok {n dl : Nat} {pn dc : Nat → Int32} {ini : Int64} : ∀ (f : Nat) (L : List Int32) (s : Int64) (pi di : Nat), hq_rep M tk sb ok ef mk n dl pn dc f L s pi di → s = hq_s ef pn ini pi → ∀ i, pi ≤ i → i < n → ok (hq_s ef pn ini i) (pn i).toNatClampNeg := by
  intro f
  induction f with
  | zero =>
    intro L s pi di h _ i h1 h2
    obtain ⟨_, e, _⟩ := h
    omega
  | succ f ih =>
    intro L s pi di h hs i h1 h2
    obtain ⟨t, L', e, h⟩ := h
    rcases h with ⟨a1, a2, a3, a4, a5⟩ | ⟨a1, a2, m, a3, a4, a5, a6, a7⟩
    · by_cases hi : i = pi
      · rw [hi, ← hs, a3]
        exact a4
      · refine ih _ _ _ _ a5 ?_ i (by omega) h2
        show ef s t.toNatClampNeg = ef (hq_s ef pn ini pi) (pn pi).toNatClampNeg
        rw [hs, a3]
    · exact ih _ _ _ _ a7 hs i h1 h2
end
