section
theorem pk_us {f : Nat → Int32} {k : Nat} {x : Int32} : upd f k x k = x := if_pos rfl
theorem pk_un {f : Nat → Int32} {k j : Nat} {x : Int32} (h : j ≠ k) : upd f k x j = f j := if_neg h
theorem pk_uLs {f : Nat → Int64} {k : Nat} {x : Int64} : vp_updL f k x k = x := if_pos rfl
theorem pk_uLn {f : Nat → Int64} {k j : Nat} {x : Int64} (h : j ≠ k) : vp_updL f k x j = f j := if_neg h
theorem pk_sub {a b : Nat} (h : b ≤ a) : nI a - nI b = nI (a - b) := by
  obtain ⟨c, rfl⟩ : ∃ c, a = c + b := ⟨a - b, by omega⟩
  rw [← nI_add, Int32.add_sub_cancel, Nat.add_sub_cancel]
theorem pk_m1 (n : Nat) : nI (n + 1) + (-1) = nI n := by
  rw [← nI_1, Int32.add_assoc, show (1 : Int32) + (-1) = 0 from rfl, Int32.add_zero]
theorem pk_mul (a b : Nat) : nI a * nI b = nI (a * b) := (Int32.ofNat_mul a b).symm
theorem pk_ix (x : Int32) {n : Nat} (hn : n < 2 ^ 31) : x < 0 ∨ nI n ≤ x ∨ ∃ j : Nat, j < n ∧ x = nI j := by
  by_cases h : x < 0
  · exact Or.inl h
  · obtain ⟨j, hj, rfl⟩ := nI_of h
    by_cases h2 : j < n
    · exact Or.inr (Or.inr ⟨j, h2, rfl⟩)
    · exact Or.inr (Or.inl (nI_le (by omega) hj))
theorem pk_le {x y : Int32} {A B : Prop} (a b : Nat) (f : a ≤ b → A) (g : b < a → B) (hx : x = nI a := by rfl) (hy : y = nI b := by rfl) (ha : a < 2 ^ 31 := by omega) (hb : b < 2 ^ 31 := by omega) : (x ≤ y → A) ∧ (¬ x ≤ y → B) := by
  subst hx hy
  rw [nI_leI ha hb]
  exact ⟨f, fun z => g (by omega)⟩
theorem pk_lt {x y : Int32} {A B : Prop} (a b : Nat) (f : a < b → A) (g : b ≤ a → B) (hx : x = nI a := by rfl) (hy : y = nI b := by rfl) (ha : a < 2 ^ 31 := by omega) (hb : b < 2 ^ 31 := by omega) : (x < y → A) ∧ (¬ x < y → B) := by
  subst hx hy
  rw [nI_ltI ha hb]
  exact ⟨f, fun z => g (by omega)⟩
theorem pk_eq {x y : Int32} {A B : Prop} (a b : Nat) (f : a = b → A) (g : a ≠ b → B) (hx : x = nI a := by rfl) (hy : y = nI b := by rfl) (ha : a < 2 ^ 31 := by omega) (hb : b < 2 ^ 31 := by omega) : (x = y → A) ∧ (¬ x = y → B) := by
  subst hx hy
  rw [nI_eq ha hb]
  exact ⟨f, g⟩
theorem pk_in {x : Int32} (n N : Nat) (h : n < N) (hx : x = nI n := by rfl) (hN : N < 2 ^ 31 := by omega) : vp_in x N := by
  subst hx
  exact vp_in_nI h hN
theorem pk_cl {x : Int32} (n : Nat) (hx : x = nI n := by rfl) (h : n < 2 ^ 31 := by omega) : x.toNatClampNeg = n := by
  subst hx
  exact nI_clamp h
theorem pk_least (P : Nat → Prop) (h : ∃ k, P k) : ∃ k, P k ∧ ∀ j, j < k → ¬ P j := by
  obtain ⟨k, hk⟩ := h
  induction k using Nat.strongRecOn with
  | ind k ih =>
    by_cases e : ∃ j, j < k ∧ P j
    · obtain ⟨j, hj, pj⟩ := e
      exact ih j hj pj
    · exact ⟨k, hk, fun j hj pj => e ⟨j, hj, pj⟩⟩
end
section
theorem hp_16 : nI 16 = 16 := by decide +kernel
def hp_vt (t : Int32) : Prop := ∃ j : Nat, j < 32 ∧ t = nI j
def hp_hd (L : List Int32) : Prop := ∃ t L', L = t :: L' ∧ ¬ t < 16
def hp_nb (N : Nat) (a : Nat → Int32) : Prop := ∀ i, ∃ m : Nat, m < N ∧ a i = nI m
def hp_up {α : Type} (f : Nat → α) (k : Nat) (x : α) : Nat → α := fun j => if j = k then x else f j
theorem hp_us {α : Type} {f : Nat → α} {k : Nat} {x : α} : hp_up f k x k = x := if_pos rfl
theorem hp_un {α : Type} {f : Nat → α} {k j : Nat} {x : α} (h : j ≠ k) : hp_up f k x j = f j := if_neg h
theorem hp_nb_u {N : Nat} {a : Nat → Int32} (h : hp_nb N a) (k : Nat) {x : Int32} (hx : ∃ m : Nat, m < N ∧ x = nI m) : hp_nb N (upd a k x) := by
  intro i
  by_cases e : i = k
  · rw [e, pk_us]; exact hx
  · rw [pk_un e]; exact h i
theorem hp_nb_c {N : Nat} {a : Nat → Int32} (h : hp_nb N a) (hN : N ≤ 32) (i : Nat) : (a i).toNatClampNeg < N ∧ a i = nI (a i).toNatClampNeg := by
  obtain ⟨m, hm, e⟩ := h i
  have hc : (nI m).toNatClampNeg = m := nI_clamp (by omega)
  rw [e, hc]
  exact ⟨hm, rfl⟩
theorem hp_vt_lt {t : Int32} (h : hp_vt t) (h16 : t < 16) : ∃ j : Nat, j < 16 ∧ t = nI j := by
  obtain ⟨j, hj, rfl⟩ := h
  rw [← hp_16, nI_ltI (by omega) (by omega)] at h16
  exact ⟨j, h16, rfl⟩
def hp_sl (g : Nat → Int32) : Nat → Nat → List Int32
  | _, 0 => []
  | k, n + 1 => g k :: hp_sl g (k + 1) n
theorem hp_sl_len (g : Nat → Int32) : ∀ n k : Nat, (hp_sl g k n).length = n := by
  intro n
  induction n with
  | zero => intro k; rfl
  | succ n ih => intro k; show (hp_sl g (k + 1) n).length + 1 = n + 1; rw [ih]
theorem hp_sl_mem {g : Nat → Int32} (h : ∀ i, hp_vt (g i)) : ∀ (n k : Nat) (t : Int32), t ∈ hp_sl g k n → hp_vt t := by
  intro n
  induction n with
  | zero => intro k t ht; exact absurd ht List.not_mem_nil
  | succ n ih =>
    intro k t ht
    rcases List.mem_cons.mp (show t ∈ g k :: hp_sl g (k + 1) n from ht) with e | e
    · rw [e]; exact h k
    · exact ih (k + 1) t e
def hp_ar (a : Nat → Int32) : Nat → List Int32 → Prop
  | _, [] => True
  | o, t :: L => a o = t ∧ hp_ar a (o + 1) L
theorem hp_ar_eq {a a' : Nat → Int32} : ∀ (L : List Int32) (o o' : Nat), (∀ j, j < L.length → a' (o' + j) = a (o + j)) → hp_ar a o L → hp_ar a' o' L := by
  intro L
  induction L with
  | nil => intro o o' h ha; trivial
  | cons t L ih =>
    intro o o' h ha
    obtain ⟨e, ha⟩ := ha
    refine ⟨(h 0 (Nat.succ_pos _)).trans e, ih (o + 1) (o' + 1) (fun j hj => ?_) ha⟩
    have := h (j + 1) (Nat.succ_lt_succ hj)
    rw [show o' + 1 + j = o' + (j + 1) by omega, show o + 1 + j = o + (j + 1) by omega]
    exact this
theorem hp_ar_app {a : Nat → Int32} : ∀ (L1 L2 : List Int32) (o : Nat), hp_ar a o L1 → hp_ar a (o + L1.length) L2 → hp_ar a o (L1 ++ L2) := by
  intro L1
  induction L1 with
  | nil => intro L2 o _ h; exact h
  | cons t L1 ih =>
    intro L2 o h1 h2
    obtain ⟨e, h1⟩ := h1
    refine ⟨e, ih L2 (o + 1) h1 ?_⟩
    rw [List.length_cons] at h2
    rw [show o + 1 + L1.length = o + (L1.length + 1) by omega]
    exact h2
theorem hp_ar_sl {a g : Nat → Int32} : ∀ n o k : Nat, (∀ j, j < n → a (o + j) = g (k + j)) → hp_ar a o (hp_sl g k n) := by
  intro n
  induction n with
  | zero => intro o k _; trivial
  | succ n ih =>
    intro o k h
    refine ⟨h 0 (Nat.succ_pos _), ih (o + 1) (k + 1) (fun j hj => ?_)⟩
    have := h (j + 1) (Nat.succ_lt_succ hj)
    rw [show o + 1 + j = o + (j + 1) by omega, show k + 1 + j = k + (j + 1) by omega]
    exact this
def hp_ch (P : Nat → Prop) (ct cn : Nat → Int32) : Int32 → List Int32 → Prop
  | c, [] => c = -1
  | c, t :: L => ∃ j : Nat, P j ∧ j < 72 ∧ c = nI j ∧ ct j = t ∧ hp_ch P ct cn (cn j) L
theorem hp_ch_w {P Q : Nat → Prop} {ct cn ct' cn' : Nat → Int32} (hk : ∀ j, P j → Q j ∧ ct' j = ct j ∧ cn' j = cn j) : ∀ (L : List Int32) (c : Int32), hp_ch P ct cn c L → hp_ch Q ct' cn' c L := by
  intro L
  induction L with
  | nil => intro c h; exact h
  | cons t L ih =>
    intro c h
    obtain ⟨j, hP, hj, hc, ht, hr⟩ := h
    obtain ⟨hQ, e1, e2⟩ := hk j hP
    refine ⟨j, hQ, hj, hc, e1.trans ht, ?_⟩
    rw [e2]
    exact ih (cn j) hr
theorem hp_ch_put {P Q : Nat → Prop} {ct cn : Nat → Int32} {c t : Int32} {L : List Int32} {k : Nat} (h : hp_ch P ct cn c L) (hk : ¬ P k) (hQ : ∀ j, P j → Q j) (hQk : Q k) (h72 : k < 72) : hp_ch Q (upd ct k t) (upd cn k c) (nI k) (t :: L) := by
  refine ⟨k, hQk, h72, rfl, pk_us, ?_⟩
  rw [pk_us]
  refine hp_ch_w (fun j hj => ?_) L c h
  have hn : j ≠ k := fun e => hk (e ▸ hj)
  exact ⟨hQ j hj, pk_un hn, pk_un hn⟩
def hp_X1 (ct cn sc : Nat → Int32) (ss : Nat → Int64) (sp : Nat → Int32) (i : Nat) (L : List Int32) (s : Int64) (pl : Nat) : Prop :=
  ss i = s ∧ sp i = nI pl ∧ hp_ch (fun j => j < 8 + 4 * i) ct cn (sc i) L
def hp_Y1 (fS : Nat → Int64) (fP fT fX fN fL : Nat → Int32) (i : Nat) (L : List Int32) (s : Int64) (pl nm : Nat) : Prop :=
  fS i = s ∧ fP i = nI pl ∧ (∃ t L', L = t :: L' ∧ fT i = t) ∧ fX i = nI nm ∧ fN i = nI L.length ∧ hp_ar fL (i * 64) L
end
section
abbrev hp_R : Type := Int32 × Nat × Nat × Nat × (Nat → Int32) × (Nat → Int32)
abbrev hp_G : Type := hp_R → Nat → List Int32 → Int64 → Nat → Nat → Nat → Nat → (Nat → List Int32) → (Nat → Int64) → (Nat → Nat) → (Nat → Int32) → (Nat → Int32) → Prop
def hp_RG (B : Nat) (R : hp_R) : Prop := R.2.1 ≤ 32 ∧ R.2.2.1 ≤ 16 ∧ R.2.2.2.1 ≤ B ∧ hp_nb 16 R.2.2.2.2.1 ∧ hp_nb 32 R.2.2.2.2.2
def hp_fs (tk : Nat → Int32) (t : Int32) (nm m : Nat) : Prop := nm ≤ m ∧ tk m = t ∧ ∀ j, nm ≤ j → j < m → tk j ≠ t
def hp_WF (B D : Nat) (L : List Int32) (pl nm e d : Nat) (FL : Nat → List Int32) (FP : Nat → Nat) (pn dc : Nat → Int32) : Prop :=
  ((∀ t, t ∈ L → hp_vt t) ∧ L.length ≤ 8 + 3 * d ∧ (nm ≠ 0 → hp_hd L)) ∧ (pl ≤ 32 ∧ nm ≤ 32 ∧ e ≤ B ∧ d ≤ D) ∧
  (∀ i, i < d → (∀ t, t ∈ FL i → hp_vt t) ∧ (FL i).length ≤ 8 + 3 * i ∧ hp_hd (FL i) ∧ FP i ≤ 32) ∧ hp_nb 16 pn ∧ hp_nb 32 dc
theorem hp_wf_nm {B D : Nat} {t : Int32} {L : List Int32} {pl nm e d : Nat} {FL : Nat → List Int32} {FP : Nat → Nat} {pn dc : Nat → Int32} (h : hp_WF B D (t :: L) pl nm e d FL FP pn dc) (h16 : t < 16) : nm = 0 := by
  obtain ⟨⟨w1, w2, w3⟩, ⟨w4, w5, w6, w7⟩, w8, w9, w10⟩ := h
  by_cases hn : nm = 0
  · exact hn
  · obtain ⟨t', L', he, hn'⟩ := w3 hn
    injection he with h1 h2
    rw [h1] at h16
    exact absurd h16 hn'
theorem hp_wf_op {B D : Nat} {t : Int32} {L : List Int32} {pl nm e d : Nat} {FL : Nat → List Int32} {FP : Nat → Nat} {pn dc : Nat → Int32} (h : hp_WF B D (t :: L) pl nm e d FL FP pn dc) (h16 : t < 16) (he : e < B) (hp : pl < 32) : hp_WF B D L (pl + 1) nm (e + 1) d FL FP (upd pn pl t) dc := by
  have hn := hp_wf_nm h h16
  obtain ⟨⟨w1, w2, w3⟩, ⟨w4, w5, w6, w7⟩, w8, w9, w10⟩ := h
  rw [List.length_cons] at w2
  refine ⟨⟨fun x hx => w1 x (List.mem_cons_of_mem t hx), by omega, fun z => absurd hn z⟩, ⟨by omega, w5, by omega, w7⟩, w8, hp_nb_u w9 pl (hp_vt_lt (w1 t List.mem_cons_self) h16), w10⟩
theorem hp_wf_back {B D : Nat} {L : List Int32} {pl nm e e' d : Nat} {FL : Nat → List Int32} {FP : Nat → Nat} {pn dc : Nat → Int32} (h : hp_WF B D L pl nm e (d + 1) FL FP pn dc) (he : e' ≤ B) : hp_WF B D (FL d) (FP d) ((dc d).toNatClampNeg + 1) e' d FL FP pn dc := by
  obtain ⟨⟨w1, w2, w3⟩, ⟨w4, w5, w6, w7⟩, w8, w9, w10⟩ := h
  obtain ⟨f1, f2, f3, f4⟩ := w8 d (Nat.lt_succ_self d)
  have hc := (hp_nb_c w10 (Nat.le_refl 32) d).1
  exact ⟨⟨f1, f2, fun _ => f3⟩, ⟨f4, by omega, he, by omega⟩, fun i hi => w8 i (by omega), w9, w10⟩
theorem hp_wf_app {B D : Nat} {t : Int32} {L S : List Int32} {pl nm e d m : Nat} {FL : Nat → List Int32} {FP : Nat → Nat} {pn dc : Nat → Int32} (h : hp_WF B D (t :: L) pl nm e d FL FP pn dc) (h16 : ¬ t < 16) (he : e < B) (hd : d < D) (hm : m < 32) (hS : ∀ x, x ∈ S → hp_vt x) (hS4 : S.length ≤ 4) : hp_WF B D (S ++ L) pl 0 (e + 1) (d + 1) (hp_up FL d (t :: L)) (hp_up FP d pl) pn (upd dc d (nI m)) := by
  obtain ⟨⟨w1, w2, w3⟩, ⟨w4, w5, w6, w7⟩, w8, w9, w10⟩ := h
  have w2' := w2
  rw [List.length_cons] at w2'
  refine ⟨⟨fun x hx => ?_, ?_, fun z => absurd rfl z⟩, ⟨w4, by omega, by omega, by omega⟩, fun i hi => ?_, w9, hp_nb_u w10 d ⟨m, hm, rfl⟩⟩
  · rcases List.mem_append.mp hx with hx | hx
    · exact hS x hx
    · exact w1 x (List.mem_cons_of_mem t hx)
  · rw [List.length_append]; omega
  · by_cases hid : i = d
    · rw [hid, hp_us, hp_us]
      exact ⟨w1, w2, ⟨t, L, rfl, h16⟩, w4⟩
    · rw [hp_un hid, hp_un hid]
      exact w8 i (by omega)
theorem hp_wf_skip {B D : Nat} {t : Int32} {L : List Int32} {pl nm e d m : Nat} {FL : Nat → List Int32} {FP : Nat → Nat} {pn dc : Nat → Int32} (h : hp_WF B D (t :: L) pl nm e d FL FP pn dc) (h16 : ¬ t < 16) (he : e < B) (hm : m < 32) : hp_WF B D (t :: L) pl (m + 1) (e + 1) d FL FP pn dc := by
  obtain ⟨⟨w1, w2, w3⟩, ⟨w4, w5, w6, w7⟩, w8, w9, w10⟩ := h
  exact ⟨⟨w1, w2, fun _ => ⟨t, L, rfl, h16⟩⟩, ⟨w4, by omega, by omega, w7⟩, w8, w9, w10⟩
section
variable (B D M : Nat) (tk : Nat → Int32) (sb : Nat → List Int32) (ok : Int64 → Nat → Prop) (ef : Int64 → Nat → Int64) (mk : Int64 → Nat → Prop) (G : hp_G)
def hp_R1 : Prop := ∀ ⦃k : Nat⦄ ⦃s : Int64⦄ ⦃pl nm e d : Nat⦄ ⦃FL : Nat → List Int32⦄ ⦃FS : Nat → Int64⦄ ⦃FP : Nat → Nat⦄ ⦃pn dc : Nat → Int32⦄, hp_WF B D [] pl nm e d FL FP pn dc → G (1, pl, d, e, pn, dc) (k + 1) [] s pl nm e d FL FS FP pn dc
def hp_R2 : Prop := ∀ ⦃k : Nat⦄ ⦃t : Int32⦄ ⦃L : List Int32⦄ ⦃s : Int64⦄ ⦃pl nm e d : Nat⦄ ⦃FL : Nat → List Int32⦄ ⦃FS : Nat → Int64⦄ ⦃FP : Nat → Nat⦄ ⦃pn dc : Nat → Int32⦄, hp_WF B D (t :: L) pl nm e d FL FP pn dc → t < 16 → e = B → G (3, pl, d, e, pn, dc) (k + 1) (t :: L) s pl nm e d FL FS FP pn dc
def hp_R3 : Prop := ∀ ⦃R : hp_R⦄ ⦃k : Nat⦄ ⦃t : Int32⦄ ⦃L : List Int32⦄ ⦃s : Int64⦄ ⦃pl nm e d : Nat⦄ ⦃FL : Nat → List Int32⦄ ⦃FS : Nat → Int64⦄ ⦃FP : Nat → Nat⦄ ⦃pn dc : Nat → Int32⦄, hp_WF B D (t :: L) pl nm e d FL FP pn dc → t < 16 → e < B → pl < 32 → ok s t.toNatClampNeg → G R k L (ef s t.toNatClampNeg) (pl + 1) nm (e + 1) d FL FS FP (upd pn pl t) dc → G R (k + 1) (t :: L) s pl nm e d FL FS FP pn dc
def hp_R4 : Prop := ∀ ⦃k : Nat⦄ ⦃t : Int32⦄ ⦃L : List Int32⦄ ⦃s : Int64⦄ ⦃pl nm e : Nat⦄ ⦃FL : Nat → List Int32⦄ ⦃FS : Nat → Int64⦄ ⦃FP : Nat → Nat⦄ ⦃pn dc : Nat → Int32⦄, hp_WF B D (t :: L) pl nm e 0 FL FP pn dc → t < 16 → e < B → ¬ (pl < 32 ∧ ok s t.toNatClampNeg) → G (2, pl, 0, e + 1, pn, dc) (k + 1) (t :: L) s pl nm e 0 FL FS FP pn dc
def hp_R5 : Prop := ∀ ⦃R : hp_R⦄ ⦃k : Nat⦄ ⦃t : Int32⦄ ⦃L : List Int32⦄ ⦃s : Int64⦄ ⦃pl nm e d : Nat⦄ ⦃FL : Nat → List Int32⦄ ⦃FS : Nat → Int64⦄ ⦃FP : Nat → Nat⦄ ⦃pn dc : Nat → Int32⦄, hp_WF B D (t :: L) pl nm e (d + 1) FL FP pn dc → t < 16 → e < B → ¬ (pl < 32 ∧ ok s t.toNatClampNeg) → G R k (FL d) (FS d) (FP d) ((dc d).toNatClampNeg + 1) (e + 1) d FL FS FP pn dc → G R (k + 1) (t :: L) s pl nm e (d + 1) FL FS FP pn dc
def hp_R6 : Prop := ∀ ⦃k : Nat⦄ ⦃t : Int32⦄ ⦃L : List Int32⦄ ⦃s : Int64⦄ ⦃pl nm e : Nat⦄ ⦃FL : Nat → List Int32⦄ ⦃FS : Nat → Int64⦄ ⦃FP : Nat → Nat⦄ ⦃pn dc : Nat → Int32⦄, hp_WF B D (t :: L) pl nm e 0 FL FP pn dc → ¬ t < 16 → (∀ j, nm ≤ j → j < M → tk j ≠ t) → G (2, pl, 0, e, pn, dc) (k + 1) (t :: L) s pl nm e 0 FL FS FP pn dc
def hp_R7 : Prop := ∀ ⦃R : hp_R⦄ ⦃k : Nat⦄ ⦃t : Int32⦄ ⦃L : List Int32⦄ ⦃s : Int64⦄ ⦃pl nm e d : Nat⦄ ⦃FL : Nat → List Int32⦄ ⦃FS : Nat → Int64⦄ ⦃FP : Nat → Nat⦄ ⦃pn dc : Nat → Int32⦄, hp_WF B D (t :: L) pl nm e (d + 1) FL FP pn dc → ¬ t < 16 → (∀ j, nm ≤ j → j < M → tk j ≠ t) → G R k (FL d) (FS d) (FP d) ((dc d).toNatClampNeg + 1) e d FL FS FP pn dc → G R (k + 1) (t :: L) s pl nm e (d + 1) FL FS FP pn dc
def hp_R8 : Prop := ∀ ⦃k : Nat⦄ ⦃t : Int32⦄ ⦃L : List Int32⦄ ⦃s : Int64⦄ ⦃pl nm e d m : Nat⦄ ⦃FL : Nat → List Int32⦄ ⦃FS : Nat → Int64⦄ ⦃FP : Nat → Nat⦄ ⦃pn dc : Nat → Int32⦄, hp_WF B D (t :: L) pl nm e d FL FP pn dc → ¬ t < 16 → m < M → hp_fs tk t nm m → e = B → G (3, pl, d, e, pn, dc) (k + 1) (t :: L) s pl nm e d FL FS FP pn dc
def hp_R9 : Prop := ∀ ⦃R : hp_R⦄ ⦃k : Nat⦄ ⦃t : Int32⦄ ⦃L : List Int32⦄ ⦃s : Int64⦄ ⦃pl nm e d m : Nat⦄ ⦃FL : Nat → List Int32⦄ ⦃FS : Nat → Int64⦄ ⦃FP : Nat → Nat⦄ ⦃pn dc : Nat → Int32⦄, hp_WF B D (t :: L) pl nm e d FL FP pn dc → ¬ t < 16 → m < M → hp_fs tk t nm m → e < B → d < D → mk s m → G R k (sb m ++ L) s pl 0 (e + 1) (d + 1) (hp_up FL d (t :: L)) (hp_up FS d s) (hp_up FP d pl) pn (upd dc d (nI m)) → G R (k + 1) (t :: L) s pl nm e d FL FS FP pn dc
def hp_R10 : Prop := ∀ ⦃R : hp_R⦄ ⦃k : Nat⦄ ⦃t : Int32⦄ ⦃L : List Int32⦄ ⦃s : Int64⦄ ⦃pl nm e d m : Nat⦄ ⦃FL : Nat → List Int32⦄ ⦃FS : Nat → Int64⦄ ⦃FP : Nat → Nat⦄ ⦃pn dc : Nat → Int32⦄, hp_WF B D (t :: L) pl nm e d FL FP pn dc → ¬ t < 16 → m < M → hp_fs tk t nm m → e < B → ¬ (d < D ∧ mk s m) → G R k (t :: L) s pl (m + 1) (e + 1) d FL FS FP pn dc → G R (k + 1) (t :: L) s pl nm e d FL FS FP pn dc
def hp_Rules : Prop := hp_R1 B D G ∧ hp_R2 B D G ∧ hp_R3 B D ok ef G ∧ hp_R4 B D ok G ∧ hp_R5 B D ok G ∧ hp_R6 B D M tk G ∧ hp_R7 B D M tk G ∧ hp_R8 B D M tk G ∧ hp_R9 B D M tk sb mk G ∧ hp_R10 B D M tk mk G
end
theorem hp_main {B D M : Nat} {tk : Nat → Int32} {sb : Nat → List Int32} {ok : Int64 → Nat → Prop} {ef : Int64 → Nat → Int64} {mk : Int64 → Nat → Prop} {GX GY : hp_G} (hM : M ≤ 32) (hD : D ≤ 16) (hsb : ∀ m, m < M → (∀ t, t ∈ sb m → hp_vt t) ∧ (sb m).length ≤ 4) (hX : hp_Rules B D M tk sb ok ef mk GX) (hY : hp_Rules B D M tk sb ok ef mk GY) : ∀ (k : Nat) (L : List Int32) (s : Int64) (pl nm e d : Nat) (FL : Nat → List Int32) (FS : Nat → Int64) (FP : Nat → Nat) (pn dc : Nat → Int32), hp_WF B D L pl nm e d FL FP pn dc → 2 * (B - e) + d < k → ∃ R : hp_R, hp_RG B R ∧ GX R k L s pl nm e d FL FS FP pn dc ∧ GY R k L s pl nm e d FL FS FP pn dc := by
  obtain ⟨x1, x2, x3, x4, x5, x6, x7, x8, x9, x10⟩ := hX
  obtain ⟨y1, y2, y3, y4, y5, y6, y7, y8, y9, y10⟩ := hY
  intro k
  induction k with
  | zero => intro L s pl nm e d FL FS FP pn dc hW hk; exact absurd hk (Nat.not_lt_zero _)
  | succ k ih =>
    intro L s pl nm e d FL FS FP pn dc hW hk
    have hW0 := hW
    obtain ⟨⟨w1, w2, w3⟩, ⟨w4, w5, w6, w7⟩, w8, w9, w10⟩ := hW0
    have hg : ∀ (st : Int32) (e' : Nat), e' ≤ B → hp_RG B (st, pl, d, e', pn, dc) := fun st e' h => ⟨w4, Nat.le_trans w7 hD, h, w9, w10⟩
    cases L with
    | nil => exact ⟨(1, pl, d, e, pn, dc), hg 1 e w6, x1 hW, y1 hW⟩
    | cons t L =>
      by_cases h16 : t < 16
      · by_cases hb : e = B
        · exact ⟨(3, pl, d, e, pn, dc), hg 3 e w6, x2 hW h16 hb, y2 hW h16 hb⟩
        · have he : e < B := by omega
          by_cases hok : pl < 32 ∧ ok s t.toNatClampNeg
          · obtain ⟨R, hR, gx, gy⟩ := ih L (ef s t.toNatClampNeg) (pl + 1) nm (e + 1) d FL FS FP (upd pn pl t) dc (hp_wf_op hW h16 he hok.1) (by omega)
            exact ⟨R, hR, x3 hW h16 he hok.1 hok.2 gx, y3 hW h16 he hok.1 hok.2 gy⟩
          · cases d with
            | zero => exact ⟨(2, pl, 0, e + 1, pn, dc), hg 2 (e + 1) he, x4 hW h16 he hok, y4 hW h16 he hok⟩
            | succ d =>
              obtain ⟨R, hR, gx, gy⟩ := ih (FL d) (FS d) (FP d) ((dc d).toNatClampNeg + 1) (e + 1) d FL FS FP pn dc (hp_wf_back hW he) (by omega)
              exact ⟨R, hR, x5 hW h16 he hok gx, y5 hW h16 he hok gy⟩
      · by_cases hf : ∃ m, m < M ∧ nm ≤ m ∧ tk m = t
        · obtain ⟨m, ⟨hm, h1, h2⟩, h3⟩ := pk_least _ hf
          have hfs : hp_fs tk t nm m := ⟨h1, h2, fun j a b c => h3 j b ⟨by omega, a, c⟩⟩
          by_cases hb : e = B
          · exact ⟨(3, pl, d, e, pn, dc), hg 3 e w6, x8 hW h16 hm hfs hb, y8 hW h16 hm hfs hb⟩
          · have he : e < B := by omega
            by_cases hok : d < D ∧ mk s m
            · obtain ⟨R, hR, gx, gy⟩ := ih (sb m ++ L) s pl 0 (e + 1) (d + 1) (hp_up FL d (t :: L)) (hp_up FS d s) (hp_up FP d pl) pn (upd dc d (nI m)) (hp_wf_app hW h16 he hok.1 (by omega) (hsb m hm).1 (hsb m hm).2) (by omega)
              exact ⟨R, hR, x9 hW h16 hm hfs he hok.1 hok.2 gx, y9 hW h16 hm hfs he hok.1 hok.2 gy⟩
            · obtain ⟨R, hR, gx, gy⟩ := ih (t :: L) s pl (m + 1) (e + 1) d FL FS FP pn dc (hp_wf_skip hW h16 he (by omega)) (by omega)
              exact ⟨R, hR, x10 hW h16 hm hfs he hok gx, y10 hW h16 hm hfs he hok gy⟩
        · have hn : ∀ j, nm ≤ j → j < M → tk j ≠ t := fun j a b c => hf ⟨j, b, a, c⟩
          cases d with
          | zero => exact ⟨(2, pl, 0, e, pn, dc), hg 2 e w6, x6 hW h16 hn, y6 hW h16 hn⟩
          | succ d =>
            obtain ⟨R, hR, gx, gy⟩ := ih (FL d) (FS d) (FP d) ((dc d).toNatClampNeg + 1) e d FL FS FP pn dc (hp_wf_back hW w6) (by omega)
            exact ⟨R, hR, x7 hW h16 hn gx, y7 hW h16 hn gy⟩
end
section
def hp_ap (s p n : Int64) : Prop := (s &&& p) = p ∧ (s &&& n) = 0
def hp_dn : Nat → Int32
  | 0 => -1
  | k + 1 => nI k
theorem hp_dn_s (k : Nat) : nI k - 1 = hp_dn k := by
  cases k with
  | zero => decide
  | succ k => exact nI_pred k
theorem hp_dn_a (k : Nat) : nI k + (-1) = hp_dn k := by
  cases k with
  | zero => decide
  | succ k => exact pk_m1 k
theorem hp_nm1 {m : Nat} (h : m < 2 ^ 31) : ¬ nI m = -1 := by
  intro z
  have h2 := nI_pos h
  rw [z] at h2
  exact h2 (by decide)
theorem hp_4 : (4 : Int32) = nI 4 := rfl
theorem hp_8 : (8 : Int32) = nI 8 := rfl
theorem hp_sl_snoc (g : Nat → Int32) : ∀ n k : Nat, hp_sl g k (n + 1) = hp_sl g k n ++ [g (k + n)] := by
  intro n
  induction n with
  | zero => intro k; rfl
  | succ n ih =>
    intro k
    show g k :: hp_sl g (k + 1) (n + 1) = g k :: hp_sl g (k + 1) n ++ [g (k + (n + 1))]
    rw [ih (k + 1), show k + 1 + n = k + (n + 1) by omega]
    rfl
theorem hx_prim_t {post : Int32 → Prop} {t : Int32} (h : t < 16) (hp : post 1) : wpX_isPrimitive post t := br_f (fun z => Int32.not_lt.mpr z h) hp
theorem hx_prim_f {post : Int32 → Prop} {t : Int32} (h : ¬ t < 16) (hp : post 0) : wpX_isPrimitive post t := br_t (Int32.not_lt.mp h) hp
theorem hx_ap_t {post : Int32 → Prop} {s p n : Int64} (h : hp_ap s p n) (hp : post 1) : wpX_isApplicable post s p n := br_t h.1 (br_t h.2 hp)
theorem hx_ap_f {post : Int32 → Prop} {s p n : Int64} (h : ¬ hp_ap s p n) (hp : post 0) : wpX_isApplicable post s p n := br_c (fun h1 => br_f (fun h2 => h ⟨h1, h2⟩) hp) (fun _ => hp)
section
variable {D B M ic : Nat} {ini : Int64} {st : Int32} {e pl d : Nat} {xs : Int64} {xp c : Int32} {s : Int64} {nm : Nat} {o1 o2 o3 o4 mp mn : Nat → Int64} {tk sn sb it pn dc ct cn sc : Nat → Int32} {ss : Nat → Int64} {sp : Nat → Int32}
theorem hx_cnt_t {post : Int32 → SX → Prop} (h : e < B) (hB : B ≤ 1024) (hp : post 1 (nI D, nI B, nI M, nI ic, ini, st, nI (e + 1), nI pl, nI d, xs, xp, c, s, nI nm, o1, o2, o3, o4, mp, mn, tk, sn, sb, it, pn, dc, ct, cn, sc, ss, sp)) : wpX_countAttempt post (nI D, nI B, nI M, nI ic, ini, st, nI e, nI pl, nI d, xs, xp, c, s, nI nm, o1, o2, o3, o4, mp, mn, tk, sn, sb, it, pn, dc, ct, cn, sc, ss, sp) := br_t (nI_lt h (by omega)) (nm_r (nI_1 e) hp)
theorem hx_cnt_f {post : Int32 → SX → Prop} (h : e = B) (hB : B ≤ 1024) (hp : post 0 (nI D, nI B, nI M, nI ic, ini, st, nI e, nI pl, nI d, xs, xp, c, s, nI nm, o1, o2, o3, o4, mp, mn, tk, sn, sb, it, pn, dc, ct, cn, sc, ss, sp)) : wpX_countAttempt post (nI D, nI B, nI M, nI ic, ini, st, nI e, nI pl, nI d, xs, xp, c, s, nI nm, o1, o2, o3, o4, mp, mn, tk, sn, sb, it, pn, dc, ct, cn, sc, ss, sp) := br_f (nI_nlt (by omega) (by omega)) hp
theorem hx_back0 {post : Int32 → SX → Prop} (hp : post 2 (nI D, nI B, nI M, nI ic, ini, st, nI e, nI pl, nI 0, xs, xp, c, s, nI nm, o1, o2, o3, o4, mp, mn, tk, sn, sb, it, pn, dc, ct, cn, sc, ss, sp)) : wpX_goBack post (nI D, nI B, nI M, nI ic, ini, st, nI e, nI pl, nI 0, xs, xp, c, s, nI nm, o1, o2, o3, o4, mp, mn, tk, sn, sb, it, pn, dc, ct, cn, sc, ss, sp) := br_t nI_0 hp
theorem hx_back1 {post : Int32 → SX → Prop} {c' p' n' : Int32} {s' : Int64} (hd : d < 16) (h1 : sc d = c') (h2 : ss d = s') (h3 : sp d = p') (h4 : dc d + 1 = n') (hp : post 0 (nI D, nI B, nI M, nI ic, ini, st, nI e, p', nI d, xs, xp, c', s', n', o1, o2, o3, o4, mp, mn, tk, sn, sb, it, pn, dc, ct, cn, sc, ss, sp)) : wpX_goBack post (nI D, nI B, nI M, nI ic, ini, st, nI e, nI pl, nI (d + 1), xs, xp, c, s, nI nm, o1, o2, o3, o4, mp, mn, tk, sn, sb, it, pn, dc, ct, cn, sc, ss, sp) := by
  have hc : (nI d).toNatClampNeg = d := nI_clamp (by omega)
  have hi : vp_in (nI d) 16 := vp_in_nI hd (by decide)
  have e1 : sc (nI d).toNatClampNeg = c' := by rw [hc]; exact h1
  have e2 : ss (nI d).toNatClampNeg = s' := by rw [hc]; exact h2
  have e3 : sp (nI d).toNatClampNeg = p' := by rw [hc]; exact h3
  have e4 : dc (nI d).toNatClampNeg + 1 = n' := by rw [hc]; exact h4
  exact br_f (nI_ne0 (Nat.succ_pos d) (by omega)) (nm_r (nI_pred d) ⟨hi, nm_r e1 ⟨hi, nm_r e2 ⟨hi, nm_r e3 ⟨hi, nm_r e4 hp⟩⟩⟩⟩)
theorem hx_op_bud {post : Int32 → SX → Prop} {t : Int32} (h : e = B) (hB : B ≤ 1024) (hp : post 3 (nI D, nI B, nI M, nI ic, ini, st, nI e, nI pl, nI d, xs, xp, c, s, nI nm, o1, o2, o3, o4, mp, mn, tk, sn, sb, it, pn, dc, ct, cn, sc, ss, sp)) : wpX_tryOperator post (nI D, nI B, nI M, nI ic, ini, st, nI e, nI pl, nI d, xs, xp, c, s, nI nm, o1, o2, o3, o4, mp, mn, tk, sn, sb, it, pn, dc, ct, cn, sc, ss, sp) t := by
  unfold wpX_tryOperator
  exact hx_cnt_f h hB (br_t rfl hp)
theorem hx_op_ok {post : Int32 → SX → Prop} {t : Int32} {j q : Nat} (ht : t = nI j) (hj : j < 16) (hB : B ≤ 1024) (he : e < B) (hpl : pl < 32) (ha : hp_ap s (o1 t.toNatClampNeg) (o2 t.toNatClampNeg)) (hq : q < 72) (hp : post 0 (nI D, nI B, nI M, nI ic, ini, st, nI (e + 1), nI (pl + 1), nI d, xs, xp, cn q, (s &&& (o4 t.toNatClampNeg ^^^ (-1))) ||| o3 t.toNatClampNeg, nI nm, o1, o2, o3, o4, mp, mn, tk, sn, sb, it, upd pn pl t, dc, ct, cn, sc, ss, sp)) : wpX_tryOperator post (nI D, nI B, nI M, nI ic, ini, st, nI e, nI pl, nI d, xs, xp, nI q, s, nI nm, o1, o2, o3, o4, mp, mn, tk, sn, sb, it, pn, dc, ct, cn, sc, ss, sp) t := by
  have hcp : upd pn (nI pl).toNatClampNeg t = upd pn pl t := by rw [nI_clamp (by omega)]
  have hcq : cn (nI q).toNatClampNeg = cn q := by rw [nI_clamp (by omega)]
  have hi : vp_in t 16 := by rw [ht]; exact vp_in_nI hj (by decide)
  unfold wpX_tryOperator
  refine hx_cnt_t he hB (br_f (by decide) (br_f (nI_ge (b := 32) hpl (by decide)) ⟨hi, hi, ?_⟩))
  refine hx_ap_t ha (br_f (by decide) ⟨vp_in_nI hpl (by decide), nm_r hcp (nm_r (nI_1 pl) ?_)⟩)
  exact ⟨hi, hi, ⟨vp_in_nI hq (by decide), nm_r hcq hp⟩⟩
theorem hx_op_bk {post : Int32 → SX → Prop} {t : Int32} {j : Nat} (ht : t = nI j) (hj : j < 16) (hB : B ≤ 1024) (he : e < B) (hpl : pl ≤ 32) (hn : ¬ (pl < 32 ∧ hp_ap s (o1 t.toNatClampNeg) (o2 t.toNatClampNeg))) (hg : wX_tryOperator_40 post (nI D) (nI B) (nI M) (nI ic) ini st (nI (e + 1)) (nI pl) (nI d) xs xp c s (nI nm) o1 o2 o3 o4 mp mn tk sn sb it pn dc ct cn sc ss sp) : wpX_tryOperator post (nI D, nI B, nI M, nI ic, ini, st, nI e, nI pl, nI d, xs, xp, c, s, nI nm, o1, o2, o3, o4, mp, mn, tk, sn, sb, it, pn, dc, ct, cn, sc, ss, sp) t := by
  have hi : vp_in t 16 := by rw [ht]; exact vp_in_nI hj (by decide)
  unfold wpX_tryOperator
  by_cases h32 : pl < 32
  · exact hx_cnt_t he hB (br_f (by decide) (br_f (nI_ge (b := 32) h32 (by decide)) ⟨hi, hi, hx_ap_f (fun z => hn ⟨h32, z⟩) (br_t rfl hg)⟩))
  · exact hx_cnt_t he hB (br_f (by decide) (br_t (nI_le (a := 32) (by omega) (by omega)) hg))
theorem hx_find_t {post : Int32 → Prop} {t : Int32} {m : Nat} (hM : M ≤ 32) (hm : m < M) (ht : tk m = t) (hp : post (nI m)) : ∀ (k j : Nat), j + k = m → (∀ i, j ≤ i → i < m → tk i ≠ t) → wX_findMethod_2 post t (nI D) (nI B) (nI M) (nI ic) ini st (nI e) (nI pl) (nI d) xs xp c s (nI nm) o1 o2 o3 o4 mp mn tk sn sb it pn dc ct cn sc ss sp (k + 1) (nI j) := by
  intro k
  induction k with
  | zero =>
    intro j hj _
    have hj' : j = m := by omega
    rw [hj']
    exact br_f (nI_ge hm (by omega)) ⟨vp_in_nI (by omega) (by decide), br_t (by rw [nI_clamp (by omega)]; exact ht) hp⟩
  | succ k ih =>
    intro j hj hne
    exact br_f (nI_ge (by omega) (by omega)) ⟨vp_in_nI (by omega) (by decide), br_f (by rw [nI_clamp (by omega)]; exact hne j (Nat.le_refl j) (by omega)) (nm_r (nI_1 j) (ih (j + 1) (by omega) (fun i a b => hne i (by omega) b)))⟩
theorem hx_find_f {post : Int32 → Prop} {t : Int32} (hM : M ≤ 32) (hp : post (-1)) : ∀ (k j : Nat), M ≤ j + k → j ≤ 32 → (∀ i, j ≤ i → i < M → tk i ≠ t) → wX_findMethod_2 post t (nI D) (nI B) (nI M) (nI ic) ini st (nI e) (nI pl) (nI d) xs xp c s (nI nm) o1 o2 o3 o4 mp mn tk sn sb it pn dc ct cn sc ss sp (k + 1) (nI j) := by
  intro k
  induction k with
  | zero =>
    intro j hj h32 _
    exact br_t (nI_le (by omega) (by omega)) hp
  | succ k ih =>
    intro j hj h32 hne
    by_cases hMj : M ≤ j
    · exact br_t (nI_le hMj (by omega)) hp
    · exact br_f (nI_ge (by omega) (by omega)) ⟨vp_in_nI (by omega) (by decide), br_f (by rw [nI_clamp (by omega)]; exact hne j (Nat.le_refl j) (by omega)) (nm_r (nI_1 j) (ih (j + 1) (by omega) (by omega) (fun i a b => hne i (by omega) b)))⟩
theorem hx_fT {post : Int32 → Prop} {t : Int32} {m : Nat} (hM : M ≤ 32) (hm : m < M) (hf : hp_fs tk t nm m) (hp : post (nI m)) : wpX_findMethod post (nI D, nI B, nI M, nI ic, ini, st, nI e, nI pl, nI d, xs, xp, c, s, nI nm, o1, o2, o3, o4, mp, mn, tk, sn, sb, it, pn, dc, ct, cn, sc, ss, sp) t (nI nm) := ⟨m - nm + 1, hx_find_t hM hm hf.2.1 hp (m - nm) nm (by have := hf.1; omega) hf.2.2⟩
theorem hx_fF {post : Int32 → Prop} {t : Int32} (hM : M ≤ 32) (hnm : nm ≤ 32) (hf : ∀ j, nm ≤ j → j < M → tk j ≠ t) (hp : post (-1)) : wpX_findMethod post (nI D, nI B, nI M, nI ic, ini, st, nI e, nI pl, nI d, xs, xp, c, s, nI nm, o1, o2, o3, o4, mp, mn, tk, sn, sb, it, pn, dc, ct, cn, sc, ss, sp) t (nI nm) := ⟨M + 1, hx_find_f hM hp M nm (by omega) hnm hf⟩
theorem hx_put {post : SX → Prop} {x t t' : Int32} {q : Nat} (hx : x = nI q) (ht : t = t') (hq : q < 72) (hp : post (nI D, nI B, nI M, nI ic, ini, st, nI e, nI pl, nI d, xs, xp, nI q, s, nI nm, o1, o2, o3, o4, mp, mn, tk, sn, sb, it, pn, dc, upd ct q t', upd cn q c, sc, ss, sp)) : wpX_putFirst post (nI D, nI B, nI M, nI ic, ini, st, nI e, nI pl, nI d, xs, xp, c, s, nI nm, o1, o2, o3, o4, mp, mn, tk, sn, sb, it, pn, dc, ct, cn, sc, ss, sp) x t := by
  subst hx ht
  have e1 : upd ct (nI q).toNatClampNeg t = upd ct q t := by rw [nI_clamp (by omega)]
  have e2 : upd cn (nI q).toNatClampNeg c = upd cn q c := by rw [nI_clamp (by omega)]
  have hi : vp_in (nI q) 72 := vp_in_nI hq (by decide)
  exact ⟨hi, nm_r e1 ⟨hi, nm_r e2 hp⟩⟩
end
end
section
section
variable {D B M ic : Nat} {ini : Int64} {st : Int32} {e pl d : Nat} {xs : Int64} {xp c : Int32} {s : Int64} {nm : Nat} {o1 o2 o3 o4 mp mn : Nat → Int64} {tk sn sb it pn dc ct cn sc : Nat → Int32} {ss : Nat → Int64} {sp : Nat → Int32}
theorem hx_appl {post : SX → Prop} {m own : Nat} (hm : m < 32) (ho : own + 4 ≤ 72) : ∀ (k : Nat) (c : Int32) (ct cn : Nat → Int32) (L : List Int32), k ≤ 4 → hp_ch (fun j => j < own ∨ (own + k ≤ j ∧ j < own + 4)) ct cn c L → (∀ (c' : Int32) (ct' cn' : Nat → Int32), hp_ch (fun j => j < own + 4) ct' cn' c' (hp_sl (fun i => sb (m * 4 + i)) 0 k ++ L) → (∀ j, j < own → ct' j = ct j ∧ cn' j = cn j) → post (nI D, nI B, nI M, nI ic, ini, st, nI e, nI pl, nI d, xs, xp, c', s, nI nm, o1, o2, o3, o4, mp, mn, tk, sn, sb, it, pn, dc, ct', cn', sc, ss, sp)) → wX_applyMethod_84 post (nI m) (nI own) (k + 1) (hp_dn k) (nI D) (nI B) (nI M) (nI ic) ini st (nI e) (nI pl) (nI d) xs xp c s (nI nm) o1 o2 o3 o4 mp mn tk sn sb it pn dc ct cn sc ss sp := by
  intro k
  induction k with
  | zero =>
    intro c ct cn L _ hch hp
    refine br_t (show (-1 : Int32) < 0 by decide) (hp c ct cn (hp_ch_w (fun j hj => ⟨?_, rfl, rfl⟩) L c hch) (fun j _ => ⟨rfl, rfl⟩))
    have h : j < own ∨ (own + 0 ≤ j ∧ j < own + 4) := hj
    show j < own + 4
    omega
  | succ k ih =>
    intro c ct cn L hk hch hp
    have hix : nI m * 4 + nI k = nI (m * 4 + k) := by rw [hp_4, pk_mul, nI_add]
    have ht : sb (nI m * 4 + nI k).toNatClampNeg = sb (m * 4 + k) := by rw [hix, nI_clamp (by omega)]
    refine br_f (nI_pos (by omega)) ⟨?_, ?_⟩
    · show vp_in (nI m * 4 + nI k) 128
      rw [hix]
      exact vp_in_nI (by omega) (by decide)
    · refine hx_put (nI_add own k) ht (by omega) (nm_r (hp_dn_a k) ?_)
      refine ih (nI (own + k)) (upd ct (own + k) (sb (m * 4 + k))) (upd cn (own + k) c) (sb (m * 4 + k) :: L) (by omega) ?_ ?_
      · refine hp_ch_put hch ?_ ?_ ?_ (by omega)
        · show ¬ (own + k < own ∨ (own + (k + 1) ≤ own + k ∧ own + k < own + 4))
          omega
        · intro j hj
          have h : j < own ∨ (own + (k + 1) ≤ j ∧ j < own + 4) := hj
          show j < own ∨ (own + k ≤ j ∧ j < own + 4)
          omega
        · show own + k < own ∨ (own + k ≤ own + k ∧ own + k < own + 4)
          omega
      · intro c' ct' cn' h1 h2
        refine hp c' ct' cn' ?_ ?_
        · rw [hp_sl_snoc, List.append_assoc, Nat.zero_add]
          exact h1
        · intro j hj
          obtain ⟨a, b⟩ := h2 j hj
          have hne : j ≠ own + k := by omega
          exact ⟨a.trans (pk_un hne), b.trans (pk_un hne)⟩
theorem hx_apply {post : SX → Prop} {m q cnt : Nat} {L : List Int32} (hm : m < 32) (hd : d < 16) (hq : q < 72) (hsn : sn m = nI cnt) (hcnt : cnt ≤ 4) (hch : hp_ch (fun j => j < 8 + 4 * d) ct cn (cn q) L) (hp : ∀ (c' : Int32) (ct' cn' : Nat → Int32), hp_ch (fun j => j < 8 + 4 * (d + 1)) ct' cn' c' (hp_sl (fun i => sb (m * 4 + i)) 0 cnt ++ L) → (∀ j, j < 8 + 4 * d → ct' j = ct j ∧ cn' j = cn j) → post (nI D, nI B, nI M, nI ic, ini, st, nI e, nI pl, nI (d + 1), xs, xp, c', s, nI 0, o1, o2, o3, o4, mp, mn, tk, sn, sb, it, pn, upd dc d (nI m), ct', cn', upd sc d (nI q), vp_updL ss d s, upd sp d (nI pl))) : wpX_applyMethod post (nI D, nI B, nI M, nI ic, ini, st, nI e, nI pl, nI d, xs, xp, nI q, s, nI nm, o1, o2, o3, o4, mp, mn, tk, sn, sb, it, pn, dc, ct, cn, sc, ss, sp) (nI m) := by
  have hcd : (nI d).toNatClampNeg = d := nI_clamp (by omega)
  have hcm : (nI m).toNatClampNeg = m := nI_clamp (by omega)
  have hcq : (nI q).toNatClampNeg = q := nI_clamp (by omega)
  have hi : vp_in (nI d) 16 := vp_in_nI hd (by decide)
  have e1 : upd sc (nI d).toNatClampNeg (nI q) = upd sc d (nI q) := by rw [hcd]
  have e2 : vp_updL ss (nI d).toNatClampNeg s = vp_updL ss d s := by rw [hcd]
  have e3 : upd sp (nI d).toNatClampNeg (nI pl) = upd sp d (nI pl) := by rw [hcd]
  have e4 : upd dc (nI d).toNatClampNeg (nI m) = upd dc d (nI m) := by rw [hcd]
  have e5 : (8 : Int32) + nI d * 4 = nI (8 + 4 * d) := by rw [hp_4, hp_8, pk_mul, nI_add, Nat.mul_comm d 4]
  have e6 : cn (nI q).toNatClampNeg = cn q := by rw [hcq]
  have e7 : sn (nI m).toNatClampNeg - 1 = hp_dn cnt := by rw [hcm, hsn, hp_dn_s]
  refine ⟨hi, nm_r e1 ⟨hi, nm_r e2 ⟨hi, nm_r e3 ⟨hi, nm_r e4 (nm_r (nI_1 d) (nm_r e5 ⟨vp_in_nI hq (by decide), nm_r e6 ⟨vp_in_nI hm (by decide), nm_r e7 ⟨cnt + 1, ?_⟩⟩⟩))⟩⟩⟩⟩
  refine hx_appl hm (by omega) cnt (cn q) ct cn L hcnt (hp_ch_w (fun j hj => ⟨Or.inl hj, rfl, rfl⟩) L _ hch) (fun c' ct' cn' h1 h2 => hp c' ct' cn' ?_ h2)
  rw [show 8 + 4 * (d + 1) = 8 + 4 * d + 4 by omega]
  exact h1
theorem hx_sl {post : SX → Prop} : ∀ (k : Nat) (c : Int32) (ct cn : Nat → Int32) (L : List Int32), k ≤ 8 → hp_ch (fun j => k ≤ j ∧ j < 8) ct cn c L → (∀ (c' : Int32) (ct' cn' : Nat → Int32), hp_ch (fun j => j < 8) ct' cn' c' (hp_sl it 0 k ++ L) → post (nI D, nI B, nI M, nI ic, ini, st, nI e, nI pl, nI d, xs, xp, c', s, nI nm, o1, o2, o3, o4, mp, mn, tk, sn, sb, it, pn, dc, ct', cn', sc, ss, sp)) → wX_startSearch_25 post (k + 1) (hp_dn k) (nI D) (nI B) (nI M) (nI ic) ini st (nI e) (nI pl) (nI d) xs xp c s (nI nm) o1 o2 o3 o4 mp mn tk sn sb it pn dc ct cn sc ss sp := by
  intro k
  induction k with
  | zero =>
    intro c ct cn L _ hch hp
    refine br_t (show (-1 : Int32) < 0 by decide) (hp c ct cn (hp_ch_w (fun j hj => ⟨?_, rfl, rfl⟩) L c hch))
    have h : 0 ≤ j ∧ j < 8 := hj
    exact h.2
  | succ k ih =>
    intro c ct cn L hk hch hp
    have ht : it (nI k).toNatClampNeg = it k := by rw [nI_clamp (by omega)]
    refine br_f (nI_pos (by omega)) ⟨vp_in_nI (by omega) (by decide), ?_⟩
    refine hx_put rfl ht (by omega) (nm_r (hp_dn_a k) ?_)
    refine ih (nI k) (upd ct k (it k)) (upd cn k c) (it k :: L) (by omega) ?_ ?_
    · refine hp_ch_put hch ?_ ?_ ?_ (by omega)
      · show ¬ (k + 1 ≤ k ∧ k < 8)
        omega
      · intro j hj
        have h : k + 1 ≤ j ∧ j < 8 := hj
        show k ≤ j ∧ j < 8
        omega
      · show k ≤ k ∧ k < 8
        omega
    · intro c' ct' cn' h1
      refine hp c' ct' cn' ?_
      rw [hp_sl_snoc, List.append_assoc, Nat.zero_add]
      exact h1
theorem hx_start {post : SX → Prop} {gn : Int32} (hic : ic ≤ 8) (hp : ∀ (c' : Int32) (ct' cn' : Nat → Int32), hp_ch (fun j => j < 8) ct' cn' c' (hp_sl it 0 ic) → post (nI D, nI B, nI M, nI ic, ini, st, nI e, nI pl, nI d, xs, xp, c', ini, nI 0, o1, o2, o3, o4, mp, mn, tk, sn, sb, it, pn, dc, ct', cn', sc, ss, sp)) : wpX_startSearch post (nI D, nI B, nI M, nI ic, ini, st, nI e, nI pl, nI d, xs, xp, c, s, gn, o1, o2, o3, o4, mp, mn, tk, sn, sb, it, pn, dc, ct, cn, sc, ss, sp) := by
  refine nm_r (hp_dn_s ic) ⟨ic + 1, hx_sl ic (-1) ct cn [] hic rfl (fun c' ct' cn' h => hp c' ct' cn' ?_)⟩
  rw [List.append_nil] at h
  exact h
theorem hx_nm_f0 {post : Int32 → SX → Prop} {t : Int32} (hM : M ≤ 32) (hnm : nm ≤ 32) (hf : ∀ j, nm ≤ j → j < M → tk j ≠ t) (hp : post 2 (nI D, nI B, nI M, nI ic, ini, st, nI e, nI pl, nI 0, xs, xp, c, s, nI nm, o1, o2, o3, o4, mp, mn, tk, sn, sb, it, pn, dc, ct, cn, sc, ss, sp)) : wpX_tryNextMethod post (nI D, nI B, nI M, nI ic, ini, st, nI e, nI pl, nI 0, xs, xp, c, s, nI nm, o1, o2, o3, o4, mp, mn, tk, sn, sb, it, pn, dc, ct, cn, sc, ss, sp) t := by
  unfold wpX_tryNextMethod
  exact hx_fF hM hnm hf (br_t rfl (hx_back0 hp))
theorem hx_nm_f1 {post : Int32 → SX → Prop} {t c' p' n' : Int32} {s' : Int64} (hM : M ≤ 32) (hnm : nm ≤ 32) (hf : ∀ j, nm ≤ j → j < M → tk j ≠ t) (hd : d < 16) (h1 : sc d = c') (h2 : ss d = s') (h3 : sp d = p') (h4 : dc d + 1 = n') (hp : post 0 (nI D, nI B, nI M, nI ic, ini, st, nI e, p', nI d, xs, xp, c', s', n', o1, o2, o3, o4, mp, mn, tk, sn, sb, it, pn, dc, ct, cn, sc, ss, sp)) : wpX_tryNextMethod post (nI D, nI B, nI M, nI ic, ini, st, nI e, nI pl, nI (d + 1), xs, xp, c, s, nI nm, o1, o2, o3, o4, mp, mn, tk, sn, sb, it, pn, dc, ct, cn, sc, ss, sp) t := by
  unfold wpX_tryNextMethod
  exact hx_fF hM hnm hf (br_t rfl (hx_back1 hd h1 h2 h3 h4 hp))
theorem hx_nm_bud {post : Int32 → SX → Prop} {t : Int32} {m : Nat} (hM : M ≤ 32) (hm : m < M) (hf : hp_fs tk t nm m) (h : e = B) (hB : B ≤ 1024) (hp : post 3 (nI D, nI B, nI M, nI ic, ini, st, nI e, nI pl, nI d, xs, xp, c, s, nI nm, o1, o2, o3, o4, mp, mn, tk, sn, sb, it, pn, dc, ct, cn, sc, ss, sp)) : wpX_tryNextMethod post (nI D, nI B, nI M, nI ic, ini, st, nI e, nI pl, nI d, xs, xp, c, s, nI nm, o1, o2, o3, o4, mp, mn, tk, sn, sb, it, pn, dc, ct, cn, sc, ss, sp) t := by
  unfold wpX_tryNextMethod
  exact hx_fT hM hm hf (br_f (hp_nm1 (by omega)) (hx_cnt_f h hB (br_t rfl hp)))
theorem hx_nm_skip {post : Int32 → SX → Prop} {t : Int32} {m : Nat} (hM : M ≤ 32) (hm : m < M) (hf : hp_fs tk t nm m) (he : e < B) (hB : B ≤ 1024) (hD : D ≤ 16) (hd : d ≤ 16) (hn : ¬ (d < D ∧ hp_ap s (mp m) (mn m))) (hp : post 0 (nI D, nI B, nI M, nI ic, ini, st, nI (e + 1), nI pl, nI d, xs, xp, c, s, nI (m + 1), o1, o2, o3, o4, mp, mn, tk, sn, sb, it, pn, dc, ct, cn, sc, ss, sp)) : wpX_tryNextMethod post (nI D, nI B, nI M, nI ic, ini, st, nI e, nI pl, nI d, xs, xp, c, s, nI nm, o1, o2, o3, o4, mp, mn, tk, sn, sb, it, pn, dc, ct, cn, sc, ss, sp) t := by
  unfold wpX_tryNextMethod
  have hi : vp_in (nI m) 32 := vp_in_nI (by omega) (by decide)
  by_cases hdD : d < D
  · exact hx_fT hM hm hf (br_f (hp_nm1 (by omega)) (hx_cnt_t he hB (br_f (by decide) (br_f (nI_ge hdD (by omega)) ⟨hi, hi, hx_ap_f (by rw [nI_clamp (by omega)]; exact fun z => hn ⟨hdD, z⟩) (br_t rfl (nm_r (nI_1 m) hp))⟩))))
  · exact hx_fT hM hm hf (br_f (hp_nm1 (by omega)) (hx_cnt_t he hB (br_f (by decide) (br_t (nI_le (by omega) (by omega)) (nm_r (nI_1 m) hp)))))
theorem hx_nm_app {post : Int32 → SX → Prop} {t : Int32} {m q cnt : Nat} {L : List Int32} (hM : M ≤ 32) (hm : m < M) (hf : hp_fs tk t nm m) (he : e < B) (hB : B ≤ 1024) (hD : D ≤ 16) (hdD : d < D) (ha : hp_ap s (mp m) (mn m)) (hq : q < 72) (hsn : sn m = nI cnt) (hcnt : cnt ≤ 4) (hch : hp_ch (fun j => j < 8 + 4 * d) ct cn (cn q) L) (hp : ∀ (c' : Int32) (ct' cn' : Nat → Int32), hp_ch (fun j => j < 8 + 4 * (d + 1)) ct' cn' c' (hp_sl (fun i => sb (m * 4 + i)) 0 cnt ++ L) → (∀ j, j < 8 + 4 * d → ct' j = ct j ∧ cn' j = cn j) → post 0 (nI D, nI B, nI M, nI ic, ini, st, nI (e + 1), nI pl, nI (d + 1), xs, xp, c', s, nI 0, o1, o2, o3, o4, mp, mn, tk, sn, sb, it, pn, upd dc d (nI m), ct', cn', upd sc d (nI q), vp_updL ss d s, upd sp d (nI pl))) : wpX_tryNextMethod post (nI D, nI B, nI M, nI ic, ini, st, nI e, nI pl, nI d, xs, xp, nI q, s, nI nm, o1, o2, o3, o4, mp, mn, tk, sn, sb, it, pn, dc, ct, cn, sc, ss, sp) t := by
  unfold wpX_tryNextMethod
  have hi : vp_in (nI m) 32 := vp_in_nI (by omega) (by decide)
  have hc : (nI m).toNatClampNeg = m := nI_clamp (by omega)
  refine hx_fT hM hm hf (br_f (hp_nm1 (by omega)) (hx_cnt_t he hB (br_f (by decide) (br_f (nI_ge hdD (by omega)) ⟨hi, hi, hx_ap_t (by rw [hc]; exact ha) (br_f (by decide) ?_)⟩))))
  exact hx_apply (by omega) (by omega) hq hsn hcnt hch hp
theorem hx_end {post : Int32 → SX → Prop} {r y : Int32} {n : Nat} (hr : ¬ r = 0) (hp : post r (nI D, nI B, nI M, nI ic, ini, st, nI e, nI pl, nI d, xs, xp, c, s, nI nm, o1, o2, o3, o4, mp, mn, tk, sn, sb, it, pn, dc, ct, cn, sc, ss, sp)) : wX_search_4 post (n + 1) r y (nI D) (nI B) (nI M) (nI ic) ini st (nI e) (nI pl) (nI d) xs xp c s (nI nm) o1 o2 o3 o4 mp mn tk sn sb it pn dc ct cn sc ss sp := br_c (fun _ => hp) (fun _ => br_f hr hp)
end
def hp_XG (D B M ic : Nat) (ini : Int64) (st : Int32) (xs : Int64) (xp : Int32) (o1 o2 o3 o4 mp mn : Nat → Int64) (tk sn sb it : Nat → Int32) : hp_G := fun R k L s pl nm e d FL FS FP pn dc =>
  ∀ (c : Int32) (ct cn sc : Nat → Int32) (ss : Nat → Int64) (sp : Nat → Int32), hp_ch (fun j => j < 8 + 4 * d) ct cn c L → (∀ i, i < d → hp_X1 ct cn sc ss sp i (FL i) (FS i) (FP i)) → ∀ (n x : Nat) (post : Int32 → SX → Prop), k < n → x + k < 1000000 → (∀ (c : Int32) (s : Int64) (nm : Int32) (ct cn sc : Nat → Int32) (ss : Nat → Int64) (sp : Nat → Int32), post R.1 (nI D, nI B, nI M, nI ic, ini, st, nI R.2.2.2.1, nI R.2.1, nI R.2.2.1, xs, xp, c, s, nm, o1, o2, o3, o4, mp, mn, tk, sn, sb, it, R.2.2.2.2.1, R.2.2.2.2.2, ct, cn, sc, ss, sp)) → wX_search_4 post n 0 (nI x) (nI D) (nI B) (nI M) (nI ic) ini st (nI e) (nI pl) (nI d) xs xp c s (nI nm) o1 o2 o3 o4 mp mn tk sn sb it pn dc ct cn sc ss sp
section
variable {D B M ic : Nat} {ini : Int64} {st : Int32} {xs : Int64} {xp : Int32} {o1 o2 o3 o4 mp mn : Nat → Int64} {tk sn sb it : Nat → Int32}
theorem hx_R1 : hp_R1 B D (hp_XG D B M ic ini st xs xp o1 o2 o3 o4 mp mn tk sn sb it) := by
  intro k s pl nm e d FL FS FP pn dc hW c ct cn sc ss sp hch hf n x post hn hx hp
  obtain ⟨n, rfl⟩ : ∃ n', n = n' + 2 := ⟨n - 2, by omega⟩
  exact br_f (nI_ge (b := 1000000) (by omega) (by decide)) (br_t rfl (br_t hch (nm_r (nI_1 x) (hx_end (by decide) (hp c s (nI nm) ct cn sc ss sp)))))
theorem hx_R2 (hB : B ≤ 1024) : hp_R2 B D (hp_XG D B M ic ini st xs xp o1 o2 o3 o4 mp mn tk sn sb it) := by
  intro k t L s pl nm e d FL FS FP pn dc hW h16 hb c ct cn sc ss sp hch hf n x post hn hx hp
  obtain ⟨q, hq8, hq, hc, hct, hr⟩ := hch
  subst hc
  obtain ⟨n, rfl⟩ : ∃ n', n = n' + 2 := ⟨n - 2, by omega⟩
  have hT : ct (nI q).toNatClampNeg = t := by rw [nI_clamp (by omega)]; exact hct
  have hi : vp_in (nI q) 72 := vp_in_nI hq (by decide)
  refine br_f (nI_ge (b := 1000000) (by omega) (by decide)) (br_t rfl (br_f (hp_nm1 (by omega)) ⟨hi, ?_⟩))
  rw [hT]
  exact hx_prim_t h16 (br_f (by decide) ⟨hi, hx_op_bud hb hB (nm_r (nI_1 x) (hx_end (by decide) (hp (nI q) s (nI nm) ct cn sc ss sp)))⟩)
theorem hx_R3 (hB : B ≤ 1024) : hp_R3 B D (fun s j => hp_ap s (o1 j) (o2 j)) (fun s j => (s &&& (o4 j ^^^ (-1))) ||| o3 j) (hp_XG D B M ic ini st xs xp o1 o2 o3 o4 mp mn tk sn sb it) := by
  intro R k t L s pl nm e d FL FS FP pn dc hW h16 he hpl hok hG c ct cn sc ss sp hch hf n x post hn hx hp
  obtain ⟨q, hq8, hq, hc, hct, hr⟩ := hch
  subst hc
  obtain ⟨n, rfl⟩ : ∃ n', n = n' + 1 := ⟨n - 1, by omega⟩
  obtain ⟨j, hj, ht⟩ := hp_vt_lt (hW.1.1 t List.mem_cons_self) h16
  have hT : ct (nI q).toNatClampNeg = t := by rw [nI_clamp (by omega)]; exact hct
  have hi : vp_in (nI q) 72 := vp_in_nI hq (by decide)
  refine br_f (nI_ge (b := 1000000) (by omega) (by decide)) (br_t rfl (br_f (hp_nm1 (by omega)) ⟨hi, ?_⟩))
  rw [hT]
  exact hx_prim_t h16 (br_f (by decide) ⟨hi, hx_op_ok ht hj hB he hpl hok hq (nm_r (nI_1 x) (hG _ ct cn sc ss sp hr hf n (x + 1) post (by omega) (by omega) hp))⟩)
theorem hx_R4 (hB : B ≤ 1024) : hp_R4 B D (fun s j => hp_ap s (o1 j) (o2 j)) (hp_XG D B M ic ini st xs xp o1 o2 o3 o4 mp mn tk sn sb it) := by
  intro k t L s pl nm e FL FS FP pn dc hW h16 he hok c ct cn sc ss sp hch hf n x post hn hx hp
  obtain ⟨q, hq8, hq, hc, hct, hr⟩ := hch
  subst hc
  obtain ⟨n, rfl⟩ : ∃ n', n = n' + 2 := ⟨n - 2, by omega⟩
  obtain ⟨j, hj, ht⟩ := hp_vt_lt (hW.1.1 t List.mem_cons_self) h16
  have hT : ct (nI q).toNatClampNeg = t := by rw [nI_clamp (by omega)]; exact hct
  have hi : vp_in (nI q) 72 := vp_in_nI hq (by decide)
  refine br_f (nI_ge (b := 1000000) (by omega) (by decide)) (br_t rfl (br_f (hp_nm1 (by omega)) ⟨hi, ?_⟩))
  rw [hT]
  exact hx_prim_t h16 (br_f (by decide) ⟨hi, hx_op_bk ht hj hB he hW.2.1.1 hok (hx_back0 (nm_r (nI_1 x) (hx_end (by decide) (hp (nI q) s (nI nm) ct cn sc ss sp))))⟩)
theorem hx_R5 (hB : B ≤ 1024) (hD : D ≤ 16) : hp_R5 B D (fun s j => hp_ap s (o1 j) (o2 j)) (hp_XG D B M ic ini st xs xp o1 o2 o3 o4 mp mn tk sn sb it) := by
  intro R k t L s pl nm e d FL FS FP pn dc hW h16 he hok hG c ct cn sc ss sp hch hf n x post hn hx hp
  obtain ⟨q, hq8, hq, hc, hct, hr⟩ := hch
  subst hc
  obtain ⟨n, rfl⟩ : ∃ n', n = n' + 1 := ⟨n - 1, by omega⟩
  obtain ⟨j, hj, ht⟩ := hp_vt_lt (hW.1.1 t List.mem_cons_self) h16
  have hT : ct (nI q).toNatClampNeg = t := by rw [nI_clamp (by omega)]; exact hct
  have hi : vp_in (nI q) 72 := vp_in_nI hq (by decide)
  have hd : d < 16 := by have := hW.2.1.2.2.2; omega
  obtain ⟨f1, f2, f3⟩ := hf d (Nat.lt_succ_self d)
  have f4 : dc d + 1 = nI ((dc d).toNatClampNeg + 1) := by rw [← nI_1, ← (hp_nb_c hW.2.2.2.2 (Nat.le_refl 32) d).2]
  refine br_f (nI_ge (b := 1000000) (by omega) (by decide)) (br_t rfl (br_f (hp_nm1 (by omega)) ⟨hi, ?_⟩))
  rw [hT]
  exact hx_prim_t h16 (br_f (by decide) ⟨hi, hx_op_bk ht hj hB he hW.2.1.1 hok (hx_back1 hd rfl f1 f2 f4 (nm_r (nI_1 x) (hG (sc d) ct cn sc ss sp f3 (fun i hi => hf i (by omega)) n (x + 1) post (by omega) (by omega) hp)))⟩)
theorem hx_R6 (hM : M ≤ 32) : hp_R6 B D M tk (hp_XG D B M ic ini st xs xp o1 o2 o3 o4 mp mn tk sn sb it) := by
  intro k t L s pl nm e FL FS FP pn dc hW h16 hnf c ct cn sc ss sp hch hf n x post hn hx hp
  obtain ⟨q, hq8, hq, hc, hct, hr⟩ := hch
  subst hc
  obtain ⟨n, rfl⟩ : ∃ n', n = n' + 2 := ⟨n - 2, by omega⟩
  have hT : ct (nI q).toNatClampNeg = t := by rw [nI_clamp (by omega)]; exact hct
  have hi : vp_in (nI q) 72 := vp_in_nI hq (by decide)
  refine br_f (nI_ge (b := 1000000) (by omega) (by decide)) (br_t rfl (br_f (hp_nm1 (by omega)) ⟨hi, ?_⟩))
  rw [hT]
  exact hx_prim_f h16 (br_t rfl ⟨hi, hx_nm_f0 hM hW.2.1.2.1 hnf (nm_r (nI_1 x) (hx_end (by decide) (hp (nI q) s (nI nm) ct cn sc ss sp)))⟩)
theorem hx_R7 (hM : M ≤ 32) (hD : D ≤ 16) : hp_R7 B D M tk (hp_XG D B M ic ini st xs xp o1 o2 o3 o4 mp mn tk sn sb it) := by
  intro R k t L s pl nm e d FL FS FP pn dc hW h16 hnf hG c ct cn sc ss sp hch hf n x post hn hx hp
  obtain ⟨q, hq8, hq, hc, hct, hr⟩ := hch
  subst hc
  obtain ⟨n, rfl⟩ : ∃ n', n = n' + 1 := ⟨n - 1, by omega⟩
  have hT : ct (nI q).toNatClampNeg = t := by rw [nI_clamp (by omega)]; exact hct
  have hi : vp_in (nI q) 72 := vp_in_nI hq (by decide)
  have hd : d < 16 := by have := hW.2.1.2.2.2; omega
  obtain ⟨f1, f2, f3⟩ := hf d (Nat.lt_succ_self d)
  have f4 : dc d + 1 = nI ((dc d).toNatClampNeg + 1) := by rw [← nI_1, ← (hp_nb_c hW.2.2.2.2 (Nat.le_refl 32) d).2]
  refine br_f (nI_ge (b := 1000000) (by omega) (by decide)) (br_t rfl (br_f (hp_nm1 (by omega)) ⟨hi, ?_⟩))
  rw [hT]
  exact hx_prim_f h16 (br_t rfl ⟨hi, hx_nm_f1 hM hW.2.1.2.1 hnf hd rfl f1 f2 f4 (nm_r (nI_1 x) (hG (sc d) ct cn sc ss sp f3 (fun i hi => hf i (by omega)) n (x + 1) post (by omega) (by omega) hp))⟩)
theorem hx_R8 (hM : M ≤ 32) (hB : B ≤ 1024) : hp_R8 B D M tk (hp_XG D B M ic ini st xs xp o1 o2 o3 o4 mp mn tk sn sb it) := by
  intro k t L s pl nm e d m FL FS FP pn dc hW h16 hm hfs hb c ct cn sc ss sp hch hf n x post hn hx hp
  obtain ⟨q, hq8, hq, hc, hct, hr⟩ := hch
  subst hc
  obtain ⟨n, rfl⟩ : ∃ n', n = n' + 2 := ⟨n - 2, by omega⟩
  have hT : ct (nI q).toNatClampNeg = t := by rw [nI_clamp (by omega)]; exact hct
  have hi : vp_in (nI q) 72 := vp_in_nI hq (by decide)
  refine br_f (nI_ge (b := 1000000) (by omega) (by decide)) (br_t rfl (br_f (hp_nm1 (by omega)) ⟨hi, ?_⟩))
  rw [hT]
  exact hx_prim_f h16 (br_t rfl ⟨hi, hx_nm_bud hM hm hfs hb hB (nm_r (nI_1 x) (hx_end (by decide) (hp (nI q) s (nI nm) ct cn sc ss sp)))⟩)
theorem hx_R9 (hM : M ≤ 32) (hB : B ≤ 1024) (hD : D ≤ 16) (hsn : hp_nb 5 sn) : hp_R9 B D M tk (fun m => hp_sl (fun i => sb (m * 4 + i)) 0 (sn m).toNatClampNeg) (fun s m => hp_ap s (mp m) (mn m)) (hp_XG D B M ic ini st xs xp o1 o2 o3 o4 mp mn tk sn sb it) := by
  intro R k t L s pl nm e d m FL FS FP pn dc hW h16 hm hfs he hdD hok hG c ct cn sc ss sp hch hf n x post hn hx hp
  have hch0 := hch
  obtain ⟨q, hq8, hq, hc, hct, hr⟩ := hch
  subst hc
  obtain ⟨n, rfl⟩ : ∃ n', n = n' + 1 := ⟨n - 1, by omega⟩
  have hT : ct (nI q).toNatClampNeg = t := by rw [nI_clamp (by omega)]; exact hct
  have hi : vp_in (nI q) 72 := vp_in_nI hq (by decide)
  obtain ⟨hs1, hs2⟩ := hp_nb_c hsn (by decide) m
  refine br_f (nI_ge (b := 1000000) (by omega) (by decide)) (br_t rfl (br_f (hp_nm1 (by omega)) ⟨hi, ?_⟩))
  rw [hT]
  refine hx_prim_f h16 (br_t rfl ⟨hi, hx_nm_app hM hm hfs he hB hD hdD hok hq hs2 (by omega) hr (fun c' ct' cn' h1 h2 => nm_r (nI_1 x) (hG c' ct' cn' (upd sc d (nI q)) (vp_updL ss d s) (upd sp d (nI pl)) h1 ?_ n (x + 1) post (by omega) (by omega) hp))⟩)
  intro i hid
  by_cases hi2 : i = d
  · subst hi2
    rw [hp_us, hp_us, hp_us]
    refine ⟨pk_uLs, pk_us, ?_⟩
    rw [pk_us]
    exact hp_ch_w (fun j hj => ⟨hj, h2 j hj⟩) _ _ hch0
  · rw [hp_un hi2, hp_un hi2, hp_un hi2]
    obtain ⟨f1, f2, f3⟩ := hf i (by omega)
    refine ⟨(pk_uLn hi2).trans f1, (pk_un hi2).trans f2, ?_⟩
    rw [pk_un hi2]
    refine hp_ch_w (fun j hj => ⟨hj, h2 j ?_⟩) _ _ f3
    have hj' : j < 8 + 4 * i := hj
    omega
theorem hx_R10 (hM : M ≤ 32) (hB : B ≤ 1024) (hD : D ≤ 16) : hp_R10 B D M tk (fun s m => hp_ap s (mp m) (mn m)) (hp_XG D B M ic ini st xs xp o1 o2 o3 o4 mp mn tk sn sb it) := by
  intro R k t L s pl nm e d m FL FS FP pn dc hW h16 hm hfs he hok hG c ct cn sc ss sp hch hf n x post hn hx hp
  have hch0 := hch
  obtain ⟨q, hq8, hq, hc, hct, hr⟩ := hch
  subst hc
  obtain ⟨n, rfl⟩ : ∃ n', n = n' + 1 := ⟨n - 1, by omega⟩
  have hT : ct (nI q).toNatClampNeg = t := by rw [nI_clamp (by omega)]; exact hct
  have hi : vp_in (nI q) 72 := vp_in_nI hq (by decide)
  have hd : d ≤ 16 := by have := hW.2.1.2.2.2; omega
  refine br_f (nI_ge (b := 1000000) (by omega) (by decide)) (br_t rfl (br_f (hp_nm1 (by omega)) ⟨hi, ?_⟩))
  rw [hT]
  exact hx_prim_f h16 (br_t rfl ⟨hi, hx_nm_skip hM hm hfs he hB hD hd hok (nm_r (nI_1 x) (hG (nI q) ct cn sc ss sp hch0 hf n (x + 1) post (by omega) (by omega) hp))⟩)
end
end
section
theorem hy_ap_t {post : Int32 → Prop} {u : SY} {s p n : Int64} (h : hp_ap s p n) (hp : post 1) : wpY_applicable post u p n s := br_t h.1 (br_t h.2 hp)
theorem hy_ap_f {post : Int32 → Prop} {u : SY} {s p n : Int64} (h : ¬ hp_ap s p n) (hp : post 0) : wpY_applicable post u p n s := br_c (fun h1 => br_f (fun h2 => h ⟨h1, h2⟩) hp) (fun _ => hp)
theorem hp_64 : (64 : Int32) = nI 64 := rfl
section
variable {D B M ic : Nat} {ini : Int64} {st qp qd qe : Int32} {xs : Int64} {xp : Int32} {os mp mn : Nat → Int64} {tk sn sb it pn dc cu : Nat → Int32} {fS : Nat → Int64} {fP fT fX fN fL : Nat → Int32} {post : Int32 → SY → Prop} {n x : Nat}
theorem hy_end1 {y1 y5 y6 y7 y8 y9 y11 : Int32} {y3 : Int64} (hp : post 1 (nI M, nI ic, ini, nI D, nI B, 1, y6, y7, y1, ini, 0, os, tk, mp, mn, sb, sn, it, pn, dc, cu, fS, fP, fT, fX, fN, fL)) : wY_plan_63 post (nI M) (nI ic) ini (nI D) (nI B) st qp qd qe xs xp (n + 1) y1 1 y3 y5 y6 y7 y8 y9 0 y11 os tk mp mn sb sn it pn dc cu fS fP fT fX fN fL := br_c (fun _ => br_t rfl hp) (fun _ => br_t rfl (br_t rfl hp))
theorem hy_end0 {r y1 y5 y6 y7 y8 y9 y11 : Int32} {y3 : Int64} (hr : ¬ r = 1) (hp : post r (nI M, nI ic, ini, nI D, nI B, r, 0, 0, y1, ini, 0, os, tk, mp, mn, sb, sn, it, pn, dc, cu, fS, fP, fT, fX, fN, fL)) : wY_plan_63 post (nI M) (nI ic) ini (nI D) (nI B) st qp qd qe xs xp (n + 1) y1 r y3 y5 y6 y7 y8 y9 0 y11 os tk mp mn sb sn it pn dc cu fS fP fT fX fN fL := br_c (fun _ => br_f hr hp) (fun _ => br_t rfl (br_f hr hp))
theorem hy_303 {y1 y2 y6 y7 y10 : Int32} {y3 : Int64} {d len : Nat} {fL0 : Nat → Int32} (hd : d < 17) (hlen : len < 64) (hp : ∀ fL' : Nat → Int32, (∀ j, j < len → fL' (d * 64 + j) = cu j) → (∀ q, q < d * 64 ∨ d * 64 + 64 ≤ q → fL' q = fL0 q) → wY_plan_63 post (nI M) (nI ic) ini (nI D) (nI B) st qp qd qe xs xp n y1 y2 y3 (nI len) y6 y7 (nI (d + 1)) 1 y10 (nI (x + 1)) os tk mp mn sb sn it pn dc cu fS fP fT fX fN fL') : ∀ (m i : Nat) (fL : Nat → Int32), i + m = len → (∀ j, j < i → fL (d * 64 + j) = cu j) → (∀ q, q < d * 64 ∨ d * 64 + 64 ≤ q → fL q = fL0 q) → wY_plan_303 post (wY_plan_63 post (nI M) (nI ic) ini (nI D) (nI B) st qp qd qe xs xp n) y1 y2 y3 (nI len) y6 y7 (nI d) y10 (nI x) (nI M) (nI ic) ini (nI D) (nI B) st qp qd qe xs xp (m + 1) (nI i) os tk mp mn sb sn it pn dc cu fS fP fT fX fN fL := by
  intro m
  induction m with
  | zero =>
    intro i fL hi h1 h2
    exact br_t (nI_le (by omega) (by omega)) (nm_r (nI_1 d) (nm_r (nI_1 x) (hp fL (fun j hj => h1 j (by omega)) h2)))
  | succ m ih =>
    intro i fL hi h1 h2
    have hix : nI d * 64 + nI i = nI (d * 64 + i) := by rw [hp_64, pk_mul, nI_add]
    have e1 : upd fL (nI d * 64 + nI i).toNatClampNeg (cu (nI i).toNatClampNeg) = upd fL (d * 64 + i) (cu i) := by rw [hix, nI_clamp (by omega), nI_clamp (by omega)]
    have hv : vp_in (nI d * 64 + nI i) 1088 := by rw [hix]; exact vp_in_nI (by omega) (by decide)
    refine br_f (nI_ge (by omega) (by omega)) (br_f (nI_ge (b := 64) (by omega) (by decide)) ⟨vp_in_nI (by omega) (by decide), hv, nm_r e1 (nm_r (nI_1 i) (ih (i + 1) _ (by omega) ?_ ?_))⟩)
    · intro j hj
      by_cases hji : j = i
      · rw [hji, pk_us]
      · rw [pk_un (by omega)]
        exact h1 j (by omega)
    · intro q hq
      rw [pk_un (by omega)]
      exact h2 q hq
theorem hy_202 {y1 y2 y6 y7 y8 y9 y10 : Int32} {y3 : Int64} {l : Nat} {cu0 : Nat → Int32} (hl : l < 63) (hp : ∀ cu' : Nat → Int32, (∀ j, j < l → cu' j = cu0 (j + 1)) → wY_plan_63 post (nI M) (nI ic) ini (nI D) (nI B) st qp qd qe xs xp n y1 y2 y3 (nI l) y6 y7 y8 y9 y10 (nI (x + 1)) os tk mp mn sb sn it pn dc cu' fS fP fT fX fN fL) : ∀ (m i : Nat) (cu : Nat → Int32), i + m = l → (∀ j, j < i → cu j = cu0 (j + 1)) → (∀ j, i ≤ j → cu j = cu0 j) → wY_plan_202 post (wY_plan_63 post (nI M) (nI ic) ini (nI D) (nI B) st qp qd qe xs xp n) y1 y2 y3 (nI (l + 1)) y6 y7 y8 y9 y10 (nI x) (nI M) (nI ic) ini (nI D) (nI B) st qp qd qe xs xp (m + 1) (nI (i + 1)) os tk mp mn sb sn it pn dc cu fS fP fT fX fN fL := by
  intro m
  induction m with
  | zero =>
    intro i cu hi h1 h2
    exact br_t (nI_le (by omega) (by omega)) (nm_r (pk_m1 l) (nm_r (nI_1 x) (hp cu (fun j hj => h1 j (by omega)))))
  | succ m ih =>
    intro i cu hi h1 h2
    have hv : vp_in (nI (i + 1) - 1) 64 := by rw [nI_pred]; exact vp_in_nI (by omega) (by decide)
    have e1 : upd cu (nI (i + 1) - 1).toNatClampNeg (cu (nI (i + 1)).toNatClampNeg) = upd cu i (cu (i + 1)) := by rw [nI_pred, nI_clamp (by omega), nI_clamp (by omega)]
    refine br_f (nI_ge (by omega) (by omega)) (br_f (nI_ge (b := 64) (by omega) (by decide)) ⟨vp_in_nI (by omega) (by decide), hv, nm_r e1 (nm_r (nI_1 (i + 1)) (ih (i + 1) _ (by omega) ?_ ?_))⟩)
    · intro j hj
      by_cases hji : j = i
      · rw [hji, pk_us]
        exact h2 (i + 1) (by omega)
      · rw [pk_un hji]
        exact h1 j (by omega)
    · intro j hj
      rw [pk_un (by omega)]
      exact h2 j (by omega)
theorem hy_12 {y1 y2 : Int32} {y3 : Int64} (hp : ∀ cu' : Nat → Int32, (∀ j, j < 8 → cu' j = it j) → ∃ n63 : Nat, wY_plan_63 post (nI M) (nI ic) ini (nI D) (nI B) st qp qd qe xs xp n63 y1 y2 y3 (nI ic) 0 0 0 0 1 0 os tk mp mn sb sn it pn dc cu' fS fP fT fX fN fL) : ∀ (m i : Nat) (cu : Nat → Int32), i + m = 8 → (∀ j, j < i → cu j = it j) → wY_plan_12 post y1 y2 y3 (nI M) (nI ic) ini (nI D) (nI B) st qp qd qe xs xp (m + 1) (nI i) os tk mp mn sb sn it pn dc cu fS fP fT fX fN fL := by
  intro m
  induction m with
  | zero =>
    intro i cu hi h1
    exact br_t (nI_le (a := 8) (by omega) (by omega)) (hp cu (fun j hj => h1 j (by omega)))
  | succ m ih =>
    intro i cu hi h1
    have e1 : upd cu (nI i).toNatClampNeg (it (nI i).toNatClampNeg) = upd cu i (it i) := by rw [nI_clamp (by omega)]
    refine br_f (nI_ge (b := 8) (by omega) (by decide)) ⟨vp_in_nI (by omega) (by decide), vp_in_nI (by omega) (by decide), nm_r e1 (nm_r (nI_1 i) (ih (i + 1) _ (by omega) ?_))⟩
    intro j hj
    by_cases hji : j = i
    · rw [hji, pk_us]
    · rw [pk_un hji]
      exact h1 j (by omega)
theorem hy_383t {y1 y2 y5 y6 y7 y8 y9 y10 t : Int32} {y3 : Int64} {d m : Nat} (hd : d < 17) (hM : M ≤ 32) (hm : m < M) (hft : fT d = t) (ht : tk m = t) (hp : wY_plan_429 post (wY_plan_63 post (nI M) (nI ic) ini (nI D) (nI B) st qp qd qe xs xp n) y1 y2 y3 y5 y6 y7 y8 y9 y10 (nI x) (nI d) (nI m) (nI M) (nI ic) ini (nI D) (nI B) st qp qd qe xs xp os tk mp mn sb sn it pn dc cu fS fP fT fX fN fL) : ∀ (k j : Nat), j + k = m → (∀ i, j ≤ i → i < m → tk i ≠ t) → wY_plan_383 post (wY_plan_63 post (nI M) (nI ic) ini (nI D) (nI B) st qp qd qe xs xp n) y1 y2 y3 y5 y6 y7 y8 y9 y10 (nI x) (nI d) (nI M) (nI ic) ini (nI D) (nI B) st qp qd qe xs xp os tk mp mn sb sn it pn dc cu fS fP fT fX fN fL (k + 2) (-1) (nI j) := by
  have hdi : vp_in (nI d) 17 := vp_in_nI hd (by decide)
  intro k
  induction k with
  | zero =>
    intro j hj _
    have hj' : j = m := by omega
    rw [hj']
    have e1 : tk (nI m).toNatClampNeg = fT (nI d).toNatClampNeg := by rw [nI_clamp (by omega), nI_clamp (by omega), hft, ht]
    refine br_f (nI_ge hm (by omega)) (br_f (by decide) (br_f (nI_pos (by omega)) ⟨vp_in_nI (by omega) (by decide), hdi, br_t e1 (nm_r (nI_1 m) ?_)⟩))
    exact br_c (fun _ => hp) (fun _ => br_t (nI_pos' (by omega)) hp)
  | succ k ih =>
    intro j hj hne
    have e1 : ¬ tk (nI j).toNatClampNeg = fT (nI d).toNatClampNeg := by
      rw [nI_clamp (by omega), nI_clamp (by omega), hft]
      exact hne j (Nat.le_refl j) (by omega)
    exact br_f (nI_ge (by omega) (by omega)) (br_f (by decide) (br_f (nI_pos (by omega)) ⟨vp_in_nI (by omega) (by decide), hdi, br_f e1 (nm_r (nI_1 j) (ih (j + 1) (by omega) (fun i a b => hne i (by omega) b)))⟩))
theorem hy_383f {y1 y2 y5 y6 y7 y8 y9 y10 t : Int32} {y3 : Int64} {d : Nat} (hd : d < 17) (hM : M ≤ 32) (hft : fT d = t) (hp : wY_plan_429 post (wY_plan_63 post (nI M) (nI ic) ini (nI D) (nI B) st qp qd qe xs xp n) y1 y2 y3 y5 y6 y7 y8 y9 y10 (nI x) (nI d) (-1) (nI M) (nI ic) ini (nI D) (nI B) st qp qd qe xs xp os tk mp mn sb sn it pn dc cu fS fP fT fX fN fL) : ∀ (k j : Nat), M ≤ j + k → j ≤ 32 → (∀ i, j ≤ i → i < M → tk i ≠ t) → wY_plan_383 post (wY_plan_63 post (nI M) (nI ic) ini (nI D) (nI B) st qp qd qe xs xp n) y1 y2 y3 y5 y6 y7 y8 y9 y10 (nI x) (nI d) (nI M) (nI ic) ini (nI D) (nI B) st qp qd qe xs xp os tk mp mn sb sn it pn dc cu fS fP fT fX fN fL (k + 1) (-1) (nI j) := by
  have hdi : vp_in (nI d) 17 := vp_in_nI hd (by decide)
  intro k
  induction k with
  | zero =>
    intro j hj h32 _
    exact br_t (nI_le (by omega) (by omega)) hp
  | succ k ih =>
    intro j hj h32 hne
    by_cases hMj : M ≤ j
    · exact br_t (nI_le hMj (by omega)) hp
    · have e1 : ¬ tk (nI j).toNatClampNeg = fT (nI d).toNatClampNeg := by
        rw [nI_clamp (by omega), nI_clamp (by omega), hft]
        exact hne j (Nat.le_refl j) (by omega)
      exact br_f (nI_ge (by omega) (by omega)) (br_f (by decide) (br_f (nI_pos (by omega)) ⟨vp_in_nI (by omega) (by decide), hdi, br_f e1 (nm_r (nI_1 j) (ih (j + 1) (by omega) (by omega) (fun i a b => hne i (by omega) b)))⟩))
theorem hy_575 {y1 y2 y6 y8 y10 : Int32} {y3 : Int64} {d m cnt l : Nat} (hd : d < 16) (hcl : cnt + l < 64) (hfN : fN d = nI (l + 1)) (hp : ∀ cu' : Nat → Int32, (∀ j, j < cnt → cu' j = sb (m * 4 + j)) → (∀ j, j < l → cu' (cnt + j) = fL (d * 64 + 1 + j)) → wY_plan_63 post (nI M) (nI ic) ini (nI D) (nI B) st qp qd qe xs xp n y1 y2 y3 (nI (cnt + l)) y6 (nI (d + 1)) y8 0 y10 (nI (x + 1)) os tk mp mn sb sn it pn (upd dc d (nI m)) cu' fS fP fT fX fN fL) : ∀ (k i : Nat) (cu : Nat → Int32), i + k = l → (∀ j, j < cnt → cu j = sb (m * 4 + j)) → (∀ j, j < i → cu (cnt + j) = fL (d * 64 + 1 + j)) → wY_plan_575 post (wY_plan_63 post (nI M) (nI ic) ini (nI D) (nI B) st qp qd qe xs xp n) y1 y2 y3 y6 y8 y10 (nI x) (nI d) (nI m) (nI M) (nI ic) ini (nI D) (nI B) st qp qd qe xs xp (k + 1) (nI (cnt + i)) (nI (i + 1)) os tk mp mn sb sn it pn dc cu fS fP fT fX fN fL := by
  have hdi : vp_in (nI d) 17 := vp_in_nI (by omega) (by decide)
  have hcd : (nI d).toNatClampNeg = d := nI_clamp (by omega)
  have hfN' : fN (nI d).toNatClampNeg = nI (l + 1) := by rw [hcd]; exact hfN
  intro k
  induction k with
  | zero =>
    intro i cu hi h1 h2
    have hil : i = l := by omega
    rw [hil]
    have e1 : upd dc (nI d).toNatClampNeg (nI m) = upd dc d (nI m) := by rw [hcd]
    exact ⟨hdi, br_t (by rw [hfN']; exact nI_le (Nat.le_refl _) (by omega)) ⟨vp_in_nI (by omega) (by decide), nm_r e1 (nm_r (nI_1 d) (nm_r (nI_1 x) (hp cu h1 (fun j hj => h2 j (by omega)))))⟩⟩
  | succ k ih =>
    intro i cu hi h1 h2
    have hix : nI d * 64 + nI (i + 1) = nI (d * 64 + (i + 1)) := by rw [hp_64, pk_mul, nI_add]
    have hv : vp_in (nI d * 64 + nI (i + 1)) 1088 := by rw [hix]; exact vp_in_nI (by omega) (by decide)
    have e1 : upd cu (nI (cnt + i)).toNatClampNeg (fL (nI d * 64 + nI (i + 1)).toNatClampNeg) = upd cu (cnt + i) (fL (d * 64 + (i + 1))) := by rw [hix, nI_clamp (by omega), nI_clamp (by omega)]
    refine ⟨hdi, br_f (by rw [hfN']; exact nI_ge (by omega) (by omega)) (br_f (nI_ge (b := 64) (by omega) (by decide)) (br_f (nI_ge (b := 64) (by omega) (by decide)) ⟨hv, vp_in_nI (by omega) (by decide), nm_r e1 (nm_r (nI_1 (cnt + i)) (nm_r (nI_1 (i + 1)) (ih (i + 1) _ (by omega) ?_ ?_)))⟩))⟩
    · intro j hj
      rw [pk_un (by omega)]
      exact h1 j hj
    · intro j hj
      by_cases hji : j = i
      · rw [hji, pk_us, show d * 64 + (i + 1) = d * 64 + 1 + i by omega]
      · rw [pk_un (by omega)]
        exact h2 j (by omega)
theorem hy_536 {y1 y2 y6 y8 y10 : Int32} {y3 : Int64} {d m cnt : Nat} (hm : m < 32) (hcnt : cnt ≤ 4) (hp : ∀ cu' : Nat → Int32, (∀ j, j < cnt → cu' j = sb (m * 4 + j)) → ∃ n575 : Nat, wY_plan_575 post (wY_plan_63 post (nI M) (nI ic) ini (nI D) (nI B) st qp qd qe xs xp n) y1 y2 y3 y6 y8 y10 (nI x) (nI d) (nI m) (nI M) (nI ic) ini (nI D) (nI B) st qp qd qe xs xp n575 (nI cnt) 1 os tk mp mn sb sn it pn dc cu' fS fP fT fX fN fL) : ∀ (k i : Nat) (cu : Nat → Int32), i + k = cnt → (∀ j, j < i → cu j = sb (m * 4 + j)) → wY_plan_536 post (wY_plan_63 post (nI M) (nI ic) ini (nI D) (nI B) st qp qd qe xs xp n) y1 y2 y3 y6 y8 y10 (nI x) (nI d) (nI m) (nI cnt) (nI M) (nI ic) ini (nI D) (nI B) st qp qd qe xs xp (k + 1) (nI i) os tk mp mn sb sn it pn dc cu fS fP fT fX fN fL := by
  intro k
  induction k with
  | zero =>
    intro i cu hi h1
    exact br_t (nI_le (by omega) (by omega)) (hp cu (fun j hj => h1 j (by omega)))
  | succ k ih =>
    intro i cu hi h1
    have hix : nI m * 4 + nI i = nI (m * 4 + i) := by rw [hp_4, pk_mul, nI_add]
    have hv : vp_in (nI m * 4 + nI i) 128 := by rw [hix]; exact vp_in_nI (by omega) (by decide)
    have e1 : upd cu (nI i).toNatClampNeg (sb (nI m * 4 + nI i).toNatClampNeg) = upd cu i (sb (m * 4 + i)) := by rw [hix, nI_clamp (by omega), nI_clamp (by omega)]
    refine br_f (nI_ge (by omega) (by omega)) ⟨hv, vp_in_nI (by omega) (by decide), nm_r e1 (nm_r (nI_1 i) (ih (i + 1) _ (by omega) ?_))⟩
    intro j hj
    by_cases hji : j = i
    · rw [hji, pk_us]
    · rw [pk_un hji]
      exact h1 j (by omega)
end
end
section
def hp_RY (L : List Int32) (s : Int64) (pl nm d : Nat) (FL : Nat → List Int32) (FS : Nat → Int64) (FP : Nat → Nat) (dc : Nat → Int32) (y3 : Int64) (y5 y6 y7 y8 y9 : Int32) (cu : Nat → Int32) (fS : Nat → Int64) (fP fT fX fN fL : Nat → Int32) : Prop :=
  (∀ i, i < d → hp_Y1 fS fP fT fX fN fL i (FL i) (FS i) (FP i) ((dc i).toNatClampNeg + 1)) ∧
  ((nm = 0 ∧ y9 = 0 ∧ y3 = s ∧ y5 = nI L.length ∧ y6 = nI pl ∧ y7 = nI d ∧ y8 = nI d ∧ hp_ar cu 0 L) ∨ (nm ≠ 0 ∧ y9 = 1 ∧ y8 = nI (d + 1) ∧ hp_Y1 fS fP fT fX fN fL d L s pl nm))
def hp_YF (D B M ic : Nat) (ini : Int64) (os mp mn : Nat → Int64) (tk sn sb it : Nat → Int32) (R : hp_R) (post : Int32 → SY → Prop) : Prop :=
  (R.1 = 1 → ∀ (cu : Nat → Int32) (fS : Nat → Int64) (fP fT fX fN fL : Nat → Int32), post R.1 (nI M, nI ic, ini, nI D, nI B, R.1, nI R.2.1, nI R.2.2.1, nI R.2.2.2.1, ini, 0, os, tk, mp, mn, sb, sn, it, R.2.2.2.2.1, R.2.2.2.2.2, cu, fS, fP, fT, fX, fN, fL)) ∧
  (¬ R.1 = 1 → ∀ (cu : Nat → Int32) (fS : Nat → Int64) (fP fT fX fN fL : Nat → Int32), post R.1 (nI M, nI ic, ini, nI D, nI B, R.1, 0, 0, nI R.2.2.2.1, ini, 0, os, tk, mp, mn, sb, sn, it, R.2.2.2.2.1, R.2.2.2.2.2, cu, fS, fP, fT, fX, fN, fL))
def hp_YG (D B M ic : Nat) (ini : Int64) (st qp qd qe : Int32) (xs : Int64) (xp : Int32) (os mp mn : Nat → Int64) (tk sn sb it : Nat → Int32) : hp_G := fun R k L s pl nm e d FL FS FP pn dc =>
  ∀ (y2 : Int32) (y3 : Int64) (y5 y6 y7 y8 y9 : Int32) (cu : Nat → Int32) (fS : Nat → Int64) (fP fT fX fN fL : Nat → Int32), hp_RY L s pl nm d FL FS FP dc y3 y5 y6 y7 y8 y9 cu fS fP fT fX fN fL → ∀ (n x : Nat) (post : Int32 → SY → Prop), 3 * k < n → x + 3 * k < 100000 → hp_YF D B M ic ini os mp mn tk sn sb it R post → wY_plan_63 post (nI M) (nI ic) ini (nI D) (nI B) st qp qd qe xs xp n (nI e) y2 y3 y5 y6 y7 y8 y9 1 (nI x) os tk mp mn sb sn it pn dc cu fS fP fT fX fN fL
def hp_YB (D B M ic : Nat) (ini : Int64) (st qp qd qe : Int32) (xs : Int64) (xp : Int32) (os mp mn : Nat → Int64) (tk sn sb it : Nat → Int32) : hp_G := fun R k L s pl nm e d FL FS FP pn dc =>
  ∀ (y2 : Int32) (y3 : Int64) (y5 y6 y7 : Int32) (cu : Nat → Int32) (fS : Nat → Int64) (fP fT fX fN fL : Nat → Int32), (∀ i, i < d → hp_Y1 fS fP fT fX fN fL i (FL i) (FS i) (FP i) ((dc i).toNatClampNeg + 1)) → hp_Y1 fS fP fT fX fN fL d L s pl nm → ∀ (n x : Nat) (post : Int32 → SY → Prop), 3 * k + 2 < n → x + 3 * k + 2 < 100000 → hp_YF D B M ic ini os mp mn tk sn sb it R post → wY_plan_63 post (nI M) (nI ic) ini (nI D) (nI B) st qp qd qe xs xp n (nI e) y2 y3 y5 y6 y7 (nI (d + 1)) 1 1 (nI x) os tk mp mn sb sn it pn dc cu fS fP fT fX fN fL
theorem hp_1n0 : ¬ (1 : Int32) = 0 := by decide
theorem hp_2n1 : ¬ (2 : Int32) = 1 := by decide
theorem hp_3n1 : ¬ (3 : Int32) = 1 := by decide
section
variable {D B M ic : Nat} {ini : Int64} {st qp qd qe : Int32} {xs : Int64} {xp : Int32} {os mp mn : Nat → Int64} {tk sn sb it : Nat → Int32}
theorem hy_push {R : hp_R} {k : Nat} {t : Int32} {L : List Int32} {s : Int64} {pl nm e d : Nat} {FL : Nat → List Int32} {FS : Nat → Int64} {FP : Nat → Nat} {pn dc : Nat → Int32} (hD : D ≤ 16) (hW : hp_WF B D (t :: L) pl nm e d FL FP pn dc) (h16 : ¬ t < 16) (hG : hp_YB D B M ic ini st qp qd qe xs xp os mp mn tk sn sb it R k (t :: L) s pl nm e d FL FS FP pn dc) : hp_YG D B M ic ini st qp qd qe xs xp os mp mn tk sn sb it R (k + 1) (t :: L) s pl nm e d FL FS FP pn dc := by
  intro y2 y3 y5 y6 y7 y8 y9 cu fS fP fT fX fN fL hR n x post hn hx hp
  obtain ⟨hf, hR⟩ := hR
  obtain ⟨n, rfl⟩ : ∃ n', n = n' + 1 := ⟨n - 1, by omega⟩
  have hdD : d ≤ D := hW.2.1.2.2.2
  have hlen : (t :: L).length ≤ 8 + 3 * d := hW.1.2.1
  rcases hR with ⟨r1, r2, r3, r4, r5, r6, r7, r8⟩ | ⟨r1, r2, r3, r4⟩
  · subst r1 r2 r3 r4 r5 r6 r7
    have hpos : 0 < (t :: L).length := Nat.succ_pos _
    have hcd : (nI d).toNatClampNeg = d := nI_clamp (by omega)
    have hi : vp_in (nI d) 17 := vp_in_nI (by omega) (by decide)
    have e1 : vp_updL fS (nI d).toNatClampNeg y3 = vp_updL fS d y3 := by rw [hcd]
    have e2 : upd fP (nI d).toNatClampNeg (nI pl) = upd fP d (nI pl) := by rw [hcd]
    have e3 : upd fT (nI d).toNatClampNeg t = upd fT d t := by rw [hcd]
    have e4 : upd fX (nI d).toNatClampNeg 0 = upd fX d 0 := by rw [hcd]
    have e5 : upd fN (nI d).toNatClampNeg (nI (t :: L).length) = upd fN d (nI (t :: L).length) := by rw [hcd]
    refine br_f (nI_ge (b := 100000) (by omega) (by decide)) (br_f hp_1n0 (br_t rfl (br_t (nI_lt (a := 0) hpos (by omega)) (nm_r r8.1 (br_t (Int32.not_lt.mp h16) (br_f (nI_ge (b := 17) (by omega) (by decide)) ⟨hi, nm_r e1 ⟨hi, nm_r e2 ⟨hi, nm_r e3 ⟨hi, nm_r e4 ⟨hi, nm_r e5 ⟨(t :: L).length + 1, ?_⟩⟩⟩⟩⟩⟩))))))
    refine hy_303 (fL0 := fL) (by omega) (by omega) ?_ (t :: L).length 0 fL (by omega) (fun j hj => absurd hj (Nat.not_lt_zero j)) (fun q _ => rfl)
    intro fL' h1 h2
    refine hG y2 y3 _ _ _ cu _ _ _ _ _ fL' ?_ ?_ n (x + 1) post (by omega) (by omega) hp
    · intro i hi2
      have hne : i ≠ d := by omega
      obtain ⟨f1, f2, f3, f4, f5, f6⟩ := hf i hi2
      have hl2 := (hW.2.2.1 i hi2).2.1
      obtain ⟨t', L', g1, g2⟩ := f3
      refine ⟨(pk_uLn hne).trans f1, (pk_un hne).trans f2, ⟨t', L', g1, (pk_un hne).trans g2⟩, (pk_un hne).trans f4, (pk_un hne).trans f5, ?_⟩
      refine hp_ar_eq _ _ _ (fun j hj => ?_) f6
      exact h2 _ (Or.inl (by omega))
    · refine ⟨pk_uLs, pk_us, ⟨t, L, rfl, pk_us⟩, pk_us, pk_us, ?_⟩
      refine hp_ar_eq _ _ _ (fun j hj => ?_) r8
      rw [h1 j hj, Nat.zero_add]
  · subst r2 r3
    exact hG y2 y3 y5 y6 y7 cu fS fP fT fX fN fL hf r4 (n + 1) x post (by omega) (by omega) hp
theorem hy_bT {y1 y2 y5 y6 y7 : Int32} {y3 : Int64} {n x d m nm : Nat} {post : Int32 → SY → Prop} {pn dc cu : Nat → Int32} {fS : Nat → Int64} {fP fT fX fN fL : Nat → Int32} {t : Int32} (hd : d < 17) (hM : M ≤ 32) (hm : m < M) (hx : x < 100000) (hfX : fX d = nI nm) (hfT : fT d = t) (hfs : hp_fs tk t nm m) (hp : wY_plan_429 post (wY_plan_63 post (nI M) (nI ic) ini (nI D) (nI B) st qp qd qe xs xp n) y1 y2 y3 y5 y6 y7 (nI (d + 1)) 1 1 (nI x) (nI d) (nI m) (nI M) (nI ic) ini (nI D) (nI B) st qp qd qe xs xp os tk mp mn sb sn it pn dc cu fS fP fT fX fN fL) : wY_plan_63 post (nI M) (nI ic) ini (nI D) (nI B) st qp qd qe xs xp (n + 1) y1 y2 y3 y5 y6 y7 (nI (d + 1)) 1 1 (nI x) os tk mp mn sb sn it pn dc cu fS fP fT fX fN fL := by
  have e1 : fX (nI d).toNatClampNeg = nI nm := by rw [nI_clamp (by omega)]; exact hfX
  exact br_f (nI_ge (b := 100000) hx (by decide)) (br_f hp_1n0 (br_f hp_1n0 (br_f (nI_ne0 (Nat.succ_pos d) (by omega)) (nm_r (nI_pred d) ⟨vp_in_nI hd (by decide), nm_r e1 ⟨m - nm + 2, hy_383t hd hM hm hfT hfs.2.1 hp (m - nm) nm (by have := hfs.1; omega) hfs.2.2⟩⟩))))
theorem hy_bF {y1 y2 y5 y6 y7 : Int32} {y3 : Int64} {n x d nm : Nat} {post : Int32 → SY → Prop} {pn dc cu : Nat → Int32} {fS : Nat → Int64} {fP fT fX fN fL : Nat → Int32} {t : Int32} (hd : d < 17) (hM : M ≤ 32) (hnm : nm ≤ 32) (hx : x < 100000) (hfX : fX d = nI nm) (hfT : fT d = t) (hnf : ∀ j, nm ≤ j → j < M → tk j ≠ t) (hp : wY_plan_63 post (nI M) (nI ic) ini (nI D) (nI B) st qp qd qe xs xp n y1 y2 y3 y5 y6 y7 (nI d) 1 1 (nI (x + 1)) os tk mp mn sb sn it pn dc cu fS fP fT fX fN fL) : wY_plan_63 post (nI M) (nI ic) ini (nI D) (nI B) st qp qd qe xs xp (n + 1) y1 y2 y3 y5 y6 y7 (nI (d + 1)) 1 1 (nI x) os tk mp mn sb sn it pn dc cu fS fP fT fX fN fL := by
  have e1 : fX (nI d).toNatClampNeg = nI nm := by rw [nI_clamp (by omega)]; exact hfX
  have hp2 : wY_plan_429 post (wY_plan_63 post (nI M) (nI ic) ini (nI D) (nI B) st qp qd qe xs xp n) y1 y2 y3 y5 y6 y7 (nI (d + 1)) 1 1 (nI x) (nI d) (-1) (nI M) (nI ic) ini (nI D) (nI B) st qp qd qe xs xp os tk mp mn sb sn it pn dc cu fS fP fT fX fN fL := br_f (by decide) (nm_r (pk_m1 d) (nm_r (nI_1 x) hp))
  exact br_f (nI_ge (b := 100000) hx (by decide)) (br_f hp_1n0 (br_f hp_1n0 (br_f (nI_ne0 (Nat.succ_pos d) (by omega)) (nm_r (nI_pred d) ⟨vp_in_nI hd (by decide), nm_r e1 ⟨M + 1, hy_383f hd hM hfT hp2 M nm (by omega) hnm hnf⟩⟩))))
theorem hy_b0 {y1 y2 y5 y6 y7 : Int32} {y3 : Int64} {n x : Nat} {post : Int32 → SY → Prop} {pn dc cu : Nat → Int32} {fS : Nat → Int64} {fP fT fX fN fL : Nat → Int32} (hx : x < 100000) (hp : post 2 (nI M, nI ic, ini, nI D, nI B, 2, 0, 0, y1, ini, 0, os, tk, mp, mn, sb, sn, it, pn, dc, cu, fS, fP, fT, fX, fN, fL)) : wY_plan_63 post (nI M) (nI ic) ini (nI D) (nI B) st qp qd qe xs xp (n + 2) y1 y2 y3 y5 y6 y7 (nI 0) 1 1 (nI x) os tk mp mn sb sn it pn dc cu fS fP fT fX fN fL :=
  br_f (nI_ge (b := 100000) hx (by decide)) (br_f hp_1n0 (br_f hp_1n0 (br_t nI_0 (nm_r (nI_1 x) (hy_end0 (by decide) hp)))))
end
end
section
theorem hp_ne {a b : Nat} (h : a < b) (hb : b ≤ 1024) : ¬ nI a = nI b := fun z => absurd ((nI_eq (by omega) (by omega)).mp z) (by omega)
section
variable {D B M ic : Nat} {ini : Int64} {st qp qd qe : Int32} {xs : Int64} {xp : Int32} {os o1 o2 o3 o4 mp mn : Nat → Int64} {tk sn sb it : Nat → Int32}
theorem hy_os {t : Int32} {j : Nat} (ht : t = nI j) (hj : j < 16) (hos : ∀ i, i < 16 → os i = o1 i ∧ os (16 + i) = o2 i ∧ os (32 + i) = o3 i ∧ os (48 + i) = o4 i) : (vp_in t 64 ∧ vp_in (16 + t) 64 ∧ vp_in (32 + t) 64 ∧ vp_in (48 + t) 64) ∧ os t.toNatClampNeg = o1 t.toNatClampNeg ∧ os (16 + t).toNatClampNeg = o2 t.toNatClampNeg ∧ os (32 + t).toNatClampNeg = o3 t.toNatClampNeg ∧ os (48 + t).toNatClampNeg = o4 t.toNatClampNeg := by
  subst ht
  have h16 : (16 : Int32) + nI j = nI (16 + j) := nI_add 16 j
  have h32 : (32 : Int32) + nI j = nI (32 + j) := nI_add 32 j
  have h48 : (48 : Int32) + nI j = nI (48 + j) := nI_add 48 j
  obtain ⟨a1, a2, a3, a4⟩ := hos j hj
  rw [h16, h32, h48, nI_clamp (by omega), nI_clamp (by omega), nI_clamp (by omega), nI_clamp (by omega)]
  exact ⟨⟨vp_in_nI (by omega) (by decide), vp_in_nI (by omega) (by decide), vp_in_nI (by omega) (by decide), vp_in_nI (by omega) (by decide)⟩, a1, a2, a3, a4⟩
theorem hy_R1 : hp_R1 B D (hp_YG D B M ic ini st qp qd qe xs xp os mp mn tk sn sb it) := by
  intro k s pl nm e d FL FS FP pn dc hW y2 y3 y5 y6 y7 y8 y9 cu fS fP fT fX fN fL hR n x post hn hx hp
  obtain ⟨hf, hR⟩ := hR
  obtain ⟨n, rfl⟩ : ∃ n', n = n' + 2 := ⟨n - 2, by omega⟩
  rcases hR with ⟨r1, r2, r3, r4, r5, r6, r7, r8⟩ | ⟨r1, r2, r3, r4⟩
  · subst r1 r2 r3 r4 r5 r6 r7
    exact br_f (nI_ge (b := 100000) (by omega) (by decide)) (br_f hp_1n0 (br_t rfl (br_f (nI_nlt (a := 0) (b := 0) (Nat.le_refl 0) (by decide)) (nm_r (nI_1 x) (hy_end1 (hp.1 rfl cu fS fP fT fX fN fL))))))
  · obtain ⟨t', L', h1, _⟩ := hW.1.2.2 r1
    exact absurd h1 (by simp)
theorem hy_R2 (hD : D ≤ 16) : hp_R2 B D (hp_YG D B M ic ini st qp qd qe xs xp os mp mn tk sn sb it) := by
  intro k t L s pl nm e d FL FS FP pn dc hW h16 hb y2 y3 y5 y6 y7 y8 y9 cu fS fP fT fX fN fL hR n x post hn hx hp
  obtain ⟨hf, hR⟩ := hR
  obtain ⟨n, rfl⟩ : ∃ n', n = n' + 2 := ⟨n - 2, by omega⟩
  have hdD : d ≤ D := hW.2.1.2.2.2
  have hlen : (t :: L).length ≤ 8 + 3 * d := hW.1.2.1
  have hpos : 0 < (t :: L).length := Nat.succ_pos _
  rcases hR with ⟨r1, r2, r3, r4, r5, r6, r7, r8⟩ | ⟨r1, r2, r3, r4⟩
  · subst r1 r2 r3 r4 r5 r6 r7
    exact br_f (nI_ge (b := 100000) (by omega) (by decide)) (br_f hp_1n0 (br_t rfl (br_t (nI_lt (a := 0) hpos (by omega)) (nm_r r8.1 (br_f (fun z => Int32.not_lt.mpr z h16) (br_t (congrArg nI hb) (nm_r (nI_1 x) (hy_end0 hp_3n1 (hp.2 hp_3n1 cu fS fP fT fX fN fL)))))))))
  · exact absurd (hp_wf_nm hW h16) r1
theorem hy_R3 (hD : D ≤ 16) (hB : B ≤ 1024) (hos : ∀ i, i < 16 → os i = o1 i ∧ os (16 + i) = o2 i ∧ os (32 + i) = o3 i ∧ os (48 + i) = o4 i) : hp_R3 B D (fun s j => hp_ap s (o1 j) (o2 j)) (fun s j => (s &&& (o4 j ^^^ (-1))) ||| o3 j) (hp_YG D B M ic ini st qp qd qe xs xp os mp mn tk sn sb it) := by
  intro R k t L s pl nm e d FL FS FP pn dc hW h16 he hpl hok hG y2 y3 y5 y6 y7 y8 y9 cu fS fP fT fX fN fL hR n x post hn hx hp
  obtain ⟨hf, hR⟩ := hR
  obtain ⟨n, rfl⟩ : ∃ n', n = n' + 1 := ⟨n - 1, by omega⟩
  have hdD : d ≤ D := hW.2.1.2.2.2
  have hlen : (t :: L).length ≤ 8 + 3 * d := hW.1.2.1
  have hpos : 0 < (t :: L).length := Nat.succ_pos _
  obtain ⟨j, hj, ht⟩ := hp_vt_lt (hW.1.1 t List.mem_cons_self) h16
  obtain ⟨⟨v1, v2, v3, v4⟩, a1, a2, a3, a4⟩ := hy_os ht hj hos
  rcases hR with ⟨r1, r2, r3, r4, r5, r6, r7, r8⟩ | ⟨r1, r2, r3, r4⟩
  · subst r1 r2 r3 r4 r5 r6 r7
    have hlc : (t :: L).length = L.length + 1 := rfl
    have hok' : hp_ap y3 (os t.toNatClampNeg) (os (16 + t).toNatClampNeg) := by rw [a1, a2]; exact hok
    have e5 : (y3 &&& (os (48 + t).toNatClampNeg ^^^ (-1))) ||| os (32 + t).toNatClampNeg = (y3 &&& (o4 t.toNatClampNeg ^^^ (-1))) ||| o3 t.toNatClampNeg := by rw [a3, a4]
    have e6 : upd pn (nI pl).toNatClampNeg t = upd pn pl t := by rw [nI_clamp (by omega)]
    refine br_f (nI_ge (b := 100000) (by omega) (by decide)) (br_f hp_1n0 (br_t rfl (br_t (nI_lt (a := 0) hpos (by omega)) (nm_r r8.1 (br_f (fun z => Int32.not_lt.mpr z h16) (br_f (hp_ne he hB) (nm_r (nI_1 e) ⟨v1, v2, ?_⟩)))))))
    refine hy_ap_t hok' (br_f hp_1n0 (br_f (nI_ge (b := 32) hpl (by decide)) ⟨v4, v3, nm_r e5 ⟨vp_in_nI hpl (by decide), nm_r e6 (nm_r (nI_1 pl) ⟨L.length + 1, ?_⟩)⟩⟩))
    refine hy_202 (cu0 := cu) (l := L.length) (by omega) ?_ L.length 0 cu (by omega) (fun j hj => absurd hj (Nat.not_lt_zero j)) (fun j _ => rfl)
    intro cu' h1
    refine hG y2 _ _ _ _ _ _ cu' fS fP fT fX fN fL ⟨hf, Or.inl ⟨rfl, rfl, rfl, rfl, rfl, rfl, rfl, ?_⟩⟩ n (x + 1) post (by omega) (by omega) hp
    refine hp_ar_eq L 1 0 (fun j hj => ?_) r8.2
    rw [Nat.zero_add, h1 j hj, Nat.add_comm]
  · exact absurd (hp_wf_nm hW h16) r1
theorem hy_opf {n x e pl d : Nat} {y2 t : Int32} {s : Int64} {L : List Int32} {post : Int32 → SY → Prop} {pn dc cu : Nat → Int32} {fS : Nat → Int64} {fP fT fX fN fL : Nat → Int32} {j : Nat} (hB : B ≤ 1024) (hx : x < 100000) (hlen : (t :: L).length < 64) (ht : t = nI j) (hj : j < 16) (h16 : t < 16) (he : e < B) (hpl : pl ≤ 32) (hos : ∀ i, i < 16 → os i = o1 i ∧ os (16 + i) = o2 i ∧ os (32 + i) = o3 i ∧ os (48 + i) = o4 i) (hn : ¬ (pl < 32 ∧ hp_ap s (o1 t.toNatClampNeg) (o2 t.toNatClampNeg))) (hcu : hp_ar cu 0 (t :: L)) (hp : wY_plan_63 post (nI M) (nI ic) ini (nI D) (nI B) st qp qd qe xs xp n (nI (e + 1)) y2 s (nI (t :: L).length) (nI pl) (nI d) (nI d) 1 1 (nI (x + 1)) os tk mp mn sb sn it pn dc cu fS fP fT fX fN fL) : wY_plan_63 post (nI M) (nI ic) ini (nI D) (nI B) st qp qd qe xs xp (n + 1) (nI e) y2 s (nI (t :: L).length) (nI pl) (nI d) (nI d) 0 1 (nI x) os tk mp mn sb sn it pn dc cu fS fP fT fX fN fL := by
  have hpos : 0 < (t :: L).length := Nat.succ_pos _
  obtain ⟨⟨v1, v2, v3, v4⟩, a1, a2, a3, a4⟩ := hy_os ht hj hos
  refine br_f (nI_ge (b := 100000) (by omega) (by decide)) (br_f hp_1n0 (br_t rfl (br_t (nI_lt (a := 0) hpos (by omega)) (nm_r hcu.1 (br_f (fun z => Int32.not_lt.mpr z h16) (br_f (hp_ne he hB) (nm_r (nI_1 e) ⟨v1, v2, ?_⟩)))))))
  by_cases hap : hp_ap s (o1 t.toNatClampNeg) (o2 t.toNatClampNeg)
  · have hap' : hp_ap s (os t.toNatClampNeg) (os (16 + t).toNatClampNeg) := by rw [a1, a2]; exact hap
    exact hy_ap_t hap' (br_f hp_1n0 (br_t (nI_le (a := 32) (by have : ¬ pl < 32 := fun z => hn ⟨z, hap⟩; omega) (by omega)) (nm_r (nI_1 x) hp)))
  · have hap' : ¬ hp_ap s (os t.toNatClampNeg) (os (16 + t).toNatClampNeg) := by rw [a1, a2]; exact hap
    exact hy_ap_f hap' (br_t rfl (nm_r (nI_1 x) hp))
theorem hy_R4 (hB : B ≤ 1024) (hos : ∀ i, i < 16 → os i = o1 i ∧ os (16 + i) = o2 i ∧ os (32 + i) = o3 i ∧ os (48 + i) = o4 i) : hp_R4 B D (fun s j => hp_ap s (o1 j) (o2 j)) (hp_YG D B M ic ini st qp qd qe xs xp os mp mn tk sn sb it) := by
  intro k t L s pl nm e FL FS FP pn dc hW h16 he hok y2 y3 y5 y6 y7 y8 y9 cu fS fP fT fX fN fL hR n x post hn hx hp
  obtain ⟨hf, hR⟩ := hR
  obtain ⟨n, rfl⟩ : ∃ n', n = n' + 3 := ⟨n - 3, by omega⟩
  have hlen : (t :: L).length ≤ 8 + 3 * 0 := hW.1.2.1
  obtain ⟨j, hj, ht⟩ := hp_vt_lt (hW.1.1 t List.mem_cons_self) h16
  rcases hR with ⟨r1, r2, r3, r4, r5, r6, r7, r8⟩ | ⟨r1, r2, r3, r4⟩
  · subst r1 r2 r3 r4 r5 r6 r7
    exact hy_opf hB (by omega) (by omega) ht hj h16 he hW.2.1.1 hos hok r8 (hy_b0 (by omega) (hp.2 hp_2n1 cu fS fP fT fX fN fL))
  · exact absurd (hp_wf_nm hW h16) r1
theorem hy_R5 (hD : D ≤ 16) (hB : B ≤ 1024) (hos : ∀ i, i < 16 → os i = o1 i ∧ os (16 + i) = o2 i ∧ os (32 + i) = o3 i ∧ os (48 + i) = o4 i) : hp_R5 B D (fun s j => hp_ap s (o1 j) (o2 j)) (hp_YG D B M ic ini st qp qd qe xs xp os mp mn tk sn sb it) := by
  intro R k t L s pl nm e d FL FS FP pn dc hW h16 he hok hG y2 y3 y5 y6 y7 y8 y9 cu fS fP fT fX fN fL hR n x post hn hx hp
  obtain ⟨hf, hR⟩ := hR
  obtain ⟨n, rfl⟩ : ∃ n', n = n' + 1 := ⟨n - 1, by omega⟩
  have hdD : d + 1 ≤ D := hW.2.1.2.2.2
  have hlen : (t :: L).length ≤ 8 + 3 * (d + 1) := hW.1.2.1
  obtain ⟨j, hj, ht⟩ := hp_vt_lt (hW.1.1 t List.mem_cons_self) h16
  rcases hR with ⟨r1, r2, r3, r4, r5, r6, r7, r8⟩ | ⟨r1, r2, r3, r4⟩
  · subst r1 r2 r3 r4 r5 r6 r7
    exact hy_opf hB (by omega) (by omega) ht hj h16 he hW.2.1.1 hos hok r8 (hG y2 _ _ _ _ _ _ cu fS fP fT fX fN fL ⟨fun i hi => hf i (by omega), Or.inr ⟨Nat.succ_ne_zero _, rfl, rfl, hf d (Nat.lt_succ_self d)⟩⟩ n (x + 1) post (by omega) (by omega) hp)
  · exact absurd (hp_wf_nm hW h16) r1
theorem hy_hd {fS : Nat → Int64} {fP fT fX fN fL : Nat → Int32} {d pl nm : Nat} {t : Int32} {L : List Int32} {s : Int64} (h : hp_Y1 fS fP fT fX fN fL d (t :: L) s pl nm) : fT d = t := by
  obtain ⟨_, _, ⟨t', L', g1, g2⟩, _, _, _⟩ := h
  injection g1 with h1 h2
  rw [h1]
  exact g2
theorem hy_R6 (hM : M ≤ 32) (hD : D ≤ 16) : hp_R6 B D M tk (hp_YG D B M ic ini st qp qd qe xs xp os mp mn tk sn sb it) := by
  intro k t L s pl nm e FL FS FP pn dc hW h16 hnf
  refine hy_push hD hW h16 ?_
  intro y2 y3 y5 y6 y7 cu fS fP fT fX fN fL hf hY n x post hn hx hp
  obtain ⟨n, rfl⟩ : ∃ n', n = n' + 3 := ⟨n - 3, by omega⟩
  exact hy_bF (by omega) hM hW.2.1.2.1 (by omega) hY.2.2.2.1 (hy_hd hY) hnf (hy_b0 (by omega) (hp.2 hp_2n1 cu fS fP fT fX fN fL))
theorem hy_R7 (hM : M ≤ 32) (hD : D ≤ 16) : hp_R7 B D M tk (hp_YG D B M ic ini st qp qd qe xs xp os mp mn tk sn sb it) := by
  intro R k t L s pl nm e d FL FS FP pn dc hW h16 hnf hG
  refine hy_push hD hW h16 ?_
  intro y2 y3 y5 y6 y7 cu fS fP fT fX fN fL hf hY n x post hn hx hp
  have hdD : d + 1 ≤ D := hW.2.1.2.2.2
  obtain ⟨n, rfl⟩ : ∃ n', n = n' + 1 := ⟨n - 1, by omega⟩
  exact hy_bF (by omega) hM hW.2.1.2.1 (by omega) hY.2.2.2.1 (hy_hd hY) hnf (hG y2 _ _ _ _ _ _ cu fS fP fT fX fN fL ⟨fun i hi => hf i (by omega), Or.inr ⟨Nat.succ_ne_zero _, rfl, rfl, hf d (Nat.lt_succ_self d)⟩⟩ n (x + 1) post (by omega) (by omega) hp)
theorem hy_R8 (hM : M ≤ 32) (hD : D ≤ 16) : hp_R8 B D M tk (hp_YG D B M ic ini st qp qd qe xs xp os mp mn tk sn sb it) := by
  intro k t L s pl nm e d m FL FS FP pn dc hW h16 hm hfs hb
  refine hy_push hD hW h16 ?_
  intro y2 y3 y5 y6 y7 cu fS fP fT fX fN fL hf hY n x post hn hx hp
  have hdD : d ≤ D := hW.2.1.2.2.2
  obtain ⟨n, rfl⟩ : ∃ n', n = n' + 2 := ⟨n - 2, by omega⟩
  refine hy_bT (by omega) hM hm (by omega) hY.2.2.2.1 (hy_hd hY) hfs ?_
  exact br_t (nI_pos' (by omega)) (br_t (congrArg nI hb) (nm_r (nI_1 x) (hy_end0 hp_3n1 (hp.2 hp_3n1 cu fS fP fT fX fN fL))))
theorem hy_Y1u {fS : Nat → Int64} {fP fT fX fN fL : Nat → Int32} {i d pl nm : Nat} {x : Int32} {L : List Int32} {s : Int64} (h : hp_Y1 fS fP fT fX fN fL i L s pl nm) (hne : i ≠ d) : hp_Y1 fS fP fT (upd fX d x) fN fL i L s pl nm := ⟨h.1, h.2.1, h.2.2.1, (pk_un hne).trans h.2.2.2.1, h.2.2.2.2.1, h.2.2.2.2.2⟩
theorem hy_Y1s {fS : Nat → Int64} {fP fT fX fN fL : Nat → Int32} {d pl nm m : Nat} {L : List Int32} {s : Int64} (h : hp_Y1 fS fP fT fX fN fL d L s pl nm) : hp_Y1 fS fP fT (upd fX d (nI m)) fN fL d L s pl m := ⟨h.1, h.2.1, h.2.2.1, pk_us, h.2.2.2.2.1, h.2.2.2.2.2⟩
theorem hy_R10 (hM : M ≤ 32) (hD : D ≤ 16) (hB : B ≤ 1024) : hp_R10 B D M tk (fun s m => hp_ap s (mp m) (mn m)) (hp_YG D B M ic ini st qp qd qe xs xp os mp mn tk sn sb it) := by
  intro R k t L s pl nm e d m FL FS FP pn dc hW h16 hm hfs he hok hG
  refine hy_push hD hW h16 ?_
  intro y2 y3 y5 y6 y7 cu fS fP fT fX fN fL hf hY n x post hn hx hp
  have hdD : d ≤ D := hW.2.1.2.2.2
  obtain ⟨n, rfl⟩ : ∃ n', n = n' + 1 := ⟨n - 1, by omega⟩
  have hcd : (nI d).toNatClampNeg = d := nI_clamp (by omega)
  have hcm : (nI m).toNatClampNeg = m := nI_clamp (by omega)
  have hi : vp_in (nI d) 17 := vp_in_nI (by omega) (by decide)
  have hv : vp_in (nI m) 32 := vp_in_nI (by omega) (by decide)
  have e1 : upd fX (nI d).toNatClampNeg (nI m + 1) = upd fX d (nI (m + 1)) := by rw [hcd, nI_1]
  have hc : wY_plan_63 post (nI M) (nI ic) ini (nI D) (nI B) st qp qd qe xs xp n (nI (e + 1)) y2 y3 y5 y6 y7 (nI (d + 1)) 1 1 (nI (x + 1)) os tk mp mn sb sn it pn dc cu fS fP fT (upd fX d (nI (m + 1))) fN fL := hG y2 y3 y5 y6 y7 _ _ cu fS fP fT _ fN fL ⟨fun i hi => hy_Y1u (hf i hi) (by omega), Or.inr ⟨Nat.succ_ne_zero _, rfl, rfl, hy_Y1s hY⟩⟩ n (x + 1) post (by omega) (by omega) hp
  refine hy_bT (by omega) hM hm (by omega) hY.2.2.2.1 (hy_hd hY) hfs ?_
  refine br_t (nI_pos' (by omega)) (br_f (hp_ne he hB) (nm_r (nI_1 e) ⟨hi, nm_r e1 ⟨hv, hv, hi, ?_⟩⟩))
  by_cases hap : hp_ap s (mp m) (mn m)
  · have hap' : hp_ap (fS (nI d).toNatClampNeg) (mp (nI m).toNatClampNeg) (mn (nI m).toNatClampNeg) := by rw [hcd, hcm, hY.1]; exact hap
    exact hy_ap_t hap' (br_f hp_1n0 (br_t (nI_le (by have : ¬ d < D := fun z => hok ⟨z, hap⟩; omega) (by omega)) (nm_r (nI_1 x) hc)))
  · have hap' : ¬ hp_ap (fS (nI d).toNatClampNeg) (mp (nI m).toNatClampNeg) (mn (nI m).toNatClampNeg) := by rw [hcd, hcm, hY.1]; exact hap
    exact hy_ap_f hap' (br_t rfl (nm_r (nI_1 x) hc))
theorem hy_R9 (hM : M ≤ 32) (hD : D ≤ 16) (hB : B ≤ 1024) (hsn : hp_nb 5 sn) : hp_R9 B D M tk (fun m => hp_sl (fun i => sb (m * 4 + i)) 0 (sn m).toNatClampNeg) (fun s m => hp_ap s (mp m) (mn m)) (hp_YG D B M ic ini st qp qd qe xs xp os mp mn tk sn sb it) := by
  intro R k t L s pl nm e d m FL FS FP pn dc hW h16 hm hfs he hdD hok hG
  refine hy_push hD hW h16 ?_
  intro y2 y3 y5 y6 y7 cu fS fP fT fX fN fL hf hY n x post hn hx hp
  obtain ⟨n, rfl⟩ : ∃ n', n = n' + 1 := ⟨n - 1, by omega⟩
  have hlen : (t :: L).length ≤ 8 + 3 * d := hW.1.2.1
  have hlc : (t :: L).length = L.length + 1 := rfl
  obtain ⟨hs1, hs2⟩ := hp_nb_c hsn (by decide) m
  have hcd : (nI d).toNatClampNeg = d := nI_clamp (by omega)
  have hcm : (nI m).toNatClampNeg = m := nI_clamp (by omega)
  have hi : vp_in (nI d) 17 := vp_in_nI (by omega) (by decide)
  have hv : vp_in (nI m) 32 := vp_in_nI (by omega) (by decide)
  have e1 : upd fX (nI d).toNatClampNeg (nI m + 1) = upd fX d (nI (m + 1)) := by rw [hcd, nI_1]
  have e2 : fS (nI d).toNatClampNeg = s := by rw [hcd]; exact hY.1
  have e3 : fP (nI d).toNatClampNeg = nI pl := by rw [hcd]; exact hY.2.1
  have e4 : sn (nI m).toNatClampNeg = nI (sn m).toNatClampNeg := by rw [hcm]; exact hs2
  have hap' : hp_ap (fS (nI d).toNatClampNeg) (mp (nI m).toNatClampNeg) (mn (nI m).toNatClampNeg) := by rw [hcd, hcm, hY.1]; exact hok
  refine hy_bT (by omega) hM hm (by omega) hY.2.2.2.1 (hy_hd hY) hfs ?_
  refine br_t (nI_pos' (by omega)) (br_f (hp_ne he hB) (nm_r (nI_1 e) ⟨hi, nm_r e1 ⟨hv, hv, hi, ?_⟩⟩))
  refine hy_ap_t hap' (br_f hp_1n0 (br_f (nI_ge hdD (by omega)) ⟨hi, nm_r e2 ⟨hi, nm_r e3 ⟨hv, nm_r e4 ⟨(sn m).toNatClampNeg + 1, ?_⟩⟩⟩⟩))
  refine hy_536 (cnt := (sn m).toNatClampNeg) (by omega) (by omega) ?_ (sn m).toNatClampNeg 0 cu (by omega) (fun j hj => absurd hj (Nat.not_lt_zero j))
  intro cu1 h1
  refine ⟨L.length + 1, hy_575 (l := L.length) (cnt := (sn m).toNatClampNeg) (by omega) (by omega) hY.2.2.2.2.1 ?_ L.length 0 cu1 (by omega) h1 (fun j hj => absurd hj (Nat.not_lt_zero j))⟩
  intro cu2 h2 h3
  refine hG y2 s _ _ _ _ _ cu2 fS fP fT _ fN fL ⟨?_, Or.inl ⟨rfl, rfl, rfl, ?_, rfl, rfl, rfl, ?_⟩⟩ n (x + 1) post (by omega) (by omega) hp
  · intro i hi2
    by_cases hid : i = d
    · subst hid
      rw [hp_us, hp_us, hp_us, pk_us, hcm]
      exact hy_Y1s hY
    · rw [hp_un hid, hp_un hid, hp_un hid, pk_un hid]
      exact hy_Y1u (hf i (by omega)) hid
  · rw [List.length_append, hp_sl_len]
  · refine hp_ar_app _ _ 0 (hp_ar_sl _ 0 0 (fun j hj => ?_)) (hp_ar_eq L (d * 64 + 1) _ (fun j hj => ?_) hY.2.2.2.2.2.2)
    · rw [Nat.zero_add]
      exact h2 j hj
    · rw [hp_sl_len, Nat.zero_add]
      exact h3 j hj
theorem hy_rules (hM : M ≤ 32) (hD : D ≤ 16) (hB : B ≤ 1024) (hsn : hp_nb 5 sn) (hos : ∀ i, i < 16 → os i = o1 i ∧ os (16 + i) = o2 i ∧ os (32 + i) = o3 i ∧ os (48 + i) = o4 i) : hp_Rules B D M tk (fun m => hp_sl (fun i => sb (m * 4 + i)) 0 (sn m).toNatClampNeg) (fun s j => hp_ap s (o1 j) (o2 j)) (fun s j => (s &&& (o4 j ^^^ (-1))) ||| o3 j) (fun s m => hp_ap s (mp m) (mn m)) (hp_YG D B M ic ini st qp qd qe xs xp os mp mn tk sn sb it) :=
  ⟨hy_R1, hy_R2 hD, hy_R3 hD hB hos, hy_R4 hB hos, hy_R5 hD hB hos, hy_R6 hM hD, hy_R7 hM hD, hy_R8 hM hD, hy_R9 hM hD hB hsn, hy_R10 hM hD hB⟩
theorem hx_rules (hM : M ≤ 32) (hD : D ≤ 16) (hB : B ≤ 1024) (hsn : hp_nb 5 sn) : hp_Rules B D M tk (fun m => hp_sl (fun i => sb (m * 4 + i)) 0 (sn m).toNatClampNeg) (fun s j => hp_ap s (o1 j) (o2 j)) (fun s j => (s &&& (o4 j ^^^ (-1))) ||| o3 j) (fun s m => hp_ap s (mp m) (mn m)) (hp_XG D B M ic ini st xs xp o1 o2 o3 o4 mp mn tk sn sb it) :=
  ⟨hx_R1, hx_R2 hB, hx_R3 hB, hx_R4 hB, hx_R5 hB hD, hx_R6 hM, hx_R7 hM hD, hx_R8 hM hB, hx_R9 hM hB hD hsn, hx_R10 hM hB hD⟩
end
end
section
def hp_os (os o1 o2 o3 o4 : Nat → Int64) : Prop := ∀ i, i < 16 → os i = o1 i ∧ os (16 + i) = o2 i ∧ os (32 + i) = o3 i ∧ os (48 + i) = o4 i
def hp_J (D B M ic pl d ep : Nat) (os o1 o2 o3 o4 mp mn : Nat → Int64) (sn sb it pn dc : Nat → Int32) : Prop :=
  (D ≤ 16 ∧ B ≤ 1024 ∧ M ≤ 32 ∧ ic ≤ 8 ∧ pl ≤ 32 ∧ d ≤ 16 ∧ ep ≤ 32) ∧ hp_os os o1 o2 o3 o4 ∧ (∀ i, M ≤ i → mp i = 0 ∧ mn i = 0 ∧ sn i = 0) ∧ hp_nb 5 sn ∧ hp_nb 32 sb ∧ hp_nb 32 it ∧ hp_nb 16 pn ∧ hp_nb 32 dc
def i_Rel (_ : Nat) (u : SX) (v : SY) : Prop := ∃ (D B M ic pl d ep : Nat) (ini : Int64) (st e : Int32) (xs : Int64) (c : Int32) (s : Int64) (nm : Int32) (os o1 o2 o3 o4 mp mn : Nat → Int64) (tk sn sb it pn dc ct cn sc : Nat → Int32) (ss : Nat → Int64) (sp cu : Nat → Int32) (fS : Nat → Int64) (fP fT fX fN fL : Nat → Int32), u = (nI D, nI B, nI M, nI ic, ini, st, e, nI pl, nI d, xs, nI ep, c, s, nm, o1, o2, o3, o4, mp, mn, tk, sn, sb, it, pn, dc, ct, cn, sc, ss, sp) ∧ v = (nI M, nI ic, ini, nI D, nI B, st, nI pl, nI d, e, xs, nI ep, os, tk, mp, mn, sb, sn, it, pn, dc, cu, fS, fP, fT, fX, fN, fL) ∧ hp_J D B M ic pl d ep os o1 o2 o3 o4 mp mn sn sb it pn dc
theorem i_up {k : Nat} {u : SX} {v : SY} (h : i_Rel k u v) : i_Rel (k + 5) u v := h
section
variable {D B M ic pl d ep : Nat} {ini : Int64} {st e : Int32} {xs : Int64} {c : Int32} {s : Int64} {nm : Int32} {os o1 o2 o3 o4 mp mn : Nat → Int64} {tk sn sb it pn dc ct cn sc : Nat → Int32} {ss : Nat → Int64} {sp cu : Nat → Int32} {fS : Nat → Int64} {fP fT fX fN fL : Nat → Int32}
theorem hp_mk {k : Nat} (h : hp_J D B M ic pl d ep os o1 o2 o3 o4 mp mn sn sb it pn dc) : i_Rel k (nI D, nI B, nI M, nI ic, ini, st, e, nI pl, nI d, xs, nI ep, c, s, nm, o1, o2, o3, o4, mp, mn, tk, sn, sb, it, pn, dc, ct, cn, sc, ss, sp) (nI M, nI ic, ini, nI D, nI B, st, nI pl, nI d, e, xs, nI ep, os, tk, mp, mn, sb, sn, it, pn, dc, cu, fS, fP, fT, fX, fN, fL) := ⟨D, B, M, ic, pl, d, ep, ini, st, e, xs, c, s, nm, os, o1, o2, o3, o4, mp, mn, tk, sn, sb, it, pn, dc, ct, cn, sc, ss, sp, cu, fS, fP, fT, fX, fN, fL, rfl, rfl, h⟩
theorem hx_disc {gD gB gM gI ge gp gd gn gx : Int32} {post : SX → Prop} (hp : post (gD, gB, gM, gI, ini, 0, 0, 0, 0, ini, 0, c, s, gn, o1, o2, o3, o4, mp, mn, tk, sn, sb, it, pn, dc, ct, cn, sc, ss, sp)) : wpX_discard post (gD, gB, gM, gI, ini, st, ge, gp, gd, xs, gx, c, s, gn, o1, o2, o3, o4, mp, mn, tk, sn, sb, it, pn, dc, ct, cn, sc, ss, sp) := hp
theorem hy_disc {gD gB gM gI ge gp gd gx : Int32} {post : SY → Prop} (hp : post (gM, gI, ini, gD, gB, 0, 0, 0, 0, ini, 0, os, tk, mp, mn, sb, sn, it, pn, dc, cu, fS, fP, fT, fX, fN, fL)) : wpY_discard post (gM, gI, ini, gD, gB, st, gp, gd, ge, xs, gx, os, tk, mp, mn, sb, sn, it, pn, dc, cu, fS, fP, fT, fX, fN, fL) := hp
end
theorem hv_c (p : Int32) (n : Nat) (hn : 1 ≤ n) (hn2 : n < 2 ^ 31) : ∃ j : Nat, j ≤ n ∧ (∀ post : Int32 → Prop, post (nI j) → wpX_clamp post p (nI n)) ∧ (∀ P : Int32 → Prop, P (nI j) → (1 ≤ p → (p ≤ nI n → P p) ∧ (¬ p ≤ nI n → P (nI n))) ∧ (¬ 1 ≤ p → (1 ≤ nI n → P 1) ∧ (¬ 1 ≤ nI n → P (nI n)))) := by
  by_cases h1 : 1 ≤ p
  · by_cases h2 : p ≤ nI n
    · have h0 : ¬ p < 0 := Int32.not_lt.mpr (Int32.le_trans (by decide : (0 : Int32) ≤ 1) h1)
      obtain ⟨j, hj, rfl⟩ := nI_of2 (nI_toInt hn2) h0 h2
      exact ⟨j, hj, fun post hp => br_t h1 (br_t h2 hp), fun P hp => br_t h1 (br_t h2 hp)⟩
    · exact ⟨n, Nat.le_refl n, fun post hp => br_t h1 (br_f h2 hp), fun P hp => br_t h1 (br_f h2 hp)⟩
  · exact ⟨1, hn, fun post hp => br_f h1 hp, fun P hp => br_f h1 (br_t (nI_le (a := 1) hn hn2) hp)⟩
theorem hp_nb0 (N : Nat) (h : 0 < N) : hp_nb N (fun _ => 0) := fun _ => ⟨0, h, rfl⟩
theorem i_vc0 (k0 : Int32) (k1 : Int32) : wpX_init (fun u => wpY_init (fun v => i_Rel 2 u v) k0 k1) k0 k1 := by
  obtain ⟨D, hD, x1, y1⟩ := hv_c k0 16 (by decide) (by decide)
  obtain ⟨B, hB, x2, y2⟩ := hv_c k1 1024 (by decide) (by decide)
  have hJ : hp_J D B 0 0 0 0 0 (fun _ => 0) (fun _ => 0) (fun _ => 0) (fun _ => 0) (fun _ => 0) (fun _ => 0) (fun _ => 0) (fun _ => 0) (fun _ => 0) (fun _ => 0) (fun _ => 0) (fun _ => 0) := ⟨⟨hD, hB, by decide, by decide, by decide, by decide, by decide⟩, fun i _ => ⟨rfl, rfl, rfl, rfl⟩, fun i _ => ⟨rfl, rfl, rfl⟩, hp_nb0 5 (by decide), hp_nb0 32 (by decide), hp_nb0 32 (by decide), hp_nb0 16 (by decide), hp_nb0 32 (by decide)⟩
  refine x1 _ (x2 _ ?_)
  refine y1 (fun z => wY_init_152 _ k1 z 0 0 0 0 0 0 0 0 0 0 0 (fun _ => 0) (fun _ => 0) (fun _ => 0) (fun _ => 0) (fun _ => 0) (fun _ => 0) (fun _ => 0) (fun _ => 0) (fun _ => 0) (fun _ => 0) (fun _ => 0) (fun _ => 0) (fun _ => 0) (fun _ => 0) (fun _ => 0) (fun _ => 0)) ?_
  refine y2 (fun z => (fun v => i_Rel 2 _ v) (0, 0, 0, nI D, z, 0, 0, 0, 0, 0, 0, (fun _ => 0), (fun _ => 0), (fun _ => 0), (fun _ => 0), (fun _ => 0), (fun _ => 0), (fun _ => 0), (fun _ => 0), (fun _ => 0), (fun _ => 0), (fun _ => 0), (fun _ => 0), (fun _ => 0), (fun _ => 0), (fun _ => 0), (fun _ => 0))) ?_
  exact hp_mk (pl := 0) (d := 0) (ep := 0) (M := 0) (ic := 0) hJ
end
section
theorem hp_slv {g : Nat → Int32} (h : hp_nb 32 g) : ∀ i, hp_vt (g i) := fun i => h i
section
variable {D B M ic : Nat} {ini : Int64} {st qp qd qe : Int32} {xs : Int64} {xp : Int32} {os mp mn : Nat → Int64} {tk sn sb it pn dc cu : Nat → Int32} {fS : Nat → Int64} {fP fT fX fN fL : Nat → Int32}
theorem hy_plan {post : Int32 → SY → Prop} {R : hp_R} {k : Nat} {FL : Nat → List Int32} {FS : Nat → Int64} {FP : Nat → Nat} (hic : ic ≤ 8) (hk : 3 * k < 100000) (gy : hp_YG D B M ic ini st qp qd qe xs xp os mp mn tk sn sb it R k (hp_sl it 0 ic) ini 0 0 0 0 FL FS FP pn dc) (hF : hp_YF D B M ic ini os mp mn tk sn sb it R post) : wpY_plan post (nI M, nI ic, ini, nI D, nI B, st, qp, qd, qe, xs, xp, os, tk, mp, mn, sb, sn, it, pn, dc, cu, fS, fP, fT, fX, fN, fL) := by
  refine ⟨9, hy_12 ?_ 8 0 cu rfl (fun j hj => absurd hj (Nat.not_lt_zero j))⟩
  intro cu' h1
  refine ⟨3 * k + 1, gy 2 ini (nI ic) 0 0 0 0 cu' fS fP fT fX fN fL ⟨fun i hi => absurd hi (Nat.not_lt_zero i), Or.inl ⟨rfl, rfl, rfl, congrArg nI (hp_sl_len it ic 0).symm, rfl, rfl, rfl, hp_ar_sl ic 0 0 (fun j hj => ?_)⟩⟩ (3 * k + 1) 0 post (by omega) (by omega) hF⟩
  rw [Nat.zero_add]
  exact h1 j (by omega)
end
theorem i_vc_plan {k : Nat} {u : SX} {v : SY} (I : i_Rel k u v) (hk : k + 5 ≤ 2562) : wpX_plan (fun r u' => wpY_plan (fun r' v' => r' = r ∧ i_Rel (k + 5) u' v') v) u := by
  obtain ⟨D, B, M, ic, pl, d, ep, ini, st, e, xs, c, s, nm, os, o1, o2, o3, o4, mp, mn, tk, sn, sb, it, pn, dc, ct, cn, sc, ss, sp, cu, fS, fP, fT, fX, fN, fL, rfl, rfl, hJ⟩ := I
  have hJ0 := hJ
  obtain ⟨⟨hD, hB, hM, hic, hpl, hd, hep⟩, hos, hz, hsn, hsb, hit, hpn, hdc⟩ := hJ
  have hW : hp_WF B D (hp_sl it 0 ic) 0 0 0 0 (fun _ => []) (fun _ => 0) pn dc := ⟨⟨hp_sl_mem (hp_slv hit) ic 0, by rw [hp_sl_len]; omega, fun z => absurd rfl z⟩, ⟨by decide, by decide, by omega, by omega⟩, fun i hi => absurd hi (Nat.not_lt_zero i), hpn, hdc⟩
  have hsub : ∀ m, m < M → (∀ t, t ∈ hp_sl (fun i => sb (m * 4 + i)) 0 (sn m).toNatClampNeg → hp_vt t) ∧ (hp_sl (fun i => sb (m * 4 + i)) 0 (sn m).toNatClampNeg).length ≤ 4 := by
    intro m _
    refine ⟨hp_sl_mem (fun i => hsb (m * 4 + i)) _ 0, ?_⟩
    rw [hp_sl_len]
    have := (hp_nb_c hsn (by decide) m).1
    omega
  obtain ⟨R, hR, gx, gy⟩ := hp_main hM hD hsub (hx_rules (ic := ic) (ini := ini) (st := 0) (xs := ini) (xp := 0) (o1 := o1) (o2 := o2) (o3 := o3) (o4 := o4) (mp := mp) (mn := mn) (tk := tk) (sb := sb) (it := it) hM hD hB hsn) (hy_rules (ic := ic) (ini := ini) (st := st) (qp := nI pl) (qd := nI d) (qe := e) (xs := xs) (xp := nI ep) (mp := mp) (mn := mn) (tk := tk) (sb := sb) (it := it) hM hD hB hsn hos) (2 * B + 1) (hp_sl it 0 ic) ini 0 0 0 0 (fun _ => []) (fun _ => 0) (fun _ => 0) pn dc hW (by omega)
  obtain ⟨g1, g2, g3, g4, g5⟩ := hR
  unfold wpX_plan
  refine hx_disc ?_
  refine hx_start (e := 0) (pl := 0) (d := 0) hic (fun c' ct' cn' hch => ?_)
  refine ⟨2 * B + 2, gx c' ct' cn' sc ss sp hch (fun i hi => absurd hi (Nat.not_lt_zero i)) (2 * B + 2) 0 _ (by omega) (by omega) ?_⟩
  intro c s nm ct cn sc ss sp
  by_cases h1 : R.1 = 1
  · refine br_t h1 ?_
    refine hy_plan hic (by omega) gy ⟨fun _ cu fS fP fT fX fN fL => ⟨rfl, hp_mk (ep := 0) ⟨⟨hD, hB, hM, hic, g1, g2, by decide⟩, hos, hz, hsn, hsb, hit, g4, g5⟩⟩, fun z => absurd h1 z⟩
  · refine br_f h1 ?_
    refine hy_plan hic (by omega) gy ⟨fun z => absurd z h1, fun _ cu fS fP fT fX fN fL => ⟨rfl, hp_mk (pl := 0) (d := 0) (ep := 0) ⟨⟨hD, hB, hM, hic, by decide, by decide, by decide⟩, hos, hz, hsn, hsb, hit, g4, g5⟩⟩⟩
end
section
theorem i_vc_clearInitialTasks {k : Nat} {u : SX} {v : SY} (I : i_Rel k u v) (hk : k + 5 ≤ 2562) : wpX_clearInitialTasks (fun u' => wpY_clearInitialTasks (fun v' => i_Rel (k + 5) u' v') v) u := by
  obtain ⟨D, B, M, ic, pl, d, ep, ini, st, e, xs, c, s, nm, os, o1, o2, o3, o4, mp, mn, tk, sn, sb, it, pn, dc, ct, cn, sc, ss, sp, cu, fS, fP, fT, fX, fN, fL, rfl, rfl, hJ⟩ := I
  have hJ0 := hJ
  obtain ⟨⟨hD, hB, hM, hic, hpl, hd, hep⟩, hos, hz, hsn, hsb, hit, hpn, hdc⟩ := hJ
  unfold wpX_clearInitialTasks wpY_clearInitialTasks
  refine hx_disc (hy_disc ?_)
  exact hp_mk (ic := 0) (pl := 0) (d := 0) (ep := 0) ⟨⟨hD, hB, hM, by decide, by decide, by decide, by decide⟩, hos, hz, hsn, hsb, hit, hpn, hdc⟩
theorem i_vc_getInitialTask {k : Nat} {u : SX} {v : SY} (I : i_Rel k u v) (hk : k + 5 ≤ 2562) (v1 : Int32) : wpX_getInitialTask (fun r => wpY_getInitialTask (fun r' => r' = r ∧ i_Rel (k + 5) u v) v v1) u v1 := by
  obtain ⟨D, B, M, ic, pl, d, ep, ini, st, e, xs, c, s, nm, os, o1, o2, o3, o4, mp, mn, tk, sn, sb, it, pn, dc, ct, cn, sc, ss, sp, cu, fS, fP, fT, fX, fN, fL, rfl, rfl, hJ⟩ := I
  have hJ0 := hJ
  obtain ⟨⟨hD, hB, hM, hic, hpl, hd, hep⟩, hos, hz, hsn, hsb, hit, hpn, hdc⟩ := hJ
  rcases pk_ix v1 (n := ic) (by omega) with h | h | ⟨j, hj, rfl⟩
  · exact br_t h (br_t h ⟨rfl, hp_mk hJ0⟩)
  · have h0 : ¬ v1 < 0 := Int32.not_lt.mpr (Int32.le_trans (nI_pos' (by omega)) h)
    exact br_f h0 (br_t h (br_f h0 (br_f (Int32.not_lt.mpr h) ⟨rfl, hp_mk hJ0⟩)))
  · have hi : vp_in (nI j) 8 := vp_in_nI (by omega) (by decide)
    exact br_f (nI_pos (by omega)) (br_f (nI_ge hj (by omega)) ⟨hi, br_f (nI_pos (by omega)) (br_t (nI_lt hj (by omega)) ⟨hi, rfl, hp_mk hJ0⟩)⟩)
theorem i_vc_getPlanStep {k : Nat} {u : SX} {v : SY} (I : i_Rel k u v) (hk : k + 5 ≤ 2562) (v1 : Int32) : wpX_getPlanStep (fun r => wpY_getPlanStep (fun r' => r' = r ∧ i_Rel (k + 5) u v) v v1) u v1 := by
  obtain ⟨D, B, M, ic, pl, d, ep, ini, st, e, xs, c, s, nm, os, o1, o2, o3, o4, mp, mn, tk, sn, sb, it, pn, dc, ct, cn, sc, ss, sp, cu, fS, fP, fT, fX, fN, fL, rfl, rfl, hJ⟩ := I
  have hJ0 := hJ
  obtain ⟨⟨hD, hB, hM, hic, hpl, hd, hep⟩, hos, hz, hsn, hsb, hit, hpn, hdc⟩ := hJ
  rcases pk_ix v1 (n := pl) (by omega) with h | h | ⟨j, hj, rfl⟩
  · exact br_t h (br_t h ⟨rfl, hp_mk hJ0⟩)
  · have h0 : ¬ v1 < 0 := Int32.not_lt.mpr (Int32.le_trans (nI_pos' (by omega)) h)
    exact br_f h0 (br_t h (br_f h0 (br_f (Int32.not_lt.mpr h) ⟨rfl, hp_mk hJ0⟩)))
  · have hi : vp_in (nI j) 32 := vp_in_nI (by omega) (by decide)
    exact br_f (nI_pos (by omega)) (br_f (nI_ge hj (by omega)) ⟨hi, br_f (nI_pos (by omega)) (br_t (nI_lt hj (by omega)) ⟨hi, rfl, hp_mk hJ0⟩)⟩)
theorem i_vc_getDecompMethod {k : Nat} {u : SX} {v : SY} (I : i_Rel k u v) (hk : k + 5 ≤ 2562) (v1 : Int32) : wpX_getDecompMethod (fun r => wpY_getDecompMethod (fun r' => r' = r ∧ i_Rel (k + 5) u v) v v1) u v1 := by
  obtain ⟨D, B, M, ic, pl, d, ep, ini, st, e, xs, c, s, nm, os, o1, o2, o3, o4, mp, mn, tk, sn, sb, it, pn, dc, ct, cn, sc, ss, sp, cu, fS, fP, fT, fX, fN, fL, rfl, rfl, hJ⟩ := I
  have hJ0 := hJ
  obtain ⟨⟨hD, hB, hM, hic, hpl, hd, hep⟩, hos, hz, hsn, hsb, hit, hpn, hdc⟩ := hJ
  rcases pk_ix v1 (n := d) (by omega) with h | h | ⟨j, hj, rfl⟩
  · exact br_t h (br_t h ⟨rfl, hp_mk hJ0⟩)
  · have h0 : ¬ v1 < 0 := Int32.not_lt.mpr (Int32.le_trans (nI_pos' (by omega)) h)
    exact br_f h0 (br_t h (br_f h0 (br_f (Int32.not_lt.mpr h) ⟨rfl, hp_mk hJ0⟩)))
  · have hi : vp_in (nI j) 16 := vp_in_nI (by omega) (by decide)
    exact br_f (nI_pos (by omega)) (br_f (nI_ge hj (by omega)) ⟨hi, br_f (nI_pos (by omega)) (br_t (nI_lt hj (by omega)) ⟨hi, rfl, hp_mk hJ0⟩)⟩)
theorem i_vc_resetExecutor {k : Nat} {u : SX} {v : SY} (I : i_Rel k u v) (hk : k + 5 ≤ 2562) : wpX_resetExecutor (fun u' => wpY_resetExecutor (fun v' => i_Rel (k + 5) u' v') v) u := by
  obtain ⟨D, B, M, ic, pl, d, ep, ini, st, e, xs, c, s, nm, os, o1, o2, o3, o4, mp, mn, tk, sn, sb, it, pn, dc, ct, cn, sc, ss, sp, cu, fS, fP, fT, fX, fN, fL, rfl, rfl, hJ⟩ := I
  have hJ0 := hJ
  obtain ⟨⟨hD, hB, hM, hic, hpl, hd, hep⟩, hos, hz, hsn, hsb, hit, hpn, hdc⟩ := hJ
  exact hp_mk (k := k + 5) (ep := 0) ⟨⟨hD, hB, hM, hic, hpl, hd, by decide⟩, hos, hz, hsn, hsb, hit, hpn, hdc⟩
theorem i_vc_getExecState {k : Nat} {u : SX} {v : SY} (I : i_Rel k u v) (hk : k + 5 ≤ 2562) : wpX_getExecState (fun r => wpY_getExecState (fun r' => r' = r ∧ i_Rel (k + 5) u v) v) u := by
  obtain ⟨D, B, M, ic, pl, d, ep, ini, st, e, xs, c, s, nm, os, o1, o2, o3, o4, mp, mn, tk, sn, sb, it, pn, dc, ct, cn, sc, ss, sp, cu, fS, fP, fT, fX, fN, fL, rfl, rfl, hJ⟩ := I
  have hJ0 := hJ
  obtain ⟨⟨hD, hB, hM, hic, hpl, hd, hep⟩, hos, hz, hsn, hsb, hit, hpn, hdc⟩ := hJ
  exact ⟨rfl, hp_mk hJ0⟩
theorem hv_neg {v : Int32} (h : v < 0) (a : Nat) (ha : a < 2 ^ 31) : ¬ v = nI a := by
  intro z
  rw [z] at h
  exact nI_pos ha h
theorem hv_big {v : Int32} {b : Nat} (hb : b < 2 ^ 31) (h : nI b ≤ v) (a : Nat) (ha : a < b) : ¬ v = nI a := by
  intro z
  rw [z] at h
  exact nI_ge ha hb h
theorem hv_get {k : Nat} {u : SX} {v : SY} {r r' : Int32} (I : i_Rel k u v) (h : r' = r) : r' = r ∧ i_Rel (k + 5) u v := ⟨h, I⟩
theorem i_vc_getInfo {k : Nat} {u : SX} {v : SY} (I : i_Rel k u v) (hk : k + 5 ≤ 2562) (v1 : Int32) : wpX_getInfo (fun r => wpY_getInfo (fun r' => r' = r ∧ i_Rel (k + 5) u v) v v1) u v1 := by
  obtain ⟨D, B, M, ic, pl, d, ep, ini, st, e, xs, c, s, nm, os, o1, o2, o3, o4, mp, mn, tk, sn, sb, it, pn, dc, ct, cn, sc, ss, sp, cu, fS, fP, fT, fX, fN, fL, rfl, rfl, hJ⟩ := I
  have hJ0 := hJ
  obtain ⟨⟨hD, hB, hM, hic, hpl, hd, hep⟩, hos, hz, hsn, hsb, hit, hpn, hdc⟩ := hJ
  rcases pk_ix v1 (n := 9) (by omega) with h | h | ⟨j, hj, rfl⟩
  · exact br_t h (br_f (hv_neg h 0 (by decide)) (br_f (hv_neg h 1 (by decide)) (br_f (hv_neg h 2 (by decide)) (br_f (hv_neg h 3 (by decide)) (br_f (hv_neg h 4 (by decide)) (br_f (hv_neg h 5 (by decide)) (br_f (hv_neg h 6 (by decide)) (br_f (hv_neg h 7 (by decide)) (br_f (hv_neg h 8 (by decide)) ⟨rfl, hp_mk hJ0⟩)))))))))
  · have h0 : ¬ v1 < 0 := Int32.not_lt.mpr (Int32.le_trans (nI_pos' (by decide)) h)
    have h8 : (8 : Int32) < v1 := Int32.lt_of_lt_of_le (by decide : (8 : Int32) < nI 9) h
    exact br_f h0 (br_t h8 (br_f (hv_big (by decide) h 0 (by decide)) (br_f (hv_big (by decide) h 1 (by decide)) (br_f (hv_big (by decide) h 2 (by decide)) (br_f (hv_big (by decide) h 3 (by decide)) (br_f (hv_big (by decide) h 4 (by decide)) (br_f (hv_big (by decide) h 5 (by decide)) (br_f (hv_big (by decide) h 6 (by decide)) (br_f (hv_big (by decide) h 7 (by decide)) (br_f (hv_big (by decide) h 8 (by decide)) ⟨rfl, hp_mk hJ0⟩))))))))))
  · have hn : ¬ nI j < 0 := nI_pos (by omega)
    have h8 : ¬ (8 : Int32) < nI j := nI_nlt (a := 8) (by omega) (by decide)
    have hc : j = 0 ∨ j = 1 ∨ j = 2 ∨ j = 3 ∨ j = 4 ∨ j = 5 ∨ j = 6 ∨ j = 7 ∨ j = 8 := by omega
    rcases hc with rfl | rfl | rfl | rfl | rfl | rfl | rfl | rfl | rfl
    · exact br_f hn (br_f h8 (br_t (by decide) (br_t (by decide) ⟨rfl, hp_mk hJ0⟩)))
    · exact br_f hn (br_f h8 (br_f (by decide) (br_t (by decide) (br_f (by decide) (br_t (by decide) ⟨rfl, hp_mk hJ0⟩)))))
    · exact br_f hn (br_f h8 (br_f (by decide) (br_f (by decide) (br_t (by decide) (br_f (by decide) (br_f (by decide) (br_t (by decide) ⟨rfl, hp_mk hJ0⟩)))))))
    · exact br_f hn (br_f h8 (br_f (by decide) (br_f (by decide) (br_f (by decide) (br_t (by decide) (br_f (by decide) (br_f (by decide) (br_f (by decide) (br_t (by decide) ⟨rfl, hp_mk hJ0⟩)))))))))
    · exact br_f hn (br_f h8 (br_f (by decide) (br_f (by decide) (br_f (by decide) (br_f (by decide) (br_t (by decide) (br_f (by decide) (br_f (by decide) (br_f (by decide) (br_f (by decide) (br_t (by decide) ⟨rfl, hp_mk hJ0⟩)))))))))))
    · exact br_f hn (br_f h8 (br_f (by decide) (br_f (by decide) (br_f (by decide) (br_f (by decide) (br_f (by decide) (br_t (by decide) (br_f (by decide) (br_f (by decide) (br_f (by decide) (br_f (by decide) (br_f (by decide) (br_t (by decide) ⟨rfl, hp_mk hJ0⟩)))))))))))))
    · exact br_f hn (br_f h8 (br_f (by decide) (br_f (by decide) (br_f (by decide) (br_f (by decide) (br_f (by decide) (br_f (by decide) (br_t (by decide) (br_f (by decide) (br_f (by decide) (br_f (by decide) (br_f (by decide) (br_f (by decide) (br_f (by decide) (br_t (by decide) ⟨rfl, hp_mk hJ0⟩)))))))))))))))
    · exact br_f hn (br_f h8 (br_f (by decide) (br_f (by decide) (br_f (by decide) (br_f (by decide) (br_f (by decide) (br_f (by decide) (br_f (by decide) (br_t (by decide) (br_f (by decide) (br_f (by decide) (br_f (by decide) (br_f (by decide) (br_f (by decide) (br_f (by decide) (br_f (by decide) (br_t (by decide) ⟨rfl, hp_mk hJ0⟩)))))))))))))))))
    · exact br_f hn (br_f h8 (br_f (by decide) (br_f (by decide) (br_f (by decide) (br_f (by decide) (br_f (by decide) (br_f (by decide) (br_f (by decide) (br_f (by decide) (br_t (by decide) (br_f (by decide) (br_f (by decide) (br_f (by decide) (br_f (by decide) (br_f (by decide) (br_f (by decide) (br_f (by decide) (br_f (by decide) (br_t (by decide) ⟨rfl, hp_mk hJ0⟩)))))))))))))))))))
end
section
theorem hv_b0 : narrow .boolean (.int 0) = .int 0 := rfl
theorem hv_b1 : narrow .boolean (.int 1) = .int 1 := rfl
section
variable {M : Nat} {gD gB gI ge gp gd gn gx : Int32} {ini : Int64} {st : Int32} {xs : Int64} {c : Int32} {s : Int64} {os o1 o2 o3 o4 mp mn : Nat → Int64} {tk sn sb it pn dc ct cn sc : Nat → Int32} {ss : Nat → Int64} {sp cu : Nat → Int32} {fS : Nat → Int64} {fP fT fX fN fL : Nat → Int32}
theorem hx_im_lt {post : Int32 → Prop} {i : Int32} (h : i < 0) (hp : post 0) : wpX_isMethod post (gD, gB, nI M, gI, ini, st, ge, gp, gd, xs, gx, c, s, gn, o1, o2, o3, o4, mp, mn, tk, sn, sb, it, pn, dc, ct, cn, sc, ss, sp) i := br_t h hp
theorem hx_im_ge {post : Int32 → Prop} {i : Int32} (hM : M ≤ 32) (h : nI M ≤ i) (hp : post 0) : wpX_isMethod post (gD, gB, nI M, gI, ini, st, ge, gp, gd, xs, gx, c, s, gn, o1, o2, o3, o4, mp, mn, tk, sn, sb, it, pn, dc, ct, cn, sc, ss, sp) i := br_f (Int32.not_lt.mpr (Int32.le_trans (nI_pos' (by omega)) h)) (br_t h hp)
theorem hx_im_in {post : Int32 → Prop} {j : Nat} (hM : M ≤ 32) (h : j < M) (hp : post 1) : wpX_isMethod post (gD, gB, nI M, gI, ini, st, ge, gp, gd, xs, gx, c, s, gn, o1, o2, o3, o4, mp, mn, tk, sn, sb, it, pn, dc, ct, cn, sc, ss, sp) (nI j) := br_f (nI_pos (by omega)) (br_f (nI_ge h (by omega)) hp)
theorem hx_it_lt {post : Int32 → Prop} {i : Int32} (h : i < 0) (hp : post 0) : wpX_isTask post i := br_t h hp
theorem hx_it_ge {post : Int32 → Prop} {i : Int32} (h : nI 32 ≤ i) (hp : post 0) : wpX_isTask post i := br_f (Int32.not_lt.mpr (Int32.le_trans (nI_pos' (by decide)) h)) (br_t h hp)
theorem hx_it_in {post : Int32 → Prop} {j : Nat} (h : j < 32) (hp : post 1) : wpX_isTask post (nI j) := br_f (nI_pos (by omega)) (br_f (nI_ge (b := 32) h (by decide)) hp)
theorem hv_ns (w i : Int32) (hM : M ≤ 32) : ((∀ post : Int32 → Prop, post 0 → wpX_namesSet post (gD, gB, nI M, gI, ini, st, ge, gp, gd, xs, gx, c, s, gn, o1, o2, o3, o4, mp, mn, tk, sn, sb, it, pn, dc, ct, cn, sc, ss, sp) w i) ∧ (∀ post : Int32 → Prop, post 0 → wpY_valid post (nI M, gI, ini, gD, gB, st, gp, gd, ge, xs, gx, os, tk, mp, mn, sb, sn, it, pn, dc, cu, fS, fP, fT, fX, fN, fL) w i)) ∨ ((∃ a j : Nat, w = nI a ∧ i = nI j ∧ (a < 4 ∧ j < 16 ∨ (a = 4 ∨ a = 5) ∧ j < M ∨ a = 6 ∧ j = 0)) ∧ (∀ post : Int32 → Prop, post 1 → wpX_namesSet post (gD, gB, nI M, gI, ini, st, ge, gp, gd, xs, gx, c, s, gn, o1, o2, o3, o4, mp, mn, tk, sn, sb, it, pn, dc, ct, cn, sc, ss, sp) w i) ∧ (∀ post : Int32 → Prop, post 1 → wpY_valid post (nI M, gI, ini, gD, gB, st, gp, gd, ge, xs, gx, os, tk, mp, mn, sb, sn, it, pn, dc, cu, fS, fP, fT, fX, fN, fL) w i)) := by
  rcases pk_ix w (n := 7) (by decide) with h | h | ⟨a, ha, rfl⟩
  · exact Or.inl ⟨fun post hp => br_t h hp, fun post hp => br_t h hp⟩
  · have h0 : ¬ w < 0 := Int32.not_lt.mpr (Int32.le_trans (nI_pos' (by decide)) h)
    have h6 : ¬ w ≤ 6 := fun z => absurd (Int32.le_trans h z) (by decide)
    exact Or.inl ⟨fun post hp => br_f h0 (br_f h6 hp), fun post hp => br_f h0 (br_f h6 hp)⟩
  · have h0 : ¬ nI a < 0 := nI_pos (by omega)
    have h6 : nI a ≤ 6 := nI_le (b := 6) (by omega) (by decide)
    by_cases h3 : a < 4
    · have n3 : ¬ (3 : Int32) < nI a := nI_nlt (a := 3) (by omega) (by decide)
      rcases pk_ix i (n := 16) (by decide) with g | g | ⟨j, hj, rfl⟩
      · exact Or.inl ⟨fun post hp => br_f h0 (br_t h6 (br_f n3 (br_t g hp))), fun post hp => br_f h0 (br_t h6 (br_f n3 (br_t g hp)))⟩
      · have g0 : ¬ i < 0 := Int32.not_lt.mpr (Int32.le_trans (nI_pos' (by decide)) g)
        have g15 : (15 : Int32) < i := Int32.lt_of_lt_of_le (by decide : (15 : Int32) < nI 16) g
        exact Or.inl ⟨fun post hp => br_f h0 (br_t h6 (br_f n3 (br_f g0 (br_t g hp)))), fun post hp => br_f h0 (br_t h6 (br_f n3 (br_f g0 (br_t g15 hp))))⟩
      · have g0 : ¬ nI j < 0 := nI_pos (by omega)
        have g16 : ¬ (16 : Int32) ≤ nI j := nI_ge (b := 16) hj (by decide)
        have g15 : ¬ (15 : Int32) < nI j := nI_nlt (a := 15) (by omega) (by decide)
        exact Or.inr ⟨⟨a, j, rfl, rfl, Or.inl ⟨h3, hj⟩⟩, fun post hp => br_f h0 (br_t h6 (br_f n3 (br_f g0 (br_f g16 hp)))), fun post hp => br_f h0 (br_t h6 (br_f n3 (br_f g0 (br_f g15 hp))))⟩
    · have t3 : (3 : Int32) < nI a := nI_lt (a := 3) (by omega) (by omega)
      by_cases h5 : a < 6
      · have n5 : ¬ (5 : Int32) < nI a := nI_nlt (a := 5) (by omega) (by decide)
        rcases pk_ix i (n := M) (by omega) with g | g | ⟨j, hj, rfl⟩
        · exact Or.inl ⟨fun post hp => br_f h0 (br_t h6 (br_t t3 (br_f n5 (hx_im_lt g ⟨hv_b0, hp⟩)))), fun post hp => br_f h0 (br_t h6 (br_t t3 (br_f n5 (br_t g hp))))⟩
        · have g0 : ¬ i < 0 := Int32.not_lt.mpr (Int32.le_trans (nI_pos' (by omega)) g)
          exact Or.inl ⟨fun post hp => br_f h0 (br_t h6 (br_t t3 (br_f n5 (hx_im_ge hM g ⟨hv_b0, hp⟩)))), fun post hp => br_f h0 (br_t h6 (br_t t3 (br_f n5 (br_f g0 (br_t g hp)))))⟩
        · have g0 : ¬ nI j < 0 := nI_pos (by omega)
          have gM : ¬ nI M ≤ nI j := nI_ge hj (by omega)
          exact Or.inr ⟨⟨a, j, rfl, rfl, Or.inr (Or.inl ⟨by omega, hj⟩)⟩, fun post hp => br_f h0 (br_t h6 (br_t t3 (br_f n5 (hx_im_in hM hj ⟨hv_b1, hp⟩)))), fun post hp => br_f h0 (br_t h6 (br_t t3 (br_f n5 (br_f g0 (br_f gM hp)))))⟩
      · have t5 : (5 : Int32) < nI a := nI_lt (a := 5) (by omega) (by omega)
        by_cases g : i = 0
        · exact Or.inr ⟨⟨a, 0, rfl, g, Or.inr (Or.inr ⟨by omega, rfl⟩)⟩, fun post hp => br_f h0 (br_t h6 (br_t t3 (br_t t5 (br_t g hp)))), fun post hp => br_f h0 (br_t h6 (br_t t3 (br_t t5 (br_t g hp))))⟩
        · exact Or.inl ⟨fun post hp => br_f h0 (br_t h6 (br_t t3 (br_t t5 (br_f g hp)))), fun post hp => br_f h0 (br_t h6 (br_t t3 (br_t t5 (br_f g hp))))⟩
end
theorem hv_os0 {os o1 o2 o3 o4 : Nat → Int64} (h : hp_os os o1 o2 o3 o4) {j : Nat} (hj : j < 16) (b : Int64) : hp_os (vp_updL os j b) (vp_updL o1 j b) o2 o3 o4 := by
  intro i hi
  obtain ⟨a1, a2, a3, a4⟩ := h i hi
  refine ⟨?_, (pk_uLn (by omega)).trans a2, (pk_uLn (by omega)).trans a3, (pk_uLn (by omega)).trans a4⟩
  by_cases e : i = j
  · rw [e, pk_uLs, pk_uLs]
  · rw [pk_uLn e, pk_uLn e]; exact a1
theorem hv_os1 {os o1 o2 o3 o4 : Nat → Int64} (h : hp_os os o1 o2 o3 o4) {j : Nat} (hj : j < 16) (b : Int64) : hp_os (vp_updL os (16 + j) b) o1 (vp_updL o2 j b) o3 o4 := by
  intro i hi
  obtain ⟨a1, a2, a3, a4⟩ := h i hi
  refine ⟨(pk_uLn (by omega)).trans a1, ?_, (pk_uLn (by omega)).trans a3, (pk_uLn (by omega)).trans a4⟩
  by_cases e : i = j
  · rw [e, pk_uLs, pk_uLs]
  · rw [pk_uLn e, pk_uLn (by omega)]; exact a2
theorem hv_os2 {os o1 o2 o3 o4 : Nat → Int64} (h : hp_os os o1 o2 o3 o4) {j : Nat} (hj : j < 16) (b : Int64) : hp_os (vp_updL os (32 + j) b) o1 o2 (vp_updL o3 j b) o4 := by
  intro i hi
  obtain ⟨a1, a2, a3, a4⟩ := h i hi
  refine ⟨(pk_uLn (by omega)).trans a1, (pk_uLn (by omega)).trans a2, ?_, (pk_uLn (by omega)).trans a4⟩
  by_cases e : i = j
  · rw [e, pk_uLs, pk_uLs]
  · rw [pk_uLn e, pk_uLn (by omega)]; exact a3
theorem hv_os3 {os o1 o2 o3 o4 : Nat → Int64} (h : hp_os os o1 o2 o3 o4) {j : Nat} (hj : j < 16) (b : Int64) : hp_os (vp_updL os (48 + j) b) o1 o2 o3 (vp_updL o4 j b) := by
  intro i hi
  obtain ⟨a1, a2, a3, a4⟩ := h i hi
  refine ⟨(pk_uLn (by omega)).trans a1, (pk_uLn (by omega)).trans a2, (pk_uLn (by omega)).trans a3, ?_⟩
  by_cases e : i = j
  · rw [e, pk_uLs, pk_uLs]
  · rw [pk_uLn e, pk_uLn (by omega)]; exact a4
theorem hv_ix (a j : Nat) (ha : a < 4) (hj : j < 16) : (nI a * 16 + nI j).toNatClampNeg = 16 * a + j ∧ vp_in (nI a * 16 + nI j) 64 := by
  have h : nI a * 16 + nI j = nI (16 * a + j) := by rw [show (16 : Int32) = nI 16 from rfl, pk_mul, nI_add, Nat.mul_comm a 16]
  rw [h]
  exact ⟨nI_clamp (by omega), vp_in_nI (by omega) (by decide)⟩
theorem i_vc_getSet {k : Nat} {u : SX} {v : SY} (I : i_Rel k u v) (hk : k + 5 ≤ 2562) (v1 : Int32) (v2 : Int32) : wpX_getSet (fun r => wpY_getSet (fun r' => r' = r ∧ i_Rel (k + 5) u v) v v1 v2) u v1 v2 := by
  obtain ⟨D, B, M, ic, pl, d, ep, ini, st, e, xs, c, s, nm, os, o1, o2, o3, o4, mp, mn, tk, sn, sb, it, pn, dc, ct, cn, sc, ss, sp, cu, fS, fP, fT, fX, fN, fL, rfl, rfl, hJ⟩ := I
  have hJ0 := hJ
  obtain ⟨⟨hD, hB, hM, hic, hpl, hd, hep⟩, hos, hz, hsn, hsb, hit, hpn, hdc⟩ := hJ
  unfold wpX_getSet
  rcases hv_ns v1 v2 hM with ⟨hx, hy⟩ | ⟨⟨a, j, rfl, rfl, hc⟩, hx, hy⟩
  · refine hx _ (br_t rfl ?_)
    unfold wpY_getSet
    exact hy _ (br_t rfl ⟨rfl, hp_mk hJ0⟩)
  · have hcj : (nI j).toNatClampNeg = j := nI_clamp (by omega)
    have ha : a = 0 ∨ a = 1 ∨ a = 2 ∨ a = 3 ∨ a = 4 ∨ a = 5 ∨ a = 6 := by omega
    refine hx _ (br_f hp_1n0 ?_)
    unfold wpY_getSet
    rcases ha with rfl | rfl | rfl | rfl | rfl | rfl | rfl
    · have hj : j < 16 := by omega
      obtain ⟨i1, i2⟩ := hv_ix 0 j (by decide) hj
      have hr : os (nI 0 * 16 + nI j).toNatClampNeg = o1 (nI j).toNatClampNeg := by rw [i1, hcj, Nat.mul_zero, Nat.zero_add]; exact (hos j hj).1
      exact br_f (by decide) (br_f (by decide) (br_t (by decide) ⟨vp_in_nI hj (by decide), hy _ (br_f hp_1n0 (br_f (by decide) ⟨i2, hr, hp_mk hJ0⟩))⟩))
    · have hj : j < 16 := by omega
      obtain ⟨i1, i2⟩ := hv_ix 1 j (by decide) hj
      have hr : os (nI 1 * 16 + nI j).toNatClampNeg = o2 (nI j).toNatClampNeg := by rw [i1, hcj]; exact (hos j hj).2.1
      exact br_f (by decide) (br_f (by decide) (br_f (by decide) (br_t (by decide) ⟨vp_in_nI hj (by decide), hy _ (br_f hp_1n0 (br_f (by decide) ⟨i2, hr, hp_mk hJ0⟩))⟩)))
    · have hj : j < 16 := by omega
      obtain ⟨i1, i2⟩ := hv_ix 2 j (by decide) hj
      have hr : os (nI 2 * 16 + nI j).toNatClampNeg = o3 (nI j).toNatClampNeg := by rw [i1, hcj]; exact (hos j hj).2.2.1
      exact br_f (by decide) (br_f (by decide) (br_f (by decide) (br_f (by decide) (br_t (by decide) ⟨vp_in_nI hj (by decide), hy _ (br_f hp_1n0 (br_f (by decide) ⟨i2, hr, hp_mk hJ0⟩))⟩))))
    · have hj : j < 16 := by omega
      obtain ⟨i1, i2⟩ := hv_ix 3 j (by decide) hj
      have hr : os (nI 3 * 16 + nI j).toNatClampNeg = o4 (nI j).toNatClampNeg := by rw [i1, hcj]; exact (hos j hj).2.2.2
      exact br_f (by decide) (br_f (by decide) (br_f (by decide) (br_f (by decide) (br_f (by decide) (br_t (by decide) ⟨vp_in_nI hj (by decide), hy _ (br_f hp_1n0 (br_f (by decide) ⟨i2, hr, hp_mk hJ0⟩))⟩)))))
    · have hj : vp_in (nI j) 32 := vp_in_nI (by omega) (by decide)
      exact br_f (by decide) (br_f (by decide) (br_f (by decide) (br_f (by decide) (br_f (by decide) (br_f (by decide) (br_t (by decide) ⟨hj, hy _ (br_f hp_1n0 (br_t (by decide) (br_t (by decide) ⟨hj, rfl, hp_mk hJ0⟩)))⟩))))))
    · have hj : vp_in (nI j) 32 := vp_in_nI (by omega) (by decide)
      exact br_f (by decide) (br_f (by decide) (br_f (by decide) (br_f (by decide) (br_f (by decide) (br_f (by decide) (br_f (by decide) (br_t (by decide) ⟨hj, hy _ (br_f hp_1n0 (br_t (by decide) (br_f (by decide) (br_t (by decide) ⟨hj, rfl, hp_mk hJ0⟩))))⟩)))))))
    · exact br_f (by decide) (br_t (by decide) (hy _ (br_f hp_1n0 (br_t (by decide) (br_f (by decide) (br_f (by decide) ⟨rfl, hp_mk hJ0⟩))))))
theorem i_vc_setSet {k : Nat} {u : SX} {v : SY} (I : i_Rel k u v) (hk : k + 5 ≤ 2562) (v1 : Int32) (v2 : Int32) (a2 : Int64) : wpX_setSet (fun r u' => wpY_setSet (fun r' v' => r' = r ∧ i_Rel (k + 5) u' v') v v1 v2 a2) u v1 v2 a2 := by
  obtain ⟨D, B, M, ic, pl, d, ep, ini, st, e, xs, c, s, nm, os, o1, o2, o3, o4, mp, mn, tk, sn, sb, it, pn, dc, ct, cn, sc, ss, sp, cu, fS, fP, fT, fX, fN, fL, rfl, rfl, hJ⟩ := I
  have hJ0 := hJ
  obtain ⟨⟨hD, hB, hM, hic, hpl, hd, hep⟩, hos, hz, hsn, hsb, hit, hpn, hdc⟩ := hJ
  unfold wpX_setSet
  rcases hv_ns v1 v2 hM with ⟨hx, hy⟩ | ⟨⟨a, j, rfl, rfl, hc⟩, hx, hy⟩
  · refine hx _ (br_t rfl ?_)
    unfold wpY_setSet
    exact hy _ (br_t rfl ⟨rfl, hp_mk hJ0⟩)
  · have hcj : (nI j).toNatClampNeg = j := nI_clamp (by omega)
    have ha : a = 0 ∨ a = 1 ∨ a = 2 ∨ a = 3 ∨ a = 4 ∨ a = 5 ∨ a = 6 := by omega
    refine hx _ (br_f hp_1n0 ?_)
    unfold wpY_setSet
    rcases ha with rfl | rfl | rfl | rfl | rfl | rfl | rfl
    · have hj : j < 16 := by omega
      obtain ⟨i1, i2⟩ := hv_ix 0 j (by decide) hj
      have e1 : vp_updL o1 (nI j).toNatClampNeg a2 = vp_updL o1 j a2 := by rw [hcj]
      have e2 : vp_updL os (nI 0 * 16 + nI j).toNatClampNeg a2 = vp_updL os j a2 := by rw [i1, Nat.mul_zero, Nat.zero_add]
      exact br_f (by decide) (br_f (by decide) (br_t (by decide) ⟨vp_in_nI hj (by decide), nm_r e1 (hx_disc (hy _ (br_f hp_1n0 (br_f (by decide) ⟨i2, nm_r e2 (hy_disc ⟨rfl, hp_mk (pl := 0) (d := 0) (ep := 0) ⟨⟨hD, hB, hM, hic, by decide, by decide, by decide⟩, hv_os0 hos hj a2, hz, hsn, hsb, hit, hpn, hdc⟩⟩)⟩))))⟩))
    · have hj : j < 16 := by omega
      obtain ⟨i1, i2⟩ := hv_ix 1 j (by decide) hj
      have e1 : vp_updL o2 (nI j).toNatClampNeg a2 = vp_updL o2 j a2 := by rw [hcj]
      have e2 : vp_updL os (nI 1 * 16 + nI j).toNatClampNeg a2 = vp_updL os (16 + j) a2 := by rw [i1]
      exact br_f (by decide) (br_f (by decide) (br_f (by decide) (br_t (by decide) ⟨vp_in_nI hj (by decide), nm_r e1 (hx_disc (hy _ (br_f hp_1n0 (br_f (by decide) ⟨i2, nm_r e2 (hy_disc ⟨rfl, hp_mk (pl := 0) (d := 0) (ep := 0) ⟨⟨hD, hB, hM, hic, by decide, by decide, by decide⟩, hv_os1 hos hj a2, hz, hsn, hsb, hit, hpn, hdc⟩⟩)⟩))))⟩)))
    · have hj : j < 16 := by omega
      obtain ⟨i1, i2⟩ := hv_ix 2 j (by decide) hj
      have e1 : vp_updL o3 (nI j).toNatClampNeg a2 = vp_updL o3 j a2 := by rw [hcj]
      have e2 : vp_updL os (nI 2 * 16 + nI j).toNatClampNeg a2 = vp_updL os (32 + j) a2 := by rw [i1]
      exact br_f (by decide) (br_f (by decide) (br_f (by decide) (br_f (by decide) (br_t (by decide) ⟨vp_in_nI hj (by decide), nm_r e1 (hx_disc (hy _ (br_f hp_1n0 (br_f (by decide) ⟨i2, nm_r e2 (hy_disc ⟨rfl, hp_mk (pl := 0) (d := 0) (ep := 0) ⟨⟨hD, hB, hM, hic, by decide, by decide, by decide⟩, hv_os2 hos hj a2, hz, hsn, hsb, hit, hpn, hdc⟩⟩)⟩))))⟩))))
    · have hj : j < 16 := by omega
      obtain ⟨i1, i2⟩ := hv_ix 3 j (by decide) hj
      have e1 : vp_updL o4 (nI j).toNatClampNeg a2 = vp_updL o4 j a2 := by rw [hcj]
      have e2 : vp_updL os (nI 3 * 16 + nI j).toNatClampNeg a2 = vp_updL os (48 + j) a2 := by rw [i1]
      exact br_f (by decide) (br_f (by decide) (br_f (by decide) (br_f (by decide) (br_f (by decide) (br_t (by decide) ⟨vp_in_nI hj (by decide), nm_r e1 (hx_disc (hy _ (br_f hp_1n0 (br_f (by decide) ⟨i2, nm_r e2 (hy_disc ⟨rfl, hp_mk (pl := 0) (d := 0) (ep := 0) ⟨⟨hD, hB, hM, hic, by decide, by decide, by decide⟩, hv_os3 hos hj a2, hz, hsn, hsb, hit, hpn, hdc⟩⟩)⟩))))⟩)))))
    · have hjM : j < M := by omega
      have hj : vp_in (nI j) 32 := vp_in_nI (by omega) (by decide)
      have e1 : vp_updL mp (nI j).toNatClampNeg a2 = vp_updL mp j a2 := by rw [hcj]
      exact br_f (by decide) (br_f (by decide) (br_f (by decide) (br_f (by decide) (br_f (by decide) (br_f (by decide) (br_t (by decide) ⟨hj, nm_r e1 (hx_disc (hy _ (br_f hp_1n0 (br_t (by decide) (br_t (by decide) ⟨hj, nm_r e1 (hy_disc ⟨rfl, hp_mk (pl := 0) (d := 0) (ep := 0) ⟨⟨hD, hB, hM, hic, by decide, by decide, by decide⟩, hos, fun i hi => ⟨(pk_uLn (by omega)).trans (hz i hi).1, (hz i hi).2⟩, hsn, hsb, hit, hpn, hdc⟩⟩)⟩)))))⟩))))))
    · have hjM : j < M := by omega
      have hj : vp_in (nI j) 32 := vp_in_nI (by omega) (by decide)
      have e1 : vp_updL mn (nI j).toNatClampNeg a2 = vp_updL mn j a2 := by rw [hcj]
      exact br_f (by decide) (br_f (by decide) (br_f (by decide) (br_f (by decide) (br_f (by decide) (br_f (by decide) (br_f (by decide) (br_t (by decide) ⟨hj, nm_r e1 (hx_disc (hy _ (br_f hp_1n0 (br_t (by decide) (br_f (by decide) (br_t (by decide) ⟨hj, nm_r e1 (hy_disc ⟨rfl, hp_mk (pl := 0) (d := 0) (ep := 0) ⟨⟨hD, hB, hM, hic, by decide, by decide, by decide⟩, hos, fun i hi => ⟨(hz i hi).1, (pk_uLn (by omega)).trans (hz i hi).2.1, (hz i hi).2.2⟩, hsn, hsb, hit, hpn, hdc⟩⟩)⟩))))))⟩)))))))
    · exact br_f (by decide) (br_t (by decide) (hx_disc (hy _ (br_f hp_1n0 (br_t (by decide) (br_f (by decide) (br_f (by decide) (hy_disc ⟨rfl, hp_mk (pl := 0) (d := 0) (ep := 0) ⟨⟨hD, hB, hM, hic, by decide, by decide, by decide⟩, hos, hz, hsn, hsb, hit, hpn, hdc⟩⟩))))))))
end
section
theorem hv_uz {f : Nat → Int64} {k : Nat} (h : f k = 0) : vp_updL f k 0 = f := by
  funext j
  by_cases e : j = k
  · rw [e, pk_uLs, h]
  · rw [pk_uLn e]
theorem hv_uzI {f : Nat → Int32} {k : Nat} (h : f k = 0) : upd f k 0 = f := by
  funext j
  by_cases e : j = k
  · rw [e, pk_us, h]
  · rw [pk_un e]
theorem i_vc_addMethod {k : Nat} {u : SX} {v : SY} (I : i_Rel k u v) (hk : k + 5 ≤ 2562) (v1 : Int32) : wpX_addMethod (fun r u' => wpY_addMethod (fun r' v' => r' = r ∧ i_Rel (k + 5) u' v') v v1) u v1 := by
  obtain ⟨D, B, M, ic, pl, d, ep, ini, st, e, xs, c, s, nm, os, o1, o2, o3, o4, mp, mn, tk, sn, sb, it, pn, dc, ct, cn, sc, ss, sp, cu, fS, fP, fT, fX, fN, fL, rfl, rfl, hJ⟩ := I
  have hJ0 := hJ
  obtain ⟨⟨hD, hB, hM, hic, hpl, hd, hep⟩, hos, hz, hsn, hsb, hit, hpn, hdc⟩ := hJ
  unfold wpX_addMethod
  rcases pk_ix v1 (n := 32) (by decide) with h | h | ⟨j, hj, rfl⟩
  · have h16 : v1 < 16 := Int32.lt_trans h (by decide)
    exact hx_it_lt h (br_t rfl (br_t h16 ⟨rfl, hp_mk hJ0⟩))
  · have h16 : ¬ v1 < 16 := Int32.not_lt.mpr (Int32.le_trans (by decide : (16 : Int32) ≤ nI 32) h)
    have h31 : ¬ v1 ≤ 31 := fun z => absurd (Int32.le_trans h z) (by decide)
    exact hx_it_ge h (br_t rfl (br_f h16 (br_f h31 ⟨rfl, hp_mk hJ0⟩)))
  · by_cases hj16 : j < 16
    · have h16 : nI j < 16 := nI_lt (b := 16) hj16 (by decide)
      exact hx_it_in hj (br_f hp_1n0 (hx_prim_t h16 (br_f hp_1n0 (br_t h16 ⟨rfl, hp_mk hJ0⟩))))
    · have h16 : ¬ nI j < 16 := nI_nlt (b := 16) (by omega) (by omega)
      have h31 : nI j ≤ 31 := nI_le (b := 31) (by omega) (by decide)
      by_cases hM32 : M < 32
      · have t32 : nI M < 32 := nI_lt (b := 32) hM32 (by decide)
        have hi : vp_in (nI M) 32 := vp_in_nI hM32 (by decide)
        have hcM : (nI M).toNatClampNeg = M := nI_clamp (by omega)
        obtain ⟨z1, z2, z3⟩ := hz M (Nat.le_refl M)
        have e1 : upd tk (nI M).toNatClampNeg (nI j) = upd tk M (nI j) := by rw [hcM]
        have e2 : vp_updL mp (nI M).toNatClampNeg 0 = mp := by rw [hcM]; exact hv_uz z1
        have e3 : vp_updL mn (nI M).toNatClampNeg 0 = mn := by rw [hcM]; exact hv_uz z2
        have e4 : upd sn (nI M).toNatClampNeg 0 = sn := by rw [hcM]; exact hv_uzI z3
        refine hx_it_in hj (br_f hp_1n0 (hx_prim_f h16 (br_t rfl (br_t t32 ⟨hi, nm_r e1 (nm_r (nI_1 M) (hx_disc ?_))⟩))))
        refine br_f h16 (br_t h31 (br_t t32 ⟨hi, nm_r e1 ⟨hi, nm_r e2 ⟨hi, nm_r e3 ⟨hi, nm_r e4 (nm_r (nI_1 M) (hy_disc ?_))⟩⟩⟩⟩))
        exact ⟨rfl, hp_mk (pl := 0) (d := 0) (ep := 0) ⟨⟨hD, hB, by omega, hic, by decide, by decide, by decide⟩, hos, fun i hi => hz i (by omega), hsn, hsb, hit, hpn, hdc⟩⟩
      · have t32 : ¬ nI M < 32 := nI_nlt (b := 32) (by omega) (by omega)
        exact hx_it_in hj (br_f hp_1n0 (hx_prim_f h16 (br_t rfl (br_f t32 (br_f h16 (br_t h31 (br_f t32 ⟨rfl, hp_mk hJ0⟩)))))))
theorem i_vc_addInitialTask {k : Nat} {u : SX} {v : SY} (I : i_Rel k u v) (hk : k + 5 ≤ 2562) (v1 : Int32) : wpX_addInitialTask (fun r u' => wpY_addInitialTask (fun r' v' => r' = r ∧ i_Rel (k + 5) u' v') v v1) u v1 := by
  obtain ⟨D, B, M, ic, pl, d, ep, ini, st, e, xs, c, s, nm, os, o1, o2, o3, o4, mp, mn, tk, sn, sb, it, pn, dc, ct, cn, sc, ss, sp, cu, fS, fP, fT, fX, fN, fL, rfl, rfl, hJ⟩ := I
  have hJ0 := hJ
  obtain ⟨⟨hD, hB, hM, hic, hpl, hd, hep⟩, hos, hz, hsn, hsb, hit, hpn, hdc⟩ := hJ
  unfold wpX_addInitialTask
  rcases pk_ix v1 (n := 32) (by decide) with h | h | ⟨j, hj, rfl⟩
  · exact hx_it_lt h (br_t rfl (br_t h ⟨rfl, hp_mk hJ0⟩))
  · have h0 : ¬ v1 < 0 := Int32.not_lt.mpr (Int32.le_trans (nI_pos' (by decide)) h)
    have h31 : ¬ v1 ≤ 31 := fun z => absurd (Int32.le_trans h z) (by decide)
    exact hx_it_ge h (br_t rfl (br_f h0 (br_f h31 ⟨rfl, hp_mk hJ0⟩)))
  · have h0 : ¬ nI j < 0 := nI_pos (by omega)
    have h31 : nI j ≤ 31 := nI_le (b := 31) (by omega) (by decide)
    by_cases h8 : ic < 8
    · have t8 : nI ic < 8 := nI_lt (b := 8) h8 (by decide)
      have hi : vp_in (nI ic) 8 := vp_in_nI h8 (by decide)
      have e1 : upd it (nI ic).toNatClampNeg (nI j) = upd it ic (nI j) := by rw [nI_clamp (by omega)]
      refine hx_it_in hj (br_f hp_1n0 (br_t t8 ⟨hi, nm_r e1 (nm_r (nI_1 ic) (hx_disc ?_))⟩))
      refine br_f h0 (br_t h31 (br_t t8 ⟨hi, nm_r e1 (nm_r (nI_1 ic) (hy_disc ?_))⟩))
      exact ⟨rfl, hp_mk (pl := 0) (d := 0) (ep := 0) ⟨⟨hD, hB, hM, by omega, by decide, by decide, by decide⟩, hos, hz, hsn, hsb, hp_nb_u hit ic ⟨j, hj, rfl⟩, hpn, hdc⟩⟩
    · have t8 : ¬ nI ic < 8 := nI_nlt (b := 8) (by omega) (by omega)
      exact hx_it_in hj (br_f hp_1n0 (br_f t8 (br_f h0 (br_t h31 (br_f t8 ⟨rfl, hp_mk hJ0⟩)))))
theorem i_vc_addSubtask {k : Nat} {u : SX} {v : SY} (I : i_Rel k u v) (hk : k + 5 ≤ 2562) (v1 : Int32) (v2 : Int32) : wpX_addSubtask (fun r u' => wpY_addSubtask (fun r' v' => r' = r ∧ i_Rel (k + 5) u' v') v v1 v2) u v1 v2 := by
  obtain ⟨D, B, M, ic, pl, d, ep, ini, st, e, xs, c, s, nm, os, o1, o2, o3, o4, mp, mn, tk, sn, sb, it, pn, dc, ct, cn, sc, ss, sp, cu, fS, fP, fT, fX, fN, fL, rfl, rfl, hJ⟩ := I
  have hJ0 := hJ
  obtain ⟨⟨hD, hB, hM, hic, hpl, hd, hep⟩, hos, hz, hsn, hsb, hit, hpn, hdc⟩ := hJ
  unfold wpX_addSubtask
  rcases pk_ix v1 (n := M) (by omega) with h | h | ⟨m, hm, rfl⟩
  · exact hx_im_lt h (br_t rfl (br_t h ⟨rfl, hp_mk hJ0⟩))
  · have h0 : ¬ v1 < 0 := Int32.not_lt.mpr (Int32.le_trans (nI_pos' (by omega)) h)
    exact hx_im_ge hM h (br_t rfl (br_f h0 (br_f (Int32.not_lt.mpr h) ⟨rfl, hp_mk hJ0⟩)))
  · have m0 : ¬ nI m < 0 := nI_pos (by omega)
    have mM : nI m < nI M := nI_lt hm (by omega)
    have hi : vp_in (nI m) 32 := vp_in_nI (by omega) (by decide)
    have hcm : (nI m).toNatClampNeg = m := nI_clamp (by omega)
    refine hx_im_in hM hm (br_f hp_1n0 ?_)
    rcases pk_ix v2 (n := 32) (by decide) with h | h | ⟨j, hj, rfl⟩
    · exact hx_it_lt h (br_t rfl (br_f m0 (br_t mM (br_t h ⟨rfl, hp_mk hJ0⟩))))
    · have h0 : ¬ v2 < 0 := Int32.not_lt.mpr (Int32.le_trans (nI_pos' (by decide)) h)
      have h31 : ¬ v2 ≤ 31 := fun z => absurd (Int32.le_trans h z) (by decide)
      exact hx_it_ge h (br_t rfl (br_f m0 (br_t mM (br_f h0 (br_f h31 ⟨rfl, hp_mk hJ0⟩)))))
    · have h0 : ¬ nI j < 0 := nI_pos (by omega)
      have h31 : nI j ≤ 31 := nI_le (b := 31) (by omega) (by decide)
      obtain ⟨q, hq, eq⟩ := hsn m
      have eq' : sn (nI m).toNatClampNeg = nI q := by rw [hcm]; exact eq
      refine hx_it_in hj (br_f hp_1n0 ⟨hi, ?_⟩)
      by_cases h4 : q < 4
      · have t4 : sn (nI m).toNatClampNeg < 4 := by rw [eq']; exact nI_lt (b := 4) h4 (by decide)
        have hix : nI m * 4 + sn (nI m).toNatClampNeg = nI (m * 4 + q) := by rw [eq', hp_4, pk_mul, nI_add]
        have hv : vp_in (nI m * 4 + sn (nI m).toNatClampNeg) 128 := by rw [hix]; exact vp_in_nI (by omega) (by decide)
        have e1 : upd sb (nI m * 4 + sn (nI m).toNatClampNeg).toNatClampNeg (nI j) = upd sb (m * 4 + q) (nI j) := by rw [hix, nI_clamp (by omega)]
        have e2 : upd sn (nI m).toNatClampNeg (sn (nI m).toNatClampNeg + 1) = upd sn m (nI (q + 1)) := by rw [eq', hcm, nI_1]
        refine br_t t4 ⟨hi, hv, nm_r e1 ⟨hi, hi, nm_r e2 (hx_disc ?_)⟩⟩
        refine br_f m0 (br_t mM (br_f h0 (br_t h31 ⟨hi, br_t t4 ⟨hi, hv, nm_r e1 ⟨hi, hi, nm_r e2 (hy_disc ?_)⟩⟩⟩)))
        exact ⟨rfl, hp_mk (pl := 0) (d := 0) (ep := 0) ⟨⟨hD, hB, hM, hic, by decide, by decide, by decide⟩, hos, fun i hi => ⟨(hz i hi).1, (hz i hi).2.1, (pk_un (by omega)).trans (hz i hi).2.2⟩, hp_nb_u hsn m ⟨q + 1, by omega, rfl⟩, hp_nb_u hsb _ ⟨j, hj, rfl⟩, hit, hpn, hdc⟩⟩
      · have t4 : ¬ sn (nI m).toNatClampNeg < 4 := by rw [eq']; exact nI_nlt (b := 4) (by omega) (by omega)
        exact br_f t4 (br_f m0 (br_t mM (br_f h0 (br_t h31 ⟨hi, br_f t4 ⟨rfl, hp_mk hJ0⟩⟩))))
theorem i_vc_getMethodEntry {k : Nat} {u : SX} {v : SY} (I : i_Rel k u v) (hk : k + 5 ≤ 2562) (v1 : Int32) (v2 : Int32) : wpX_getMethodEntry (fun r => wpY_getMethodEntry (fun r' => r' = r ∧ i_Rel (k + 5) u v) v v1 v2) u v1 v2 := by
  obtain ⟨D, B, M, ic, pl, d, ep, ini, st, e, xs, c, s, nm, os, o1, o2, o3, o4, mp, mn, tk, sn, sb, it, pn, dc, ct, cn, sc, ss, sp, cu, fS, fP, fT, fX, fN, fL, rfl, rfl, hJ⟩ := I
  have hJ0 := hJ
  obtain ⟨⟨hD, hB, hM, hic, hpl, hd, hep⟩, hos, hz, hsn, hsb, hit, hpn, hdc⟩ := hJ
  unfold wpX_getMethodEntry
  rcases pk_ix v1 (n := M) (by omega) with h | h | ⟨m, hm, rfl⟩
  · exact hx_im_lt h (br_t rfl (br_t h ⟨rfl, hp_mk hJ0⟩))
  · have h0 : ¬ v1 < 0 := Int32.not_lt.mpr (Int32.le_trans (nI_pos' (by omega)) h)
    exact hx_im_ge hM h (br_t rfl (br_f h0 (br_f (Int32.not_lt.mpr h) ⟨rfl, hp_mk hJ0⟩)))
  · have m0 : ¬ nI m < 0 := nI_pos (by omega)
    have mM : nI m < nI M := nI_lt hm (by omega)
    have hi : vp_in (nI m) 32 := vp_in_nI (by omega) (by decide)
    have hcm : (nI m).toNatClampNeg = m := nI_clamp (by omega)
    obtain ⟨q, hq, eq⟩ := hsn m
    have eq' : sn (nI m).toNatClampNeg = nI q := by rw [hcm]; exact eq
    refine hx_im_in hM hm (br_f hp_1n0 ?_)
    rcases pk_ix v2 (n := q + 1) (by omega) with h | h | ⟨j, hj, rfl⟩
    · have h1 : v2 < 1 := Int32.lt_trans h (by decide)
      exact br_t h (br_f m0 (br_t mM (br_f (hv_neg h 0 (by decide)) (br_t h1 ⟨rfl, hp_mk hJ0⟩))))
    · have h0 : ¬ v2 < 0 := Int32.not_lt.mpr (Int32.le_trans (nI_pos' (by omega)) h)
      have hl : sn (nI m).toNatClampNeg < v2 := by rw [eq']; exact Int32.lt_of_lt_of_le (nI_lt (Nat.lt_succ_self q) (by omega)) h
      have h1 : ¬ v2 < 1 := Int32.not_lt.mpr (Int32.le_trans (nI_le (a := 1) (b := q + 1) (by omega) (by omega)) h)
      have hn : ¬ v2 ≤ sn (nI m).toNatClampNeg := fun z => Int32.not_lt.mpr z hl
      exact br_f h0 ⟨hi, br_f hn (br_f m0 (br_t mM (br_f (hv_big (by omega) h 0 (by omega)) (br_f h1 ⟨hi, br_t hl ⟨rfl, hp_mk hJ0⟩⟩))))⟩
    · have h0 : ¬ nI j < 0 := nI_pos (by omega)
      have hl : nI j ≤ sn (nI m).toNatClampNeg := by rw [eq']; exact nI_le (by omega) (by omega)
      by_cases hj0 : j = 0
      · subst hj0
        exact br_f h0 ⟨hi, br_t hl (br_t nI_0 ⟨hi, br_f m0 (br_t mM (br_t nI_0 ⟨hi, rfl, hp_mk hJ0⟩))⟩)⟩
      · obtain ⟨j, rfl⟩ : ∃ j', j = j' + 1 := ⟨j - 1, by omega⟩
        have n0 : ¬ nI (j + 1) = 0 := nI_ne0 (Nat.succ_pos j) (by omega)
        have h1 : ¬ nI (j + 1) < 1 := nI_nlt (b := 1) (by omega) (by omega)
        have hg : ¬ sn (nI m).toNatClampNeg < nI (j + 1) := Int32.not_lt.mpr hl
        have hix : nI m * 4 + nI (j + 1) - 1 = nI (m * 4 + j) := by rw [hp_4, pk_mul, nI_add, ← Nat.add_assoc, nI_pred]
        have hv : vp_in (nI m * 4 + nI (j + 1) - 1) 128 := by rw [hix]; exact vp_in_nI (by omega) (by decide)
        exact br_f h0 ⟨hi, br_t hl (br_f n0 ⟨hv, br_f m0 (br_t mM (br_f n0 (br_f h1 ⟨hi, br_f hg ⟨hv, rfl, hp_mk hJ0⟩⟩)))⟩)⟩
theorem i_vc_executeStep {k : Nat} {u : SX} {v : SY} (I : i_Rel k u v) (hk : k + 5 ≤ 2562) : wpX_executeStep (fun r u' => wpY_executeStep (fun r' v' => r' = r ∧ i_Rel (k + 5) u' v') v) u := by
  obtain ⟨D, B, M, ic, pl, d, ep, ini, st, e, xs, c, s, nm, os, o1, o2, o3, o4, mp, mn, tk, sn, sb, it, pn, dc, ct, cn, sc, ss, sp, cu, fS, fP, fT, fX, fN, fL, rfl, rfl, hJ⟩ := I
  have hJ0 := hJ
  obtain ⟨⟨hD, hB, hM, hic, hpl, hd, hep⟩, hos, hz, hsn, hsb, hit, hpn, hdc⟩ := hJ
  by_cases h1 : st = 1
  · by_cases hlt : ep < pl
    · have hi : vp_in (nI ep) 32 := vp_in_nI (by omega) (by decide)
      have he0 : (0 : Int32) ≤ nI ep := nI_pos' (by omega)
      obtain ⟨j, hj, ej⟩ := hpn ep
      have e1 : pn (nI ep).toNatClampNeg = nI j := by rw [nI_clamp (by omega)]; exact ej
      have hv : vp_in (nI j) 16 := vp_in_nI hj (by decide)
      obtain ⟨⟨v1, v2, v3, v4⟩, a1, a2, a3, a4⟩ := hy_os (t := nI j) rfl hj hos
      refine br_t h1 (br_t (nI_lt hlt (by omega)) ⟨hi, nm_r e1 ⟨hv, hv, ?_⟩⟩)
      by_cases hap : hp_ap xs (o1 (nI j).toNatClampNeg) (o2 (nI j).toNatClampNeg)
      · have hap' : hp_ap xs (os (nI j).toNatClampNeg) (os (16 + nI j).toNatClampNeg) := by rw [a1, a2]; exact hap
        have e5 : (xs &&& (os (48 + nI j).toNatClampNeg ^^^ (-1))) ||| os (32 + nI j).toNatClampNeg = (xs &&& (o4 (nI j).toNatClampNeg ^^^ (-1))) ||| o3 (nI j).toNatClampNeg := by rw [a3, a4]
        refine hx_ap_t hap (br_f hp_1n0 ⟨hv, hv, nm_r (nI_1 ep) ?_⟩)
        refine br_t h1 (br_f (nI_ge hlt (by omega)) (br_t he0 ⟨hi, nm_r e1 ⟨v1, v2, hy_ap_t hap' (br_f hp_1n0 ⟨v4, v3, nm_r e5 (nm_r (nI_1 ep) ⟨rfl, ?_⟩)⟩)⟩⟩))
        exact hp_mk ⟨⟨hD, hB, hM, hic, hpl, hd, by omega⟩, hos, hz, hsn, hsb, hit, hpn, hdc⟩
      · have hap' : ¬ hp_ap xs (os (nI j).toNatClampNeg) (os (16 + nI j).toNatClampNeg) := by rw [a1, a2]; exact hap
        exact hx_ap_f hap (br_t rfl (br_t h1 (br_f (nI_ge hlt (by omega)) (br_t he0 ⟨hi, nm_r e1 ⟨v1, v2, hy_ap_f hap' (br_t rfl ⟨rfl, hp_mk hJ0⟩)⟩⟩))))
    · exact br_t h1 (br_f (nI_nlt (by omega) (by omega)) (br_t h1 (br_t (nI_le (by omega) (by omega)) ⟨rfl, hp_mk hJ0⟩)))
  · exact br_f h1 (br_f h1 ⟨rfl, hp_mk hJ0⟩)
end
