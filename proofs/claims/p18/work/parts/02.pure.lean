theorem hp_16 : nI 16 = 16 := by decide +kernel
def hp_vt (t : Int32) : Prop := ∃ j : Nat, j < 32 ∧ t = nI j
def hp_hd (L : List Int32) : Prop := ∃ t L', L = t :: L' ∧ ¬ t < 16
def hp_nb (N : Nat) (a : Nat → Int32) : Prop := ∀ i, ∃ m : Nat, m < N ∧ a i = nI m
def hp_up {α : Type} (f : Nat → α) (k : Nat) (x : α) : Nat → α := fun j => if j = k then x else f j
theorem hp_us {α : Type} {f : Nat → α} {k : Nat} {x : α} : hp_up f k x k = x := if_pos rfl
theorem hp_un {α : Type} {f : Nat → α} {k j : Nat} {x : α} (h : j ≠ k) : hp_up f k x j = f j := if_neg h
theorem hp_nb_u {N : Nat} {a : Nat → Int32} (h : hp_nb N a) (k : Nat) {x : Int32} (hx : ∃ m : Nat, m < N ∧ x = nI m) : hp_nb N (upd a k x) := by
  intro i
  by_cases e : i = k
  · rw [e, pk_us]; exact hx
  · rw [pk_un e]; exact h i
theorem hp_nb_c {N : Nat} {a : Nat → Int32} (h : hp_nb N a) (hN : N ≤ 32) (i : Nat) : (a i).toNatClampNeg < N ∧ a i = nI (a i).toNatClampNeg := by
  obtain ⟨m, hm, e⟩ := h i
  have hc : (nI m).toNatClampNeg = m := nI_clamp (by omega)
  rw [e, hc]
  exact ⟨hm, rfl⟩
theorem hp_vt_lt {t : Int32} (h : hp_vt t) (h16 : t < 16) : ∃ j : Nat, j < 16 ∧ t = nI j := by
  obtain ⟨j, hj, rfl⟩ := h
  rw [← hp_16, nI_ltI (by omega) (by omega)] at h16
  exact ⟨j, h16, rfl⟩
def hp_sl (g : Nat → Int32) : Nat → Nat → List Int32
  | _, 0 => []
  | k, n + 1 => g k :: hp_sl g (k + 1) n
theorem hp_sl_len (g : Nat → Int32) : ∀ n k : Nat, (hp_sl g k n).length = n := by
  intro n
  induction n with
  | zero => intro k; rfl
  | succ n ih => intro k; show (hp_sl g (k + 1) n).length + 1 = n + 1; rw [ih]
theorem hp_sl_mem {g : Nat → Int32} (h : ∀ i, hp_vt (g i)) : ∀ (n k : Nat) (t : Int32), t ∈ hp_sl g k n → hp_vt t := by
  intro n
  induction n with
  | zero => intro k t ht; exact absurd ht List.not_mem_nil
  | succ n ih =>
    intro k t ht
    rcases List.mem_cons.mp (show t ∈ g k :: hp_sl g (k + 1) n from ht) with e | e
    · rw [e]; exact h k
    · exact ih (k + 1) t e
def hp_ar (a : Nat → Int32) : Nat → List Int32 → Prop
  | _, [] => True
  | o, t :: L => a o = t ∧ hp_ar a (o + 1) L
theorem hp_ar_eq {a a' : Nat → Int32} : ∀ (L : List Int32) (o o' : Nat), (∀ j, j < L.length → a' (o' + j) = a (o + j)) → hp_ar a o L → hp_ar a' o' L := by
  intro L
  induction L with
  | nil => intro o o' h ha; trivial
  | cons t L ih =>
    intro o o' h ha
    obtain ⟨e, ha⟩ := ha
    refine ⟨(h 0 (Nat.succ_pos _)).trans e, ih (o + 1) (o' + 1) (fun j hj => ?_) ha⟩
    have := h (j + 1) (Nat.succ_lt_succ hj)
    rw [show o' + 1 + j = o' + (j + 1) by omega, show o + 1 + j = o + (j + 1) by omega]
    exact this
theorem hp_ar_app {a : Nat → Int32} : ∀ (L1 L2 : List Int32) (o : Nat), hp_ar a o L1 → hp_ar a (o + L1.length) L2 → hp_ar a o (L1 ++ L2) := by
  intro L1
  induction L1 with
  | nil => intro L2 o _ h; exact h
  | cons t L1 ih =>
    intro L2 o h1 h2
    obtain ⟨e, h1⟩ := h1
    refine ⟨e, ih L2 (o + 1) h1 ?_⟩
    rw [List.length_cons] at h2
    rw [show o + 1 + L1.length = o + (L1.length + 1) by omega]
    exact h2
theorem hp_ar_sl {a g : Nat → Int32} : ∀ n o k : Nat, (∀ j, j < n → a (o + j) = g (k + j)) → hp_ar a o (hp_sl g k n) := by
  intro n
  induction n with
  | zero => intro o k _; trivial
  | succ n ih =>
    intro o k h
    refine ⟨h 0 (Nat.succ_pos _), ih (o + 1) (k + 1) (fun j hj => ?_)⟩
    have := h (j + 1) (Nat.succ_lt_succ hj)
    rw [show o + 1 + j = o + (j + 1) by omega, show k + 1 + j = k + (j + 1) by omega]
    exact this
def hp_ch (P : Nat → Prop) (ct cn : Nat → Int32) : Int32 → List Int32 → Prop
  | c, [] => c = -1
  | c, t :: L => ∃ j : Nat, P j ∧ j < 72 ∧ c = nI j ∧ ct j = t ∧ hp_ch P ct cn (cn j) L
theorem hp_ch_w {P Q : Nat → Prop} {ct cn ct' cn' : Nat → Int32} (hk : ∀ j, P j → Q j ∧ ct' j = ct j ∧ cn' j = cn j) : ∀ (L : List Int32) (c : Int32), hp_ch P ct cn c L → hp_ch Q ct' cn' c L := by
  intro L
  induction L with
  | nil => intro c h; exact h
  | cons t L ih =>
    intro c h
    obtain ⟨j, hP, hj, hc, ht, hr⟩ := h
    obtain ⟨hQ, e1, e2⟩ := hk j hP
    refine ⟨j, hQ, hj, hc, e1.trans ht, ?_⟩
    rw [e2]
    exact ih (cn j) hr
theorem hp_ch_put {P Q : Nat → Prop} {ct cn : Nat → Int32} {c t : Int32} {L : List Int32} {k : Nat} (h : hp_ch P ct cn c L) (hk : ¬ P k) (hQ : ∀ j, P j → Q j) (hQk : Q k) (h72 : k < 72) : hp_ch Q (upd ct k t) (upd cn k c) (nI k) (t :: L) := by
  refine ⟨k, hQk, h72, rfl, pk_us, ?_⟩
  rw [pk_us]
  refine hp_ch_w (fun j hj => ?_) L c h
  have hn : j ≠ k := fun e => hk (e ▸ hj)
  exact ⟨hQ j hj, pk_un hn, pk_un hn⟩
def hp_X1 (ct cn sc : Nat → Int32) (ss : Nat → Int64) (sp : Nat → Int32) (i : Nat) (L : List Int32) (s : Int64) (pl : Nat) : Prop :=
  ss i = s ∧ sp i = nI pl ∧ hp_ch (fun j => j < 8 + 4 * i) ct cn (sc i) L
def hp_Y1 (fS : Nat → Int64) (fP fT fX fN fL : Nat → Int32) (i : Nat) (L : List Int32) (s : Int64) (pl nm : Nat) : Prop :=
  fS i = s ∧ fP i = nI pl ∧ (∃ t L', L = t :: L' ∧ fT i = t) ∧ fX i = nI nm ∧ fN i = nI L.length ∧ hp_ar fL (i * 64) L
