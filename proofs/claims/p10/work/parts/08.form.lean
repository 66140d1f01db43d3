theorem MC.mono {l : Launch} {Y : MD} {d mc ms : Nat} {As : List AV} {N : Nat} {Λ : Lay} {σ : Mem} {Q Q' : QT} (h : MC l Y d mc ms As N Λ σ Q) (hq : ∀ r N' Λ' σ', Q r N' Λ' σ' → Q' r N' Λ' σ') : MC l Y d mc ms As N Λ σ Q' := by
  intro B p e h1 h2 h3 s m args below h4 h5 h6 h7
  obtain ⟨n, o, a1, a2, a3, ⟨⟨r, N', Λ', σ', b1, b2⟩, b3⟩, b4⟩ := h B p e h1 h2 h3 s m args below h4 h5 h6 h7
  exact ⟨n, o, a1, a2, a3, ⟨⟨r, N', Λ', σ', hq _ _ _ _ b1, b2⟩, b3⟩, b4⟩
theorem lk_app (l : List AV) (m i : Nat) : lk (l ++ List.replicate m (3, 0)) i = lk l i := by
  induction l generalizing i with
  | nil =>
    show lk (List.replicate m (3, 0)) i = (3, 0)
    induction m generalizing i with
    | zero => rfl
    | succ m ih => cases i with
      | zero => rfl
      | succ i => exact ih i
  | cons a l ih => cases i with
    | zero => rfl
    | succ i => exact ih i
theorem MC.ofN {l : Launch} {Y : MD} {d mc ms m : Nat} {As L0 : List AV} {N : Nat} {Λ : Lay} {σ : Mem} {Q : QT} (hy : okY Y) (hL : (eL As).length ≤ mL Y) (hL0 : L0 = eL As ++ List.replicate m (3, 0)) (h : WP l Y (rm d mc ms) noX (ZQ mc ms Q) 0 0 0 L0 [] N Λ σ) : MC l Y d mc ms As N Λ σ Q := by
  refine MC.of hy hL ?_
  intro p e s m' args below meth c B H locs ls hb hX hB hR hS hl hL1 hs
  refine h p e s m' args below meth c B H locs ls hb hX hB hR hS (lv_mono hl fun q hq => ?_) (fun v hv => ?_) hs
  · obtain ⟨h1, h2, h3⟩ := lvl_mem.mp hq
    rw [hL0, lk_app] at h2 h3
    exact lvl_mem.mpr ⟨lk_lt h2, h2, h3⟩
  · rw [hL0] at hv
    rcases List.mem_append.mp hv with hv | hv
    · exact hL1 v hv
    · rw [(List.mem_replicate.mp hv).2]
      exact ok_n 0
/-- a cell of this kind and length -/
def Ob (N : Nat) (Λ : Lay) (c : Int) (t : Nat) (len : Int) : Prop := 0 ≤ c ∧ c < N ∧ (Λ c).1 = t ∧ (Λ c).2.1 = len
/-- nothing is made, and the layout stays: an int, a long, nothing comes back -/
def qI (N : Nat) (Λ : Lay) (P : Int → Mem → Prop) : QT := fun r N' Λ' σ' => ∃ v, r = [(0, v)] ∧ N = N' ∧ Λ = Λ' ∧ P v σ'
def qL (N : Nat) (Λ : Lay) (P : Int → Mem → Prop) : QT := fun r N' Λ' σ' => ∃ v, r = [(1, v)] ∧ N = N' ∧ Λ = Λ' ∧ P v σ'
def qV (N : Nat) (Λ : Lay) (P : Mem → Prop) : QT := fun r N' Λ' σ' => r = [] ∧ N = N' ∧ Λ = Λ' ∧ P σ'
def CI (l : Launch) (Y : MD) (d : Nat) (As : List AV) (N : Nat) (Λ : Lay) (σ : Mem) (P : Int → Mem → Prop) : Prop := MC l Y d 0 0 As N Λ σ (qI N Λ P)
def CL (l : Launch) (Y : MD) (d : Nat) (As : List AV) (N : Nat) (Λ : Lay) (σ : Mem) (P : Int → Mem → Prop) : Prop := MC l Y d 0 0 As N Λ σ (qL N Λ P)
def CV (l : Launch) (Y : MD) (d : Nat) (As : List AV) (N : Nat) (Λ : Lay) (σ : Mem) (P : Mem → Prop) : Prop := MC l Y d 0 0 As N Λ σ (qV N Λ P)
theorem CI.mono {l : Launch} {Y : MD} {d : Nat} {As : List AV} {N : Nat} {Λ : Lay} {σ : Mem} {P P' : Int → Mem → Prop} (h : CI l Y d As N Λ σ P) (hp : ∀ v σ', P v σ' → P' v σ') : CI l Y d As N Λ σ P' :=
  MC.mono h fun r N' Λ' σ' hq => by obtain ⟨v, h1, h2, h3, h4⟩ := hq; exact ⟨v, h1, h2, h3, hp v σ' h4⟩
theorem CL.mono {l : Launch} {Y : MD} {d : Nat} {As : List AV} {N : Nat} {Λ : Lay} {σ : Mem} {P P' : Int → Mem → Prop} (h : CL l Y d As N Λ σ P) (hp : ∀ v σ', P v σ' → P' v σ') : CL l Y d As N Λ σ P' :=
  MC.mono h fun r N' Λ' σ' hq => by obtain ⟨v, h1, h2, h3, h4⟩ := hq; exact ⟨v, h1, h2, h3, hp v σ' h4⟩
theorem CV.mono {l : Launch} {Y : MD} {d : Nat} {As : List AV} {N : Nat} {Λ : Lay} {σ : Mem} {P P' : Mem → Prop} (h : CV l Y d As N Λ σ P) (hp : ∀ σ', P σ' → P' σ') : CV l Y d As N Λ σ P' :=
  MC.mono h fun r N' Λ' σ' hq => by obtain ⟨h1, h2, h3, h4⟩ := hq; exact ⟨h1, h2, h3, hp σ' h4⟩
abbrev WI (l : Launch) (Y : MD) (d : Nat) (P : Int → Mem → Prop) (pc : Nat) (L S : List AV) (N : Nat) (Λ : Lay) (σ : Mem) : Prop := WP l Y (rm d 0 0) noX (ZQ 0 0 (qI N Λ P)) 0 0 pc L S N Λ σ
abbrev WL (l : Launch) (Y : MD) (d : Nat) (P : Int → Mem → Prop) (pc : Nat) (L S : List AV) (N : Nat) (Λ : Lay) (σ : Mem) : Prop := WP l Y (rm d 0 0) noX (ZQ 0 0 (qL N Λ P)) 0 0 pc L S N Λ σ
abbrev WV (l : Launch) (Y : MD) (d : Nat) (P : Mem → Prop) (pc : Nat) (L S : List AV) (N : Nat) (Λ : Lay) (σ : Mem) : Prop := WP l Y (rm d 0 0) noX (ZQ 0 0 (qV N Λ P)) 0 0 pc L S N Λ σ
theorem rmc {d m : Nat} (h : 1 ≤ d) (hm : m ≤ 45) : d - 1 + 1 ≤ (rm d 0 0).frames ∧ 8 + (m + 11) + 64 * (d - 1) ≤ (rm d 0 0).locals := by
  refine ⟨?_, ?_⟩
  · show d - 1 + 1 ≤ d
    omega
  · show 8 + (m + 11) + 64 * (d - 1) ≤ 64 * d
    omega
theorem rm00 {d : Nat} : (0 : Nat) + 0 ≤ (rm d 0 0).cells ∧ (0 : Nat) + 0 ≤ (rm d 0 0).slots := ⟨Nat.le_refl 0, Nat.le_refl 0⟩
theorem i32_c (x : Int) : Int32.ofInt x = Int32.ofInt x := rfl
theorem kX0 : CLS 0 RX0 TX0 4 := ⟨rfl, inX0, tyX0_ok, nmX0⟩
theorem kX1 : CLS 1 RX1 TX1 6 := ⟨rfl, inX1, tyX1_ok, nmX1⟩
theorem kX2 : CLS 2 RX2 TX2 9 := ⟨rfl, inX2, tyX2_ok, nmX2⟩
theorem kX3 : CLS 3 RX3 TX3 5 := ⟨rfl, inX3, tyX3_ok, nmX3⟩
theorem kX4 : CLS 4 RX4 TX4 3 := ⟨rfl, inX4, tyX4_ok, nmX4⟩
theorem kX5 : CLS 5 RX5 TX5 3 := ⟨rfl, inX5, tyX5_ok, nmX5⟩
theorem kX7 : CLS 6 RX7 TX7 3 := ⟨rfl, inX7, tyX7_ok, nmX7⟩
theorem kX8 : CLS 7 RX8 TX8 2 := ⟨rfl, inX8, tyX8_ok, nmX8⟩
theorem kX9 : CLS 8 RX9 TX9 6 := ⟨rfl, inX9, tyX9_ok, nmX9⟩
theorem kX10 : CLS 9 RX10 TX10 2 := ⟨rfl, inX10, tyX10_ok, nmX10⟩
theorem kX11 : CLS 10 RX11 TX11 14 := ⟨rfl, inX11, tyX11_ok, nmX11⟩
theorem kX12 : CLS 11 RX12 TX12 36 := ⟨rfl, inX12, tyX12_ok, nmX12⟩
/-- the place i of an array of this kind can be used -/
def Ix (N : Nat) (Λ : Lay) (c : Int) (t : Nat) (i : Int) : Prop := ∃ len : Int, Ob N Λ c t len ∧ 0 ≤ i ∧ i < len
theorem Ix.of {N : Nat} {Λ : Lay} {c : Int} {t : Nat} {len i : Int} (h : Ob N Λ c t len) (h0 : 0 ≤ i) (h1 : i < len) : Ix N Λ c t i := ⟨len, h, h0, h1⟩
section IX
variable {l : Launch} {Y : MD} {R : Room} {X : XT} {Z : ZT} {k n pc q : Nat} {L S : List AV} {N : Nat} {Λ : Lay} {σ : Mem}
theorem x_iald {c i : Int} (d : DC Y pc .iaload 1 q) (h : Ix N Λ c 0 i) (K : WP l Y R X Z k n q L ((0, σ c i) :: S) N Λ σ) : WP l Y R X Z k n pc L ((0, i) :: (2, c) :: S) N Λ σ := by
  obtain ⟨len, ⟨a, b, e, f⟩, g, h⟩ := h
  exact r_iald d a b e f g h K
theorem x_zald {c i : Int} (d : DC Y pc .baload 1 q) (h : Ix N Λ c 2 i) (K : WP l Y R X Z k n q L ((0, σ c i) :: S) N Λ σ) : WP l Y R X Z k n pc L ((0, i) :: (2, c) :: S) N Λ σ := by
  obtain ⟨len, ⟨a, b, e, f⟩, g, h⟩ := h
  exact r_zald d a b e f g h K
theorem x_bald {c i : Int} (d : DC Y pc .baload 1 q) (h : Ix N Λ c 6 i) (K : WP l Y R X Z k n q L ((0, σ c i) :: S) N Λ σ) : WP l Y R X Z k n pc L ((0, i) :: (2, c) :: S) N Λ σ := by
  obtain ⟨len, ⟨a, b, e, f⟩, g, h⟩ := h
  exact r_bald d a b e f g h K
theorem x_lald {c i : Int} (d : DC Y pc .laload 1 q) (h : Ix N Λ c 1 i) (K : WP l Y R X Z k n q L ((1, σ c i) :: S) N Λ σ) : WP l Y R X Z k n pc L ((0, i) :: (2, c) :: S) N Λ σ := by
  obtain ⟨len, ⟨a, b, e, f⟩, g, h⟩ := h
  exact r_lald d a b e f g h K
theorem x_aald {c i : Int} {t : Nat} (ht : t = 3 ∨ t = 4 ∨ t = 5) (d : DC Y pc .aaload 1 q) (h : Ix N Λ c t i) (K : ∀ a : Int, a = (Λ c).2.2 i → WP l Y R X Z k n q L ((2, a) :: S) N Λ σ) : WP l Y R X Z k n pc L ((0, i) :: (2, c) :: S) N Λ σ := by
  obtain ⟨len, ⟨a, b, e, f⟩, g, h⟩ := h
  exact r_aald d a b e ht f g h rfl (K _ rfl)
theorem x_iast {c i x : Int} (d : DC Y pc .iastore 1 q) (h : Ix N Λ c 0 i) (K : WP l Y R X Z k n q L S N Λ (st σ c i x)) : WP l Y R X Z k n pc L ((0, x) :: (0, i) :: (2, c) :: S) N Λ σ := by
  obtain ⟨len, ⟨a, b, e, f⟩, g, h⟩ := h
  exact r_iast d a b e f g h K
theorem x_last {c i x : Int} (d : DC Y pc .lastore 1 q) (h : Ix N Λ c 1 i) (K : WP l Y R X Z k n q L S N Λ (st σ c i x)) : WP l Y R X Z k n pc L ((1, x) :: (0, i) :: (2, c) :: S) N Λ σ := by
  obtain ⟨len, ⟨a, b, e, f⟩, g, h⟩ := h
  exact r_last d a b e f g h K
theorem x_zast {c i x : Int} (d : DC Y pc .bastore 1 q) (h : Ix N Λ c 2 i) (hx : x = 0 ∨ x = 1) (K : WP l Y R X Z k n q L S N Λ (st σ c i x)) : WP l Y R X Z k n pc L ((0, x) :: (0, i) :: (2, c) :: S) N Λ σ := by
  obtain ⟨len, ⟨a, b, e, f⟩, g, h⟩ := h
  exact r_zast d a b e f g h hx K
theorem x_bast {c i x : Int} (d : DC Y pc .bastore 1 q) (h : Ix N Λ c 6 i) (hx : narrow .byte (.int (Int32.ofInt x)) = .int (Int32.ofInt x)) (K : WP l Y R X Z k n q L S N Λ (st σ c i x)) : WP l Y R X Z k n pc L ((0, x) :: (0, i) :: (2, c) :: S) N Λ σ := by
  obtain ⟨len, ⟨a, b, e, f⟩, g, h⟩ := h
  exact r_bast d a b e f g h hx K
end IX
