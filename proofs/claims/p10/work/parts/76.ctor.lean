section CT8
variable {l : Launch} {d N : Nat} {Λ : Lay} {σ : Mem} {b : Int}
def updI (R : Int → Int) (i v : Int) : Int → Int := fun j => if j = i then v else R j
theorem st_updI {c i v : Int} : st σ c i v c = updI (σ c) i v := by
  funext j
  by_cases h : j = i
  · subst h
    rw [st_eq]
    exact (if_pos rfl).symm
  · rw [st_nj h]
    exact (if_neg h).symm
def rk2 (R : Int → Int) (x y z r : Int) : Int → Int := updI (updI R (100 * x + 10 * y + z) r) (100 * x + 10 * z + y) (-r)
def rk6 (R : Int → Int) (x y z r : Int) : Int → Int := rk2 (rk2 (rk2 R x y z r) y z x r) z x y r
def lt3 (L : Int → Int) (x y z r : Int) : Int → Int := updI (updI (updI L (3 * r) x) (3 * r + 1) y) (3 * r + 2) z
theorem k_ranks {P : Mem → Prop} {x y z r : Int} (hM : ModL N Λ b) (x0 : 0 ≤ x) (x1 : x < 10) (y0 : 0 ≤ y) (y1 : y < 10) (z0 : 0 ≤ z) (z1 : z < 10) (r0 : 0 ≤ r) (r1 : r ≤ 120) (h : ∀ σ', σ' (b + 1) = rk2 (σ (b + 1)) x y z r → (∀ c', c' ≠ b + 1 → σ' c' = σ c') → P σ') : CV l mX12_ranks d [(2, b), (0, x), (0, y), (0, z), (0, r)] N Λ σ P := by
  have e1 : addI (addI (mulI 100 x) (mulI 10 y)) z = 100 * x + 10 * y + z := by
    rw [mulI_e (x := 100) (y := x) (by omega) (by omega), mulI_e (x := 10) (y := y) (by omega) (by omega), addI_e (x := 100 * x) (y := 10 * y) (by omega) (by omega), addI_e (x := 100 * x + 10 * y) (y := z) (by omega) (by omega)]
  have e2 : addI (addI (mulI 100 x) (mulI 10 z)) y = 100 * x + 10 * z + y := by
    rw [mulI_e (x := 100) (y := x) (by omega) (by omega), mulI_e (x := 10) (y := z) (by omega) (by omega), addI_e (x := 100 * x) (y := 10 * z) (by omega) (by omega), addI_e (x := 100 * x + 10 * z) (y := y) (by omega) (by omega)]
  refine c_X12_ranks (v_X12_ranks_0 hM.1 (M_frankOf hM) ?_)
  rw [e1, e2]
  refine ⟨Ix.of (M_rankOf hM) (by omega) (by omega), fun τ1 t1 => ⟨Ix.of (M_rankOf hM) (by omega) (by omega), fun τ2 t2 => h τ2 ?_ (fun c' hc => ?_)⟩⟩
  · rw [t2, st_updI, t1, st_updI, negI_e (by omega) (by omega)]
    rfl
  · rw [t2, st_ne hc, t1, st_ne hc]
theorem mod_it {P : Nat → Lay → Mem → Prop} {mc ms kk nn : Nat} {k x y z : Int} (hM : ModL N Λ b) (hd : 1 ≤ d) (hkn : kk ≤ mc ∧ nn ≤ ms) (x0 : 0 ≤ x) (x1 : x < 10) (y0 : 0 ≤ y) (y1 : y < 10) (z0 : 0 ≤ z) (z1 : z < 10) (r0 : 0 ≤ k) (r1 : k < 120)
    (h : ∀ σ', σ' (b + 1) = rk6 (σ (b + 1)) x y z (k + 1) → σ' (b + 2) = lt3 (σ (b + 2)) x y z (k + 1) → (∀ c', c' ≠ b + 1 → c' ≠ b + 2 → σ' c' = σ c') → WC l mX12_init d mc ms P kk nn 212 [(2, b), (0, k + 1), (0, x), (0, y), (0, z + 1)] [] N Λ σ') :
    WC l mX12_init d mc ms P kk nn 212 [(2, b), (0, k), (0, x), (0, y), (0, z)] [] N Λ σ := by
  refine v_X12_init_212 hM.1 hd ⟨fun hc => by omega, fun _ y2 e2 b3 e3 => ?_⟩
  rw [addI_e (by omega) (by omega)] at e2
  subst e2
  rw [M_fletterOf hM] at e3
  subst e3
  have m0 : mulI 3 (k + 1) = 3 * (k + 1) := mulI_e (by omega) (by omega)
  have m1 : addI (3 * (k + 1)) 1 = 3 * (k + 1) + 1 := addI_e (by omega) (by omega)
  have m2 : addI (3 * (k + 1)) 2 = 3 * (k + 1) + 2 := addI_e (by omega) (by omega)
  rw [m0, m1, m2]
  clear m0 m1 m2
  refine ⟨363, M_letterOf hM, Ix.of (M_letterOf hM) (by omega) (by omega), fun τ5 t5 b6 e6 => ?_⟩
  rw [M_fletterOf hM] at e6
  subst e6
  refine ⟨363, M_letterOf hM, Ix.of (M_letterOf hM) (by omega) (by omega), fun τ8 t8 b9 e9 => ?_⟩
  rw [M_fletterOf hM] at e9
  subst e9
  refine ⟨363, M_letterOf hM, Ix.of (M_letterOf hM) (by omega) (by omega), fun τ11 t11 => ⟨hkn, ?_⟩⟩
  have L2 : τ11 (b + 2) = lt3 (σ (b + 2)) x y z (k + 1) := by
    rw [t11, st_updI, t8, st_updI, t5, st_updI]
    rfl
  have L1 : ∀ c', c' ≠ b + 2 → τ11 c' = σ c' := fun c' hc => by rw [t11, st_ne hc, t8, st_ne hc, t5, st_ne hc]
  clear t5 t8 t11
  refine k_ranks hM x0 x1 y0 y1 z0 z1 (by omega) (by omega) (fun σ12 a1 a2 => ⟨hkn, ?_⟩)
  refine k_ranks hM y0 y1 z0 z1 x0 x1 (by omega) (by omega) (fun σ13 b1 b2 => ⟨hkn, ?_⟩)
  refine k_ranks hM z0 z1 x0 x1 y0 y1 (by omega) (by omega) (fun σ14 c1 c2 y15 e15 => ?_)
  rw [e15, addI_e (by omega) (by omega)]
  refine h σ14 ?_ ?_ (fun c' g0 g1 => ?_)
  · rw [c1, b1, a1, L1 (b + 1) (by omega)]
    rfl
  · rw [c2 (b + 2) (by omega), b2 (b + 2) (by omega), a2 (b + 2) (by omega), L2]
  · rw [c2 c' g0, b2 c' g0, a2 c' g0, L1 c' g1]
end CT8
