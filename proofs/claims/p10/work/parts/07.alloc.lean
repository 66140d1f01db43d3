def newL (Λ : Lay) (c : Int) (t : Nat) (len : Int) : Lay := fun c' => if c' = c then (t, len, fun _ => -1) else Λ c'
def newM (σ : Mem) (c : Int) : Mem := fun c' j => if c' = c then 0 else σ c' j
theorem newL_ne {Λ : Lay} {c c' len : Int} {t : Nat} (h : c' ≠ c) : newL Λ c t len c' = Λ c' := if_neg h
theorem newL_eq {Λ : Lay} {c len : Int} {t : Nat} : newL Λ c t len c = (t, len, fun _ => -1) := if_pos rfl
theorem newM_ne {σ : Mem} {c c' : Int} (h : c' ≠ c) : newM σ c c' = σ c' := funext fun _ => if_neg h
theorem newM_eq {σ : Mem} {c j : Int} : newM σ c c j = 0 := if_pos rfl
theorem okm_new {N : Nat} {Λ : Lay} {σ : Mem} {t : Nat} {len : Int} (h : okm N Λ σ) : okm (N + 1) (newL Λ N t len) (newM σ N) := by
  intro c j h0 h1 h2 h3
  by_cases e : c = N
  · subst e
    rw [newM_eq]
    exact ⟨fun _ => ⟨by decide, by decide⟩, fun _ => ⟨by decide, by decide⟩, fun _ _ => ⟨by decide, by decide⟩, fun _ _ => ⟨by decide, by decide⟩⟩
  · rw [newL_ne e] at h3 ⊢
    rw [newM_ne e]
    exact h c j h0 (by omega) h2 h3
theorem KOK.new {D : va_G} {κ : Nat → ClassId} {N : Nat} {Λ : Lay} {s : State} {t : Nat} {len : Int} {cA : ClassId} (h : KOK D κ N Λ s) (ha : t < 10 → ArrOfT s cA (arty t) ∧ va_RA s cA (arty t)) : KOK D (fun c => if c = N then cA else κ c) (N + 1) (newL Λ N t len) s := by
  refine ⟨h.1, fun c hc hk => ?_, h.2.2⟩
  by_cases e : c = N
  · subst e
    rw [newL_eq] at hk ⊢
    simp only [if_true]
    exact ha hk
  · rw [newL_ne (by omega)] at hk ⊢
    simp only [e, if_false]
    exact h.2.1 c (by omega) hk
theorem pushP {B N : Nat} {Λ : Lay} {κ : Nat → ClassId} {σ : Mem} {D : va_G} {H H1 : Heap} {t : Nat} {len : Int} {cA : ClassId} (hP : va_P D vwCl (wsO B N Λ κ σ) H) (o1 : ∀ q : Nat, q < H.size → H1[q]? = H[q]?) (he : va_at D vwCl (B + N, ent B (newL Λ N t len) (fun c => if c = N then cA else κ c) (newM σ N) N) H1) :
    va_P D vwCl (wsO B (N + 1) (newL Λ N t len) (fun c => if c = N then cA else κ c) (newM σ N)) H1 := by
  rw [← wsO_push (Λ := Λ) (κ := κ) (σ := σ) (fun k hk => ent_same (newL_ne (by omega)) (newM_ne (by omega)) (if_neg (by omega)))]
  refine (hP.kept fun k x hx => o1 x.1 ((hP k x hx).lt)).app ?_
  intro k x hx
  have hz : k < 1 := (List.getElem?_eq_some_iff.mp hx).1
  rw [show k = 0 by omega] at hx
  cases hx
  exact he
section ALLOC
variable {l : Launch} {Y : MD} {R : Room} {X : XT} {Z : ZT} {k n pc q : Nat} {L S : List AV} {N : Nat} {Λ : Lay} {σ : Mem}
theorem vp_V_map {B nf ci : Nat} {Λ : Lay} {σ : Mem} {c : Int} {j : Nat} (hj : j < nf) : vp_V ((List.range nf).map fun j : Nat => tv B (fld ci j, fv (fld ci j) Λ σ c j)) j = tv B (fld ci j, fv (fld ci j) Λ σ c j) := by
  unfold vp_V
  rw [List.getD_eq_getElem?_getD, List.getElem?_map, List.getElem?_range hj]
  rfl
theorem r_new {idx ci nf : Nat} {C : String} {T : u_T} (d : DC Y pc (.new idx) 3 q) (hc : CLS ci C T nf) (hcl : Cond.classLink (mN Y).cls idx C ∈ lw_g) (hi : Cond.instantiable C nf ∈ lw_g ∧ Cond.initialized C ∈ lw_g) (hdf : ∀ j : Nat, j < nf → defaultValue (tyC ci j) = tv 0 (fld ci j, if fld ci j = 2 then -1 else 0)) (hcs : k + 1 ≤ R.cells ∧ n + nf ≤ R.slots)
    (K : WP l Y R X Z (k + 1) (n + nf) q L ((2, (N : Int)) :: S) (N + 1) (newL Λ N (ci + 10) nf) (newM σ N)) : WP l Y R X Z k n pc L S N Λ σ := by
  intro p e s m args below meth cd B H locs ls hb hX hB hR hS hl hL hs
  obtain ⟨hd, rfl⟩ := d
  obtain ⟨D, κ, hP, hK, hz, hm⟩ := id hR
  have hts := hb.2.2.2.2.1
  have hKn := hK.1 ci _ hc.1
  refine W.newcK hb.1 hb.2.1 hb.2.2.2.1 (hts _ hcl) (hts _ hi.1) (hts _ hi.2) (g := F0 m pc ls (S.map (tv B))) rfl hd hcs.1 hcs.2 hKn.2.1 rfl fun H1 kC hkC e1 z1 o1 => ?_
  have hKK := K p e s m args below meth cd B H1 locs ls hb hX hB ⟨D, fun c => if c = N then 0 else κ c, pushP hP o1 ?_, hK.new (fun h => by omega), by rw [z1]; omega, okm_new hm⟩ ⟨Nat.le_trans hS.1 (by omega), fun x h1 h2 => (o1 x (Nat.lt_of_lt_of_le h1 hS.1)).trans (hS.2.1 x h1 h2), hS.2.2⟩ hl hL (oks1 (ok_r _) hs)
  · rw [List.map_cons, tv_r B (by omega), show B + ((N : Nat) : Int).toNat = H.size by omega] at hKK
    exact hKK
  · rw [ent_o (n := nf) (by rw [newL_eq]) (by rw [newL_eq])]
    refine ⟨_, hc.1, ?_⟩
    rw [show B + N = H.size by omega]
    refine (u_born (tyC ci) hts hc.2.1 hKn hkC e1 hc.2.2.1).to fun j hj => ?_
    rw [vp_V_map hj, hdf j hj]
    unfold fv
    by_cases h2 : fld ci j = 2
    · rw [if_pos h2, if_pos h2, newL_eq, h2]
      rfl
    · rw [if_neg h2, if_neg h2, newM_eq]
      unfold tv
      by_cases h0 : fld ci j = 0
      · simp [h0]
      · by_cases h1 : fld ci j = 1
        · simp [h1]
        · exfalso
          unfold fld at h0 h1 h2
          split at h0 <;> simp_all
theorem r_newa {at_ : ArrayType} {t : Nat} {len : Int} (d : DC Y pc (.newarray at_) 2 q) (hat : newarray.typeOf at_ = arty t) (ht : t = 0 ∨ t = 1 ∨ t = 2 ∨ t = 6) (hac : Cond.arrayClass (arty t) ∈ lw_g) (h0 : 0 ≤ len) (h1 : len ≤ 100000) (hcs : k + 1 ≤ R.cells ∧ n + len.toNat ≤ R.slots)
    (K : WP l Y R X Z (k + 1) (n + len.toNat) q L ((2, (N : Int)) :: S) (N + 1) (newL Λ N t len) (newM σ N)) : WP l Y R X Z k n pc L ((0, len) :: S) N Λ σ := by
  intro p e s m args below meth cd B H locs ls hb hX hB hR hS hl hL hs
  obtain ⟨hd, rfl⟩ := d
  obtain ⟨D, κ, hP, hK, hz, hm⟩ := id hR
  have hts := hb.2.2.2.2.1
  have hr : R32 len := ⟨by omega, by omega⟩
  refine va_newaK (N := len.toNat) hb.1 hb.2.1 (by rw [hat]; exact hts _ hac) (g := F0 m pc ls (((0, len) :: S).map (tv B))) rfl hd (rest := S.map (tv B)) rfl (fun h => by have := (i32_lt hr R32_0).mp h; omega) (clampI hr) ?_ hcs.1 hcs.2 rfl fun H1 cA e1 z1 o1 hAr hNm => ?_
  · have hcb : componentBytes (newarray.typeOf at_) ≤ 8 := by rw [hat]; rcases ht with rfl | rfl | rfl | rfl <;> decide
    have : len.toNat * componentBytes (newarray.typeOf at_) ≤ 100000 * 8 := Nat.mul_le_mul (by omega) hcb
    omega
  · rw [hat] at hAr hNm e1
    have hKK := K p e s m args below meth cd B H1 locs ls hb hX hB ⟨D, fun c => if c = N then cA else κ c, pushP (cA := cA) hP o1 ?_, hK.new (fun _ => ⟨hAr, ?_⟩), by rw [z1]; omega, okm_new hm⟩ ⟨Nat.le_trans hS.1 (by omega), fun x h1 h2 => (o1 x (Nat.lt_of_lt_of_le h1 hS.1)).trans (hS.2.1 x h1 h2), hS.2.2⟩ hl hL (oks1 (ok_r _) (okt hs))
    · rw [List.map_cons, tv_r B (by omega), show B + ((N : Nat) : Int).toNat = H.size by omega] at hKK
      exact hKK
    · by_cases h1 : t = 1
      · subst h1
        rw [ent_l (n := len.toNat) (by rw [newL_eq]) (by rw [newL_eq]; show len = _; omega)]
        show H1[B + N]? = some (vp_cell _ _)
        rw [show B + N = H.size by omega, e1, vp_cell_l]
        simp only [if_true]
        congr 2
        funext j
        rw [newM_eq]
        rfl
      · rw [ent_i (t := t) (n := len.toNat) (by rw [newL_eq]) (by omega) (by rw [newL_eq]; show len = _; omega)]
        show H1[B + N]? = some (vp_cell _ _)
        rw [show B + N = H.size by omega, e1, vp_cell_i]
        simp only [if_true]
        congr 2
        funext j
        rw [newM_eq]
        rcases ht with rfl | rfl | rfl | rfl
        · rfl
        · exact absurd rfl h1
        · rfl
        · rfl
    · rcases ht with rfl | rfl | rfl | rfl <;> exact hNm
theorem r_anew {idx t : Nat} {C : String} {len : Int} (d : DC Y pc (.anewarray idx) 3 q) (hcl : Cond.classLink (mN Y).cls idx C ∈ lw_g) (ht : (t = 3 ∧ C = "BracketDesk$Poly") ∨ (t = 4 ∧ C = "BracketDesk$State")) (h0 : 0 ≤ len) (h1 : len ≤ 100000) (hcs : k + 1 ≤ R.cells ∧ n + len.toNat ≤ R.slots)
    (K : WP l Y R X Z (k + 1) (n + len.toNat) q L ((2, (N : Int)) :: S) (N + 1) (newL Λ N t len) (newM σ N)) : WP l Y R X Z k n pc L ((0, len) :: S) N Λ σ := by
  intro p e s m args below meth cd B H locs ls hb hX hB hR hS hl hL hs
  obtain ⟨hd, rfl⟩ := d
  obtain ⟨D, κ, hP, hK, hz, hm⟩ := id hR
  have hts := hb.2.2.2.2.1
  have hr : R32 len := ⟨by omega, by omega⟩
  have hao : va_AO C s := by
    rcases ht with ⟨-, rfl⟩ | ⟨-, rfl⟩
    · exact hK.2.2.1
    · exact hK.2.2.2.1
  have hty : arty t = .object C := by rcases ht with ⟨rfl, rfl⟩ | ⟨rfl, rfl⟩ <;> rfl
  refine W.anew hb.1 hb.2.1 hb.2.2.2.1 (hts _ hcl) (va_AO.use hao) (g := F0 m pc ls (((0, len) :: S).map (tv B))) rfl hd (rest := S.map (tv B)) rfl (fun h => by have := (i32_lt hr R32_0).mp h; omega) (by rw [clampI hr]; omega) hcs.1 (by rw [clampI hr]; exact hcs.2) fun cA kA comp f1 f2 f3 f4 => ?_
  rw [clampI hr]
  generalize hH1 : H.push ({ cls := cA, slots := Array.replicate len.toNat .null, vm := .none } : Cell) = H1
  have z1 : H1.size = H.size + 1 := by rw [← hH1, Array.size_push]
  have e1 : H1[H.size]? = some (arrV cA len.toNat (fun _ => .null)) := by rw [← hH1, Array.getElem?_push_size, ← arrV_new]
  have o1 : ∀ q : Nat, q < H.size → H1[q]? = H[q]? := fun q hq => by rw [← hH1, Array.getElem?_push, if_neg (Nat.ne_of_lt hq)]
  have hAr : ArrOfT s cA (.object C) := fun N z => ⟨(fun k h => by cases h), kA, f2, comp, f3⟩
  have hKK := K p e s m args below meth cd B H1 locs ls hb hX hB ⟨D, fun c => if c = N then cA else κ c, pushP (cA := cA) hP o1 ?_, hK.new (fun _ => by rw [hty]; exact ⟨hAr, kA, comp, f2, f3, f4, f1⟩), by rw [z1]; omega, okm_new hm⟩ ⟨Nat.le_trans hS.1 (by omega), fun x h1 h2 => (o1 x (Nat.lt_of_lt_of_le h1 hS.1)).trans (hS.2.1 x h1 h2), hS.2.2⟩ hl hL (oks1 (ok_r _) (okt hs))
  · rw [List.map_cons, tv_r B (by omega), show B + ((N : Nat) : Int).toNat = H.size by omega] at hKK
    exact hKK
  · rw [ent_q (t := t) (n := len.toNat) (by rw [newL_eq]) (by omega) (by rw [newL_eq]; show len = _; omega)]
    show H1[B + N]? = some (vp_cell _ _)
    rw [show B + N = H.size by omega, e1, vp_cell_q]
    simp only [if_true]
    congr 2
    funext j
    rw [newL_eq]
    rfl
end ALLOC
