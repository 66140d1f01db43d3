/-- part of an array is copied -/
def cpM (σ : Mem) (a0 sp a dp n : Int) : Mem := fun c j => if c = a ∧ dp ≤ j ∧ j < dp + n then σ a0 (sp + (j - dp)) else σ c j
def Cp (N : Nat) (Λ : Lay) (a0 a : Int) (t : Nat) (sp dp n : Int) : Prop := ∃ l0 l1 : Int, Ob N Λ a0 t l0 ∧ Ob N Λ a t l1 ∧ 0 ≤ sp ∧ 0 ≤ dp ∧ 0 ≤ n ∧ sp + n ≤ l0 ∧ dp + n ≤ l1
theorem nbool {x : Int} (h : x = 0 ∨ x = 1) : narrow .boolean (.int (Int32.ofInt x)) = .int (Int32.ofInt x) := by
  rcases h with rfl | rfl <;> rfl
section MORE
variable {l : Launch} {Y : MD} {R : Room} {X : XT} {Z : ZT} {k n pc q : Nat} {L S : List AV} {N : Nat} {Λ : Lay} {σ : Mem}
theorem x_iinc {j : Nat} {x a : Int} (d : DC Y pc (.iinc j a) 3 q) (hx : lk L j = (0, x)) (hn : j < mL Y) (hok : stOk L j = true) (K : ∀ y : Int, y = addI x a → WP l Y R X Z k n q (ls1 L j (0, y)) S N Λ σ) : WP l Y R X Z k n pc L S N Λ σ := r_iinc d hx hn hok rfl (K _ rfl)
theorem r_nmR {c : Int} {ci j nf idx : Nat} {C : String} {T : u_T} (d : DC Y pc (.getfield idx) 3 q) (hc : CLS ci C T nf) (hj : j < nf) (hfl : Cond.fieldLink (mN Y).cls idx (T j).1 (T j).2.1 (T j).2.2.1 ∈ lw_g) (ho : Ob N Λ c (ci + 10) nf) (ht : fld ci j = 2) (K : ∀ x : Int, x = (Λ c).2.2 j → WP l Y R X Z k n q L ((2, x) :: S) N Λ σ) : WP l Y R X Z k n pc L ((2, c) :: S) N Λ σ :=
  r_getf d hc hj hfl ho.1 ho.2.1 ho.2.2.1 ho.2.2.2 ht rfl (K _ rfl)
theorem WP_mask {L' : List AV} (h : WP l Y R X Z k n pc L' S N Λ σ) (hm : ∀ i, i < L'.length → (lk L' i).1 = 3 ∨ lk L' i = lk L i) : WP l Y R X Z k n pc L S N Λ σ := by
  intro p e s m args below meth c B H locs ls hb hX hB hR hS hl hL hs
  refine h p e s m args below meth c B H locs ls hb hX hB hR hS (lv_mono hl fun q hq => ?_) (fun v hv => ?_) hs
  · obtain ⟨h1, h2, h3⟩ := lvl_mem.mp hq
    rcases hm q.1 h1 with h | h
    · exact absurd h h2
    · rw [h] at h2 h3
      exact lvl_mem.mpr ⟨lk_lt h2, h2, h3⟩
  · obtain ⟨i, hi, rfl⟩ : ∃ i, i < L'.length ∧ lk L' i = v := by
      clear hm h hl
      induction L' with
      | nil => cases hv
      | cons a l' ih =>
        rcases List.mem_cons.mp hv with rfl | hv
        · exact ⟨0, by simp, rfl⟩
        · obtain ⟨i, h1, h2⟩ := ih hv
          exact ⟨i + 1, by simp; omega, h2⟩
    rcases hm i hi with h | h
    · exact ⟨fun z => absurd (h.symm.trans z) (by decide), fun z => absurd (h.symm.trans z) (by decide)⟩
    · rw [h]
      by_cases h3 : (lk L i).1 = 3
      · exact ⟨fun z => absurd (h3.symm.trans z) (by decide), fun z => absurd (h3.symm.trans z) (by decide)⟩
      · exact hL _ (lk_mem (lk_lt h3))
def msk : List AV → List AV → Prop
  | [], _ => True
  | _ :: _, [] => False
  | a :: l, b :: m => (a.1 = 3 ∨ a = b) ∧ msk l m
theorem msk_lk : ∀ {L' L : List AV}, msk L' L → ∀ i, i < L'.length → (lk L' i).1 = 3 ∨ lk L' i = lk L i
  | [], _, _, i, h => by simp at h
  | _ :: _, [], hm, _, _ => hm.elim
  | a :: l, b :: m, hm, 0, _ => hm.1
  | a :: l, b :: m, hm, i + 1, h => msk_lk hm.2 i (by simpa using h)
theorem x_mask {L' : List AV} (h : WP l Y R X Z k n pc L' S N Λ σ) (hm : msk L' L) : WP l Y R X Z k n pc L S N Λ σ := WP_mask h (msk_lk hm)
theorem W_size {p : Program} {e : Env} {s : State} {m : MethodId} {args : Array Value} {below : List Frame} {meth : Method} {c : Code} {H : Heap} {locs : List Loc} {cells slots : Nat} {Q : State → Prop} {g : JFrame} (h : H.size ≤ s.heap.size + cells → W p l e R s m args below meth c H locs cells slots Q g) : W p l e R s m args below meth c H locs cells slots Q g := by
  intro T hT X
  exact h (by have := X.heapSize; rw [hT] at this; exact this) T hT X
theorem x_acp0 {a0 a sp dp c : Int} {idx : Nat} {d : Nat} (dd : DC Y pc (.invokestatic idx) 3 q) (hl2 : Cond.methodLink (mN Y).cls idx arraycopyName ∈ lw_g) (hd : 1 ≤ d) (h8 : (S.map cat).sum ≤ 8) (h : Cp N Λ a0 a 0 sp dp c) (K : WP l Y (rm d 0 0) X Z 0 n q L S N Λ (cpM σ a0 sp a dp c)) : WP l Y (rm d 0 0) X Z 0 n pc L ((0, c) :: (0, dp) :: (2, a) :: (0, sp) :: (2, a0) :: S) N Λ σ := by
  intro p e s m args below meth cd B H locs ls hb hX hB hR hS hl hL hs
  obtain ⟨hde, rfl⟩ := dd
  obtain ⟨l0, l1, ⟨o1, o2, o3, o4⟩, ⟨u1, u2, u3, u4⟩, g1, g2, g3, g4, g5⟩ := h
  obtain ⟨a, rfl⟩ := Int.eq_ofNat_of_zero_le u1
  obtain ⟨a0, rfl⟩ := Int.eq_ofNat_of_zero_le o1
  obtain ⟨l0, rfl⟩ := Int.eq_ofNat_of_zero_le (show 0 ≤ l0 by omega)
  obtain ⟨l1, rfl⟩ := Int.eq_ofNat_of_zero_le (show 0 ≤ l1 by omega)
  have hcr : R32 c := (okh hs).1 rfl
  have hdr : R32 dp := (okh (okt hs)).1 rfl
  have hsr : R32 sp := (okh (okt (okt (okt hs)))).1 rfl
  obtain ⟨D, κ, hP, hK, hz, hm⟩ := id hR
  have hts := hb.2.2.2.2.1
  have ha : a < N := by omega
  have ha0 : a0 < N := by omega
  have e0 := wsO_get (B := B) (Λ := Λ) (κ := κ) (σ := σ) ha0
  have e1 := wsO_get (B := B) (Λ := Λ) (κ := κ) (σ := σ) ha
  rw [ent_i o3 (Or.inl rfl) o4] at e0
  rw [ent_i u3 (Or.inl rfl) u4] at e1
  have hK2 := hK.K2 ha0 (by rw [o3]; decide) ha (by rw [u3]; decide)
  rw [o3, u3] at hK2
  show W p l e (rm d 0 0) s m args below meth cd H locs 0 n _ (F0 m pc ls (.int (Int32.ofInt c) :: .int (Int32.ofInt dp) :: tv B (2, (a : Int)) :: .int (Int32.ofInt sp) :: tv B (2, (a0 : Int)) :: S.map (tv B)))
  rw [tv_r B u1, tv_r B o1]
  refine W_size fun hsz => ?_
  refine va_copyi hb.1 hb.2.1 (hb.2.2.1.trans hl.1.symm) hb.2.2.2.1 (hts _ hl2) (hts _ ok_acp.1) (hts _ ok_acp.2.1) (hts _ ok_acp.2.2) hK2 hP (wsO_D B N Λ κ σ) hS a0 a 0 1 e0 e1 rfl rfl rfl
    (fun h => by have := (i32_lt hsr R32_0).mp h; omega) (fun h => by have := (i32_lt hdr R32_0).mp h; omega) (fun h => by have := (i32_lt hcr R32_0).mp h; omega) (by rw [clampI hsr, clampI hcr]; omega) (by rw [clampI hdr, clampI hcr]; omega) (fun i _ => rfl) hd ?_ hde ?_
  · rw [cats]
    show _ + (nativeFrameWords "java/lang/System" "arraycopy" 5 + 11) ≤ 64 * d
    have : nativeFrameWords "java/lang/System" "arraycopy" 5 ≤ 40 := by decide
    omega
  · intro H1 locs1 hP1 hD1 hS1
    refine W_size fun hsz1 => ?_
    refine K p e s m args below meth cd B H1 locs1 ls hb hX hB ⟨D, κ, ?_, hK, by have := hS.1; have := hS1.1; omega, ?_⟩ hS1 hl hL (okt (okt (okt (okt (okt hs)))))
    · rw [clampI hsr, clampI hdr, clampI hcr] at hP1
      have := wsO_set (B := B) (Λ := Λ) (Λ' := Λ) (κ := κ) (σ := σ) (σ' := cpM σ a0 sp a dp c) (E := .inl (κ a, l1, .inl (va_cpy (fun j : Nat => Int32.ofInt (σ a0 j)) (fun j : Nat => Int32.ofInt (σ a j)) sp.toNat dp.toNat c.toNat))) ha ?_ (fun k _ hne => ent_same rfl ?_ rfl)
      · rw [← this]
        exact hP1
      · rw [ent_i u3 (Or.inl rfl) u4]
        congr 3
        congr 1
        funext j
        unfold va_cpy cpM
        by_cases hj : dp.toNat ≤ j ∧ j < dp.toNat + c.toNat
        · rw [if_pos hj, if_pos ⟨rfl, by omega, by omega⟩]
          dsimp only
          rw [show ((sp.toNat + (j - dp.toNat) : Nat) : Int) = sp + ((j : Int) - dp) by omega]
        · rw [if_neg hj, if_neg (fun z => hj ⟨by omega, by omega⟩)]
      · funext j
        unfold cpM
        rw [if_neg (fun z => hne (by omega))]
    · intro c' j h0 h1 h2 h3
      unfold cpM
      split
      · rename_i hh
        have := hm a0 (sp + (j - dp)) (by omega) (by omega) (by omega) (by rw [o4]; omega)
        rw [hh.1, u3]
        rw [o3] at this
        exact ⟨this.1, this.2.1, fun z => absurd z (by decide), fun z => absurd z (by decide)⟩
      · exact hm c' j h0 h1 h2 h3
theorem x_acp1 {a0 a sp dp c : Int} {idx : Nat} {d : Nat} (dd : DC Y pc (.invokestatic idx) 3 q) (hl2 : Cond.methodLink (mN Y).cls idx arraycopyName ∈ lw_g) (hd : 1 ≤ d) (h8 : (S.map cat).sum ≤ 8) (h : Cp N Λ a0 a 1 sp dp c) (K : WP l Y (rm d 0 0) X Z 0 n q L S N Λ (cpM σ a0 sp a dp c)) : WP l Y (rm d 0 0) X Z 0 n pc L ((0, c) :: (0, dp) :: (2, a) :: (0, sp) :: (2, a0) :: S) N Λ σ := by
  intro p e s m args below meth cd B H locs ls hb hX hB hR hS hl hL hs
  obtain ⟨hde, rfl⟩ := dd
  obtain ⟨l0, l1, ⟨o1, o2, o3, o4⟩, ⟨u1, u2, u3, u4⟩, g1, g2, g3, g4, g5⟩ := h
  obtain ⟨a, rfl⟩ := Int.eq_ofNat_of_zero_le u1
  obtain ⟨a0, rfl⟩ := Int.eq_ofNat_of_zero_le o1
  obtain ⟨l0, rfl⟩ := Int.eq_ofNat_of_zero_le (show 0 ≤ l0 by omega)
  obtain ⟨l1, rfl⟩ := Int.eq_ofNat_of_zero_le (show 0 ≤ l1 by omega)
  have hcr : R32 c := (okh hs).1 rfl
  have hdr : R32 dp := (okh (okt hs)).1 rfl
  have hsr : R32 sp := (okh (okt (okt (okt hs)))).1 rfl
  obtain ⟨D, κ, hP, hK, hz, hm⟩ := id hR
  have hts := hb.2.2.2.2.1
  have ha : a < N := by omega
  have ha0 : a0 < N := by omega
  have e0 := wsO_get (B := B) (Λ := Λ) (κ := κ) (σ := σ) ha0
  have e1 := wsO_get (B := B) (Λ := Λ) (κ := κ) (σ := σ) ha
  rw [ent_l o3 o4] at e0
  rw [ent_l u3 u4] at e1
  have hK2 := hK.K2 ha0 (by rw [o3]; decide) ha (by rw [u3]; decide)
  rw [o3, u3] at hK2
  show W p l e (rm d 0 0) s m args below meth cd H locs 0 n _ (F0 m pc ls (.int (Int32.ofInt c) :: .int (Int32.ofInt dp) :: tv B (2, (a : Int)) :: .int (Int32.ofInt sp) :: tv B (2, (a0 : Int)) :: S.map (tv B)))
  rw [tv_r B u1, tv_r B o1]
  refine W_size fun hsz => ?_
  refine va_copyl hb.1 hb.2.1 (hb.2.2.1.trans hl.1.symm) hb.2.2.2.1 (hts _ hl2) (hts _ ok_acp.1) (hts _ ok_acp.2.1) (hts _ ok_acp.2.2) hK2 hP (wsO_D B N Λ κ σ) hS a0 a 0 1 e0 e1 rfl rfl rfl
    (fun h => by have := (i32_lt hsr R32_0).mp h; omega) (fun h => by have := (i32_lt hdr R32_0).mp h; omega) (fun h => by have := (i32_lt hcr R32_0).mp h; omega) (by rw [clampI hsr, clampI hcr]; omega) (by rw [clampI hdr, clampI hcr]; omega) (fun i _ => rfl) hd ?_ hde ?_
  · rw [cats]
    show _ + (nativeFrameWords "java/lang/System" "arraycopy" 5 + 11) ≤ 64 * d
    have : nativeFrameWords "java/lang/System" "arraycopy" 5 ≤ 40 := by decide
    omega
  · intro H1 locs1 hP1 hD1 hS1
    refine W_size fun hsz1 => ?_
    refine K p e s m args below meth cd B H1 locs1 ls hb hX hB ⟨D, κ, ?_, hK, by have := hS.1; have := hS1.1; omega, ?_⟩ hS1 hl hL (okt (okt (okt (okt (okt hs)))))
    · rw [clampI hsr, clampI hdr, clampI hcr] at hP1
      have := wsO_set (B := B) (Λ := Λ) (Λ' := Λ) (κ := κ) (σ := σ) (σ' := cpM σ a0 sp a dp c) (E := .inl (κ a, l1, .inr (.inl (va_cpy (fun j : Nat => Int64.ofInt (σ a0 j)) (fun j : Nat => Int64.ofInt (σ a j)) sp.toNat dp.toNat c.toNat)))) ha ?_ (fun k _ hne => ent_same rfl ?_ rfl)
      · rw [← this]
        exact hP1
      · rw [ent_l u3 u4]
        congr 4
        congr 1
        funext j
        unfold va_cpy cpM
        by_cases hj : dp.toNat ≤ j ∧ j < dp.toNat + c.toNat
        · rw [if_pos hj, if_pos ⟨rfl, by omega, by omega⟩]
          dsimp only
          rw [show ((sp.toNat + (j - dp.toNat) : Nat) : Int) = sp + ((j : Int) - dp) by omega]
        · rw [if_neg hj, if_neg (fun z => hj ⟨by omega, by omega⟩)]
      · funext j
        unfold cpM
        rw [if_neg (fun z => hne (by omega))]
    · intro c' j h0 h1 h2 h3
      unfold cpM
      split
      · rename_i hh
        have := hm a0 (sp + (j - dp)) (by omega) (by omega) (by omega) (by rw [o4]; omega)
        rw [hh.1, u3]
        rw [o3] at this
        exact ⟨this.1, this.2.1, fun z => absurd z (by decide), fun z => absurd z (by decide)⟩
      · exact hm c' j h0 h1 h2 h3
end MORE
theorem tsw_4 {x : Int} (hr : ¬ (x < 0 ∨ 4 < x)) (h0 : ¬ x = 0) (h1 : ¬ x = 1) (h2 : ¬ x = 2) (h3 : ¬ x = 3) (h4 : ¬ x = 4) : False := by omega
theorem tsw_5 {x : Int} (hr : ¬ (x < 0 ∨ 5 < x)) (h0 : ¬ x = 0) (h1 : ¬ x = 1) (h2 : ¬ x = 2) (h3 : ¬ x = 3) (h4 : ¬ x = 4) (h5 : ¬ x = 5) : False := by omega
theorem tsw_35 {x : Int} (hr : ¬ (x < 0 ∨ 35 < x)) (h0 : ¬ x = 0) (h1 : ¬ x = 1) (h2 : ¬ x = 2) (h3 : ¬ x = 3) (h4 : ¬ x = 4) (h5 : ¬ x = 5) (h6 : ¬ x = 6) (h7 : ¬ x = 7) (h8 : ¬ x = 8) (h9 : ¬ x = 9) (h10 : ¬ x = 10) (h11 : ¬ x = 11) (h12 : ¬ x = 12) (h13 : ¬ x = 13) (h14 : ¬ x = 14) (h15 : ¬ x = 15) (h16 : ¬ x = 16) (h17 : ¬ x = 17) (h18 : ¬ x = 18) (h19 : ¬ x = 19) (h20 : ¬ x = 20) (h21 : ¬ x = 21) (h22 : ¬ x = 22) (h23 : ¬ x = 23) (h24 : ¬ x = 24) (h25 : ¬ x = 25) (h26 : ¬ x = 26) (h27 : ¬ x = 27) (h28 : ¬ x = 28) (h29 : ¬ x = 29) (h30 : ¬ x = 30) (h31 : ¬ x = 31) (h32 : ¬ x = 32) (h33 : ¬ x = 33) (h34 : ¬ x = 34) (h35 : ¬ x = 35) : False := by omega
section XCALL
variable {l : Launch} {Y Y2 : MD} {X : XT} {Z : ZT} {pc q d idx ci nf : Nat} {L S S0 As : List AV} {N : Nat} {Λ : Lay} {σ : Mem} {T : u_T} {c : Int}
theorem x_callVI (dd : DC Y pc (.invokevirtual idx) 3 q) (ok : okV Y2) (hl2 : Cond.methodLink (mN Y).cls idx (mN Y2) ∈ lw_g) (hA : As.length = mA Y2) (hm : mL Y2 ≤ 45) (h8 : (S.map cat).sum ≤ 8) (hS0 : S0 = As.reverse ++ (2, c) :: S) (hd : 1 ≤ d) (hc : CLS ci (mN Y2).cls T nf) (ho : Ob N Λ c (ci + 10) nf) (h : CI l Y2 (d - 1) ((2, c) :: As) N Λ σ (fun v σ' => WP l Y (rm d 0 0) X Z 0 0 q L ((0, v) :: S) N Λ σ')) : WP l Y (rm d 0 0) X Z 0 0 pc L S0 N Λ σ :=
  r_callV dd ok hl2 hA (rmc hd hm) rm00 h8 hS0 hc ho.1 ho.2.1 ho.2.2.1 ho.2.2.2 (MC.mono h fun r N' Λ' σ' hq => by obtain ⟨v, rfl, rfl, rfl, h⟩ := hq; exact h)
theorem x_callVL (dd : DC Y pc (.invokevirtual idx) 3 q) (ok : okV Y2) (hl2 : Cond.methodLink (mN Y).cls idx (mN Y2) ∈ lw_g) (hA : As.length = mA Y2) (hm : mL Y2 ≤ 45) (h8 : (S.map cat).sum ≤ 8) (hS0 : S0 = As.reverse ++ (2, c) :: S) (hd : 1 ≤ d) (hc : CLS ci (mN Y2).cls T nf) (ho : Ob N Λ c (ci + 10) nf) (h : CL l Y2 (d - 1) ((2, c) :: As) N Λ σ (fun v σ' => WP l Y (rm d 0 0) X Z 0 0 q L ((1, v) :: S) N Λ σ')) : WP l Y (rm d 0 0) X Z 0 0 pc L S0 N Λ σ :=
  r_callV dd ok hl2 hA (rmc hd hm) rm00 h8 hS0 hc ho.1 ho.2.1 ho.2.2.1 ho.2.2.2 (MC.mono h fun r N' Λ' σ' hq => by obtain ⟨v, rfl, rfl, rfl, h⟩ := hq; exact h)
theorem x_callVV (dd : DC Y pc (.invokevirtual idx) 3 q) (ok : okV Y2) (hl2 : Cond.methodLink (mN Y).cls idx (mN Y2) ∈ lw_g) (hA : As.length = mA Y2) (hm : mL Y2 ≤ 45) (h8 : (S.map cat).sum ≤ 8) (hS0 : S0 = As.reverse ++ (2, c) :: S) (hd : 1 ≤ d) (hc : CLS ci (mN Y2).cls T nf) (ho : Ob N Λ c (ci + 10) nf) (h : CV l Y2 (d - 1) ((2, c) :: As) N Λ σ (fun σ' => WP l Y (rm d 0 0) X Z 0 0 q L S N Λ σ')) : WP l Y (rm d 0 0) X Z 0 0 pc L S0 N Λ σ :=
  r_callV dd ok hl2 hA (rmc hd hm) rm00 h8 hS0 hc ho.1 ho.2.1 ho.2.2.1 ho.2.2.2 (MC.mono h fun r N' Λ' σ' hq => by obtain ⟨rfl, rfl, rfl, h⟩ := hq; exact h)
theorem x_callSI (dd : DC Y pc (.invokestatic idx) 3 q) (ok : okS Y2) (hl2 : Cond.methodLink (mN Y).cls idx (mN Y2) ∈ lw_g) (hA : As.length = mA Y2) (hm : mL Y2 ≤ 45) (h8 : (S.map cat).sum ≤ 8) (hS0 : S0 = As.reverse ++ S) (hd : 1 ≤ d) (h : CI l Y2 (d - 1) As N Λ σ (fun v σ' => WP l Y (rm d 0 0) X Z 0 0 q L ((0, v) :: S) N Λ σ')) : WP l Y (rm d 0 0) X Z 0 0 pc L S0 N Λ σ :=
  r_callS dd ok hl2 hA (rmc hd hm) rm00 h8 hS0 (MC.mono h fun r N' Λ' σ' hq => by obtain ⟨v, rfl, rfl, rfl, h⟩ := hq; exact h)
theorem x_callSL (dd : DC Y pc (.invokestatic idx) 3 q) (ok : okS Y2) (hl2 : Cond.methodLink (mN Y).cls idx (mN Y2) ∈ lw_g) (hA : As.length = mA Y2) (hm : mL Y2 ≤ 45) (h8 : (S.map cat).sum ≤ 8) (hS0 : S0 = As.reverse ++ S) (hd : 1 ≤ d) (h : CL l Y2 (d - 1) As N Λ σ (fun v σ' => WP l Y (rm d 0 0) X Z 0 0 q L ((1, v) :: S) N Λ σ')) : WP l Y (rm d 0 0) X Z 0 0 pc L S0 N Λ σ :=
  r_callS dd ok hl2 hA (rmc hd hm) rm00 h8 hS0 (MC.mono h fun r N' Λ' σ' hq => by obtain ⟨v, rfl, rfl, rfl, h⟩ := hq; exact h)
theorem x_callSV (dd : DC Y pc (.invokestatic idx) 3 q) (ok : okS Y2) (hl2 : Cond.methodLink (mN Y).cls idx (mN Y2) ∈ lw_g) (hA : As.length = mA Y2) (hm : mL Y2 ≤ 45) (h8 : (S.map cat).sum ≤ 8) (hS0 : S0 = As.reverse ++ S) (hd : 1 ≤ d) (h : CV l Y2 (d - 1) As N Λ σ (fun σ' => WP l Y (rm d 0 0) X Z 0 0 q L S N Λ σ')) : WP l Y (rm d 0 0) X Z 0 0 pc L S0 N Λ σ :=
  r_callS dd ok hl2 hA (rmc hd hm) rm00 h8 hS0 (MC.mono h fun r N' Λ' σ' hq => by obtain ⟨rfl, rfl, rfl, h⟩ := hq; exact h)
end XCALL
