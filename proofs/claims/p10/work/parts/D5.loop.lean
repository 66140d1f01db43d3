theorem dl_33 : decode code 33 = .ok (.tableswitch 1427 0 35 #[159, 222, 255, 288, 311, 324, 347, 380, 433, 486, 549, 592, 645, 698, 731, 764, 817, 870, 893, 936, 969, 992, 1015, 1048, 1071, 1114, 1137, 1170, 1193, 1236, 1269, 1312, 1335, 1358, 1381, 1404], 159) := by decide +kernel
section LAW2
variable {p : Program} {l : Launch} {e : Env} {s : State} {m : MethodId} {below : List Frame} {meth : Method} {c : Code} {b L k n : Nat} {xs : Nat → Int32} {ls : Array Slot} {N : Nat} {Λ : Lay} {σ : Mem}
theorem L_end (C0 : lw_At p s m meth c b L xs) (hk : k ≤ 600000 ∧ n ≤ 7302250) : LW p l e s m below meth c b k n 1466 ls [] N Λ σ := by
  intro H locs hR hS
  refine lv_iconst (v := 1) C0.1 C0.2.1 dl_1466 (by decide) ?_
  refine W.widen hk.1 hk.2 ?_
  refine va_forget (fun q hq => hS.2.2 q hq) ?_
  exact lw_ret C0.1 C0.2.1 C0.2.2.1 C0.2.2.2.2.2.2.2.2.1 dl_1467
theorem len_i {L : Nat} {i : Int} (hL : L ≤ 3072) (h0 : 0 ≤ i) (h1 : i ≤ 4000) : Int32.ofNat L - 6 < Int32.ofInt i ↔ (L : Int) - 6 < i := by
  rw [← Int32.ofInt_eq_ofNat, show (6 : Int32) = Int32.ofInt 6 from rfl, ← Int32.ofInt_sub]
  exact i32_lt ⟨by omega, by omega⟩ ⟨by omega, by omega⟩
/-- the loop: from any place on -/
theorem L_loop (C0 : lw_At p s m meth c b L xs) (hL : L ≤ 3072) (hk : k ≤ 600000 ∧ n ≤ 7302250) : ∀ (f : Nat) (i : Int) (ls : Array Slot) (Λ : Lay) (σ : Mem), 0 ≤ i → i ≤ 3080 → (3080 - i).toNat < f → lv_has ls 4 [(3, .int (Int32.ofInt i)), (2, .ref (s.heap.size + 646)), (1, .ref (s.heap.size + 0)), (0, .ref b)] → LI Λ σ → LW p l e s m below meth c b k n 18 ls [] 669 Λ σ := by
  intro f
  induction f with
  | zero => intros; omega
  | succ f ih =>
    intro i ls Λ σ i0 i1 g hl hI H locs hR hS
    refine lv_iload_n C0.1 C0.2.1 dl_18 rfl (lv_at hl 0 rfl) ?_
    refine lv_aload_n C0.1 C0.2.1 dl_19 rfl (lv_at hl 3 rfl) ?_
    refine va_slen C0.1 C0.2.1 C0.2.2.2.2.2.2.1 C0.2.2.2.2.2.2.2.1 (Nat.not_le.mpr C0.2.2.2.2.2.2.2.1) hS dl_20 ?_
    refine lv_bipush (v := 6) C0.1 C0.2.1 dl_21 (by decide) ?_
    refine lv_isub C0.1 C0.2.1 dl_23 ?_
    refine lv_icmp_gt (tgt := 1466) C0.1 C0.2.1 dl_24 (by decide) (fun _ => L_end C0 hk H locs hR hS) (fun hn => ?_)
    have hi : 0 ≤ i ∧ i + 6 ≤ L := by
      have : ¬ ((L : Int) - 6 < i) := fun z => hn ((len_i hL i0 (by omega)).mpr z)
      omega
    clear hn
    have hE : ∀ Λ' σ', LI Λ' σ' → LW p l e s m below meth c b k n 1460 ls [] 669 Λ' σ' := fun Λ' σ' hI' H locs hR hS => by
      refine lv_iinc (k := 0) (x := Int32.ofInt i) (v := Int32.ofInt (i + 6)) (lv' := [(3, .int (Int32.ofInt (i + 6))), (2, .ref (s.heap.size + 646)), (1, .ref (s.heap.size + 0)), (0, .ref b)]) C0.1 C0.2.1 dl_1460 hl rfl (by rw [Int32.ofInt_add]) (by decide) rfl fun ls' hl' => ?_
      refine lv_goto (tgt := 18) C0.1 C0.2.1 dl_1463 (by decide) ?_
      exact ih (i + 6) ls' Λ' σ' (by omega) (by omega) (by omega) hl' hI' H locs hR hS
    have q := ar_g (z := i) (L := L) i0 (by omega) hL
    refine lv_aload_n C0.1 C0.2.1 dl_27 rfl (lv_at hl 3 rfl) ?_
    refine lv_iload_n C0.1 C0.2.1 dl_28 rfl (lv_at hl 0 rfl) ?_
    refine va_sld C0.1 C0.2.1 C0.2.2.2.2.2.2.1 C0.2.2.2.2.2.2.2.1 (Nat.not_le.mpr C0.2.2.2.2.2.2.2.1) hS (i := Int32.ofInt i) q.2 dl_29 ?_
    refine lv_bipush (v := 63) C0.1 C0.2.1 dl_30 (by decide) ?_
    refine lv_iand C0.1 C0.2.1 dl_32 ?_
    have hx : 0 ≤ (xs (Int32.ofInt i).toNatClampNeg &&& 63).toInt ∧ (xs (Int32.ofInt i).toNatClampNeg &&& 63).toInt < 64 := by
      have q := andI_m (x := (xs (Int32.ofInt i).toNatClampNeg).toInt) (m := 63) 6 (i32_r _) (by decide) (by decide)
      unfold andI at q
      rw [Int32.ofInt_toInt] at q
      rw [show (xs (Int32.ofInt i).toNatClampNeg &&& 63) = (xs (Int32.ofInt i).toNatClampNeg &&& Int32.ofInt 63) from rfl, q]
      omega
    generalize xs (Int32.ofInt i).toNatClampNeg &&& 63 = x at hx
    by_cases h35 : 35 < x.toInt
    · exact lv_tableOut (tgt := 1460) C0.1 C0.2.1 dl_33 (Or.inr h35) (by decide) (hE Λ σ hI H locs hR hS)
    · have cs : x.toInt = 0 ∨ x.toInt = 1 ∨ x.toInt = 2 ∨ x.toInt = 3 ∨ x.toInt = 4 ∨ x.toInt = 5 ∨ x.toInt = 6 ∨ x.toInt = 7 ∨ x.toInt = 8 ∨ x.toInt = 9 ∨ x.toInt = 10 ∨ x.toInt = 11 ∨ x.toInt = 12 ∨ x.toInt = 13 ∨ x.toInt = 14 ∨ x.toInt = 15 ∨ x.toInt = 16 ∨ x.toInt = 17 ∨ x.toInt = 18 ∨ x.toInt = 19 ∨ x.toInt = 20 ∨ x.toInt = 21 ∨ x.toInt = 22 ∨ x.toInt = 23 ∨ x.toInt = 24 ∨ x.toInt = 25 ∨ x.toInt = 26 ∨ x.toInt = 27 ∨ x.toInt = 28 ∨ x.toInt = 29 ∨ x.toInt = 30 ∨ x.toInt = 31 ∨ x.toInt = 32 ∨ x.toInt = 33 ∨ x.toInt = 34 ∨ x.toInt = 35 := by omega
      rcases cs with hv | hv | hv | hv | hv | hv | hv | hv | hv | hv | hv | hv | hv | hv | hv | hv | hv | hv | hv | hv | hv | hv | hv | hv | hv | hv | hv | hv | hv | hv | hv | hv | hv | hv | hv | hv
      · exact lv_tableIn (tgt := 192) C0.1 C0.2.1 dl_33 (by omega) (by omega) (off := 159) (by rw [hv]; rfl) (by decide) (ca_0 C0 hL hi hl hk hI hE H locs hR hS)
      · exact lv_tableIn (tgt := 255) C0.1 C0.2.1 dl_33 (by omega) (by omega) (off := 222) (by rw [hv]; rfl) (by decide) (ca_1 C0 hL hi hl hk hI hE H locs hR hS)
      · exact lv_tableIn (tgt := 288) C0.1 C0.2.1 dl_33 (by omega) (by omega) (off := 255) (by rw [hv]; rfl) (by decide) (ca_2 C0 hL hi hl hk hI hE H locs hR hS)
      · exact lv_tableIn (tgt := 321) C0.1 C0.2.1 dl_33 (by omega) (by omega) (off := 288) (by rw [hv]; rfl) (by decide) (ca_3 C0 hL hi hl hk hI hE H locs hR hS)
      · exact lv_tableIn (tgt := 344) C0.1 C0.2.1 dl_33 (by omega) (by omega) (off := 311) (by rw [hv]; rfl) (by decide) (ca_4 C0 hL hi hl hk hI hE H locs hR hS)
      · exact lv_tableIn (tgt := 357) C0.1 C0.2.1 dl_33 (by omega) (by omega) (off := 324) (by rw [hv]; rfl) (by decide) (ca_5 C0 hL hi hl hk hI hE H locs hR hS)
      · exact lv_tableIn (tgt := 380) C0.1 C0.2.1 dl_33 (by omega) (by omega) (off := 347) (by rw [hv]; rfl) (by decide) (ca_6 C0 hL hi hl hk hI hE H locs hR hS)
      · exact lv_tableIn (tgt := 413) C0.1 C0.2.1 dl_33 (by omega) (by omega) (off := 380) (by rw [hv]; rfl) (by decide) (ca_7 C0 hL hi hl hk hI hE H locs hR hS)
      · exact lv_tableIn (tgt := 466) C0.1 C0.2.1 dl_33 (by omega) (by omega) (off := 433) (by rw [hv]; rfl) (by decide) (ca_8 C0 hL hi hl hk hI hE H locs hR hS)
      · exact lv_tableIn (tgt := 519) C0.1 C0.2.1 dl_33 (by omega) (by omega) (off := 486) (by rw [hv]; rfl) (by decide) (ca_9 C0 hL hi hl hk hI hE H locs hR hS)
      · exact lv_tableIn (tgt := 582) C0.1 C0.2.1 dl_33 (by omega) (by omega) (off := 549) (by rw [hv]; rfl) (by decide) (ca_10 C0 hL hi hl hk hI hE H locs hR hS)
      · exact lv_tableIn (tgt := 625) C0.1 C0.2.1 dl_33 (by omega) (by omega) (off := 592) (by rw [hv]; rfl) (by decide) (ca_11 C0 hL hi hl hk hI hE H locs hR hS)
      · exact lv_tableIn (tgt := 678) C0.1 C0.2.1 dl_33 (by omega) (by omega) (off := 645) (by rw [hv]; rfl) (by decide) (ca_12 C0 hL hi hl hk hI hE H locs hR hS)
      · exact lv_tableIn (tgt := 731) C0.1 C0.2.1 dl_33 (by omega) (by omega) (off := 698) (by rw [hv]; rfl) (by decide) (ca_13 C0 hL hi hl hk hI hE H locs hR hS)
      · exact lv_tableIn (tgt := 764) C0.1 C0.2.1 dl_33 (by omega) (by omega) (off := 731) (by rw [hv]; rfl) (by decide) (ca_14 C0 hL hi hl hk hI hE H locs hR hS)
      · exact lv_tableIn (tgt := 797) C0.1 C0.2.1 dl_33 (by omega) (by omega) (off := 764) (by rw [hv]; rfl) (by decide) (ca_15 C0 hL hi hl hk hI hE H locs hR hS)
      · exact lv_tableIn (tgt := 850) C0.1 C0.2.1 dl_33 (by omega) (by omega) (off := 817) (by rw [hv]; rfl) (by decide) (ca_16 C0 hL hi hl hk hI hE H locs hR hS)
      · exact lv_tableIn (tgt := 903) C0.1 C0.2.1 dl_33 (by omega) (by omega) (off := 870) (by rw [hv]; rfl) (by decide) (ca_17 C0 hL hi hl hk hI hE H locs hR hS)
      · exact lv_tableIn (tgt := 926) C0.1 C0.2.1 dl_33 (by omega) (by omega) (off := 893) (by rw [hv]; rfl) (by decide) (ca_18 C0 hL hi hl hk hI hE H locs hR hS)
      · exact lv_tableIn (tgt := 969) C0.1 C0.2.1 dl_33 (by omega) (by omega) (off := 936) (by rw [hv]; rfl) (by decide) (ca_19 C0 hL hi hl hk hI hE H locs hR hS)
      · exact lv_tableIn (tgt := 1002) C0.1 C0.2.1 dl_33 (by omega) (by omega) (off := 969) (by rw [hv]; rfl) (by decide) (ca_20 C0 hL hi hl hk hI hE H locs hR hS)
      · exact lv_tableIn (tgt := 1025) C0.1 C0.2.1 dl_33 (by omega) (by omega) (off := 992) (by rw [hv]; rfl) (by decide) (ca_21 C0 hL hi hl hk hI hE H locs hR hS)
      · exact lv_tableIn (tgt := 1048) C0.1 C0.2.1 dl_33 (by omega) (by omega) (off := 1015) (by rw [hv]; rfl) (by decide) (ca_22 C0 hL hi hl hk hI hE H locs hR hS)
      · exact lv_tableIn (tgt := 1081) C0.1 C0.2.1 dl_33 (by omega) (by omega) (off := 1048) (by rw [hv]; rfl) (by decide) (ca_23 C0 hL hi hl hk hI hE H locs hR hS)
      · exact lv_tableIn (tgt := 1104) C0.1 C0.2.1 dl_33 (by omega) (by omega) (off := 1071) (by rw [hv]; rfl) (by decide) (ca_24 C0 hL hi hl hk hI hE H locs hR hS)
      · exact lv_tableIn (tgt := 1147) C0.1 C0.2.1 dl_33 (by omega) (by omega) (off := 1114) (by rw [hv]; rfl) (by decide) (ca_25 C0 hL hi hl hk hI hE H locs hR hS)
      · exact lv_tableIn (tgt := 1170) C0.1 C0.2.1 dl_33 (by omega) (by omega) (off := 1137) (by rw [hv]; rfl) (by decide) (ca_26 C0 hL hi hl hk hI hE H locs hR hS)
      · exact lv_tableIn (tgt := 1203) C0.1 C0.2.1 dl_33 (by omega) (by omega) (off := 1170) (by rw [hv]; rfl) (by decide) (ca_27 C0 hL hi hl hk hI hE H locs hR hS)
      · exact lv_tableIn (tgt := 1226) C0.1 C0.2.1 dl_33 (by omega) (by omega) (off := 1193) (by rw [hv]; rfl) (by decide) (ca_28 C0 hL hi hl hk hI hE H locs hR hS)
      · exact lv_tableIn (tgt := 1269) C0.1 C0.2.1 dl_33 (by omega) (by omega) (off := 1236) (by rw [hv]; rfl) (by decide) (ca_29 C0 hL hi hl hk hI hE H locs hR hS)
      · exact lv_tableIn (tgt := 1302) C0.1 C0.2.1 dl_33 (by omega) (by omega) (off := 1269) (by rw [hv]; rfl) (by decide) (ca_30 C0 hL hi hl hk hI hE H locs hR hS)
      · exact lv_tableIn (tgt := 1345) C0.1 C0.2.1 dl_33 (by omega) (by omega) (off := 1312) (by rw [hv]; rfl) (by decide) (ca_31 C0 hL hi hl hk hI hE H locs hR hS)
      · exact lv_tableIn (tgt := 1368) C0.1 C0.2.1 dl_33 (by omega) (by omega) (off := 1335) (by rw [hv]; rfl) (by decide) (ca_32 C0 hL hi hl hk hI hE H locs hR hS)
      · exact lv_tableIn (tgt := 1391) C0.1 C0.2.1 dl_33 (by omega) (by omega) (off := 1358) (by rw [hv]; rfl) (by decide) (ca_33 C0 hL hi hl hk hI hE H locs hR hS)
      · exact lv_tableIn (tgt := 1414) C0.1 C0.2.1 dl_33 (by omega) (by omega) (off := 1381) (by rw [hv]; rfl) (by decide) (ca_34 C0 hL hi hl hk hI hE H locs hR hS)
      · exact lv_tableIn (tgt := 1437) C0.1 C0.2.1 dl_33 (by omega) (by omega) (off := 1404) (by rw [hv]; rfl) (by decide) (ca_35 C0 hL hi hl hk hI hE H locs hR hS)
end LAW2
