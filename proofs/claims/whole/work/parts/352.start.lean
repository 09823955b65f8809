/-! THE WALK FROM THE ENTRY TO THE LOOP, over the simulation -/
set_option maxHeartbeats 40000000 in
set_option maxRecDepth 100000 in
theorem start_of {Rel : Nat → Mem → Mem → Prop} (hsim : SimAll Rel) (h0 : Rel 0 sg0 rg0) {p : Program} {e : Env} {s : State} {m : MethodId} {below : List Frame} {meth : Method} {c : Code} (l : Launch) (hflags : l.flags = flags0) {b L : Nat} {xs : Nat → Int32} (hL : L ≤ 3584) (C0 : lw_At p s m meth c b L xs) : W p l e room_1 s m #[Value.ref b] below meth c s.heap [] 0 0 (lw_Z below #[Value.ref b] s) (entryFrame m ([Value.ref b] : List Value).toArray 9) := by
  obtain ⟨hx, hb, hr, hml, hown, hts, hX9, hbl, hlocks, hgv⟩ := id C0
  have hown : s.vm.findClass RL = some m.cls := hown
  have hb : c.code = cL_law := hb
  have hst : l.stackTraces = false := by unfold Launch.stackTraces; rw [hflags]; decide +kernel
  have htg : ∀ w ∈ wsG, w.before #[Value.ref b] s = true := fun w h => hts w (wsG_tbl w h)
  obtain ⟨D, gt, hK0⟩ := st_Kt hts
  obtain ⟨B, hB⟩ : ∃ B : Nat, B = s.heap.size := ⟨_, rfl⟩
  have hK : Kt (mkG D gt B) s := hK0 _ _
  have hXt := st_Xt hts hgv
  have hAO := st_Ao hts
  have hZ0 : Zt (mkG D gt B) s s.heap := st_Zt hts hgv (fun a ha h => by
    have h9 : B ≤ a := h.1
    omega)
  have hw : Ow (mkG D gt B) (B + 643) (B + 644) := ⟨fun h => h.2.1 rfl, fun h => h.2.2 rfl, by omega⟩
  have hA0 : ∀ q, gW (mkG D gt B) (B + 643) (B + 644) q → s.heap.size ≤ q := fun q h => by
    rcases h with h | h | h
    · have h9 : B ≤ q := h.1
      omega
    · omega
    · omega
  have hGA : ∀ q, s.heap.size ≤ q → q ≠ B + 643 → q ≠ B + 644 → gF (mkG D gt B) q := fun q h1 h2 h3 => ⟨by omega, h2, h3⟩
  have hS : va_S (Bd B) s.heap s.heap [] := va_S.rf
  have hX : Bx (mkG D gt B) (fi0 D gt B) B [] B s.heap := ⟨hB.symm, Nat.le_refl _, fun k q h => by simp at h, ⟨fun i j p q h => by simp at h, fun k q h => by simp at h⟩, fun a h1 h2 => by omega⟩
  have hl := lv_entry ([.ref b]) (n := 9) (Nat.le_of_ble_eq_true rfl)
  rw [lg_entry_eq]
  generalize (lg_sl ([.ref b]) ++ List.replicate (9 - (lg_sl ([.ref b])).length) Slot.unset).toArray = ls at hl ⊢
  have hl : lv_has ls 9 [(0, .ref b)] := hl
  refine bw_new (ci := 13) (fs := [.null, .null, .null, .int 0, .null, .null, .null]) (C := RX11) (T := TX11) (N := 7) hx hb htg inG_wsX110 tyX11 tyX11_ok hown (htg _ q0) (htg _ q1) (htg _ q2) hK hX hS rfl df11 (Nat.le_of_ble_eq_true rfl) (Nat.le_of_ble_eq_true rfl) dL_law_0 (fun H hX hS => ?_)
  refine lv_dup hx hb dL_law_3 rfl ?_
  refine kb_X11 hx hb hml hown htg hK hAO hX hS (fx11 D gt B) q8 hl.1 (Nat.le_of_ble_eq_true rfl) (Nat.le_of_ble_eq_true rfl) (Nat.le_of_ble_eq_true rfl) (Nat.le_of_ble_eq_true rfl) (Nat.le_of_ble_eq_true rfl) dL_law_4 (fun H locs hX hS => ?_)
  have hX : Bx (mkG D gt B) (fi0 D gt B) B [] (B + 599) H := hX
  refine lv_astore_n (lv' := [(1, .ref B), (0, .ref b)]) hx hb dL_law_7 rfl hl (by decide) rfl (fun ls hl => ?_)
  refine bw_new (ci := 14) (fs := [.int 0, .null, .null, .null, .null, .null, .null, .null, .null, .null, .null, .null, .null, .null, .null, .null, .null, .null, .null, .null, .null, .null, .null, .null, .null, .null, .null, .null, .null, .null, .null, .null, .null, .int 0, .int 0, .int 0, .int 0, .int 0, .int 0, .int 0, .int 0, .null, .null, .null, .int 0, .int 0, .int 0, .null, .null, .null, .null, .int 0, .int 0, .int 0, .int 0, .null, .null, .null, .null, .int 0, .int 0, .int 0, .int 0]) (C := RX12) (T := TX12) (N := 63) hx hb htg inG_wsX120 tyX12 tyX12_ok hown (htg _ q3) (htg _ q4) (htg _ q5) hK hX hS rfl df12 (Nat.le_of_ble_eq_true rfl) (Nat.le_of_ble_eq_true rfl) dL_law_8 (fun H hX hS => ?_)
  refine lv_dup hx hb dL_law_11 rfl ?_
  refine kb_X12 hx hb hml hown htg hK hAO hX hS (fx12 D gt B) q132 hl.1 (Nat.le_of_ble_eq_true rfl) (Nat.le_of_ble_eq_true rfl) (Nat.le_of_ble_eq_true rfl) (Nat.le_of_ble_eq_true rfl) (Nat.le_of_ble_eq_true rfl) dL_law_12 (fun H locs hX hS => ?_)
  have hX : Bx (mkG D gt B) (fi0 D gt B) B [] (B + 643) H := hX
  refine lv_astore_n (lv' := [(2, .ref (B + 599)), (1, .ref B), (0, .ref b)]) hx hb dL_law_15 rfl hl (by decide) rfl (fun ls hl => ?_)
  have hall := hX.all
  have hsz := hX.1
  refine lv_iconst (v := 1) hx hb dL_law_16 (by decide) ?_
  refine va_newaK (atype := .long) hx hb (hts (.arrayClass .long) (tb_at 1835 (by decide +kernel))) rfl dL_law_17 rfl (by decide) (N := 1) rfl (Nat.le_of_ble_eq_true rfl) (Nat.le_of_ble_eq_true rfl) (Nat.le_of_ble_eq_true rfl) hsz (fun H1 cA e1 z1 o1 hAr hNm => ?_)
  have hcA : cA = gt 7 := Option.some.inj (hNm.symm.trans (hK.1.2 7 _ rfl).2)
  subst hcA
  refine W.eq (g2 := F0 m 19 ls [.ref (B + 643)]) rfl ?_
  refine lv_astore_n (lv' := [(3, .ref (B + 643)), (2, .ref (B + 599)), (1, .ref B), (0, .ref b)]) hx hb dL_law_19 rfl hl (by decide) rfl (fun ls hl => ?_)
  refine lv_iconst (v := 1) hx hb dL_law_20 (by decide) ?_
  refine va_newaK (atype := .double) hx hb (hts (.arrayClass .double) (tb_at 1836 (by decide +kernel))) rfl dL_law_21 rfl (by decide) (N := 1) rfl (Nat.le_of_ble_eq_true rfl) (Nat.le_of_ble_eq_true rfl) (Nat.le_of_ble_eq_true rfl) z1 (fun H2 cA e2 z2 o2 hAr2 hNm2 => ?_)
  have hcA : cA = gt 8 := Option.some.inj (hNm2.symm.trans (hK.1.2 8 _ rfl).2)
  subst hcA
  refine W.eq (g2 := F0 m 23 ls [.ref (B + 643 + 1)]) rfl ?_
  refine lv_astore (lv' := [(4, .ref (B + 644)), (3, .ref (B + 643)), (2, .ref (B + 599)), (1, .ref B), (0, .ref b)]) hx hb dL_law_23 hl (by decide) rfl (fun ls hl => ?_)
  refine lv_iconst (v := 0) hx hb dL_law_25 (by decide) ?_
  refine lv_istore (lv' := [(5, .int 0), (4, .ref (B + 644)), (3, .ref (B + 643)), (2, .ref (B + 599)), (1, .ref B), (0, .ref b)]) hx hb dL_law_26 hl (by decide) rfl (fun ls hl => ?_)
  have hWh : Wh (mkG D gt B) sg0 rg0 H2 := Wh0 (fun a h1 h2 => ((hall a h1 h2).kept (o1 a (by omega))).kept (o2 a (by omega)))
  have hOh : Oh (mkG D gt B) (B + 643) (B + 644) 0 0 H2 := by
    refine ⟨fun _ => 0, fun _ => 0, rfl, rfl, fun k q hk => ?_⟩
    match k, hk with
    | 0, hk =>
      cases hk
      show H2[B + 643]? = some _
      rw [o2 (B + 643) (by omega)]
      exact e1
    | 1, hk =>
      cases hk
      exact e2
    | k + 2, hk => exact absurd (List.getElem?_eq_some_iff.mp hk).1 (by simp [oW])
  have hS2 : va_S (Bd B) s.heap H2 locs := ⟨by omega, fun x h1 h2 => (o2 x (by omega)).trans ((o1 x (by omega)).trans (hS.2.1 x h1 h2)), hS.2.2⟩
  subst hB
  exact law_loop hx hb hml hown htg hst hXt hK hZ0 hX9 hbl hw hA0 hGA hr hlocks hL hsim 513 0 rfl (by decide) sg0 rg0 H2 locs ls 0 0 _ _ (Nat.le_of_ble_eq_true rfl) (Nat.le_of_ble_eq_true rfl) h0 hWh hOh hS2 (lv_sub hl [5, 4, 3, 2, 1, 0] rfl)
