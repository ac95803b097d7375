theorem defX6 : ∀ j, j < 26 → defaultValue (tyX6 j) = vp_V [.null, .null, .null, .int 0, .null, .int 0, .int 0, .null, .null, .null, .null, .int 0, .int 0, .int 0, .int 0, .int 0, .int 0, .null, .null, .int 0, .null, .int 0, .int 0, .null, .null, .int 0] j := by decide +kernel
set_option maxRecDepth 100000 in
set_option maxHeartbeats 2000000 in
theorem whole_open {p : Program} {e : Env} {s : State} {m : MethodId} {below : List Frame} {meth : Method} {c : Code} (l : Launch) {b L : Nat} {xs : Nat → Int32} (n : Nat) (hfin : L_law_18 n L xs 600 0 a0X b0M = some 1) (C0 : lw_At p s m meth c b L xs) : W p l e room_1 s m #[Value.ref b] below meth c s.heap [] 0 0 (lw_Z below #[Value.ref b] s) (entryFrame m ([Value.ref b] : List Value).toArray 4) := by
  obtain ⟨hx, hb, hr, hml, hown, hts, hX, hbl, hlocks, hgv⟩ := id C0
  obtain ⟨D, cI, cO, cZ, hK⟩ := ws_cls hts
  obtain ⟨adK, adV, hEnv⟩ := ws_env hgv hts
  have hA : ∀ q : Nat, s.heap.size ≤ q → AL s.heap.size q := fun _ h => h
  have hS : va_S (AL s.heap.size) s.heap s.heap [] := va_S.rf
  have hP : va_P D vwCl [] s.heap := fun k q h => by simp at h
  have hD : va_D (AL s.heap.size) [] := ⟨fun i j p q h => by simp at h, fun k q h => by simp at h⟩
  have hl := lv_entry ([.ref b]) (n := 4) (Nat.le_of_ble_eq_true rfl)
  rw [lg_entry_eq]
  generalize (lg_sl ([.ref b]) ++ List.replicate (4 - (lg_sl ([.ref b])).length) Slot.unset).toArray = ls at hl ⊢
  have hl : lv_has ls 4 [(0, .ref b)] := hl
  refine va_new (ci := 5) (fs := [.null, .null, .null, .null, .null, .null, .null, .null, .null, .null, .null, .null, .null]) (C := RX5) (T := TX5) (N := 13) hx hb hts inX5 tyX5 tyX5_ok hown (hts _ fs_law.1.1) (hts _ fs_in.2.2.1) (hts _ fs_law.1.2.2.1) hK hP hD hS hA rfl defX5 (Nat.le_of_ble_eq_true rfl) (Nat.le_of_ble_eq_true rfl) dL_law_0 (fun q0 H hP hD hS => ?_)
  have hP : va_P D vwCl [(q0, .inr (5, [.null, .null, .null, .null, .null, .null, .null, .null, .null, .null, .null, .null, .null]))] H := hP
  have hD : va_D (AL s.heap.size) [(q0, .inr (5, [.null, .null, .null, .null, .null, .null, .null, .null, .null, .null, .null, .null, .null]))] := hD
  refine lv_dup hx hb dL_law_3 rfl ?_
  have hFc := va_free (wc := [(q0, .inr (5, [.null, .null, .null, .null, .null, .null, .null, .null, .null, .null, .null, .null, .null]))]) hD hS hA [0] rfl
  have hN0 : (∀ w ∈ nsW, va_Nw w s) ∧ va_AO "MirrorHour$Image" s := ⟨(hEnv D cI cO adK).1, va_AO.of (hts _ fs_cl.2.2)⟩
  refine va_callv (va_runI (As := []) (rest := [.ref q0]) ⟨hx, hb, hml, hown, hts⟩ (k_X5_init l D cI cO cZ adK adV q0 H.size) (cwI 0 hts lwG_X5_init rfl rfl rfl (hts _ fs_law.1.2.2.1) (hts _ fs_law.2.1) (hts _ fs_law.2.2.2.1) rfl hdN_X5_init ⟨(Nat.le_of_ble_eq_true rfl), (Nat.le_of_ble_eq_true rfl)⟩) ⟨gPre_blind gE_n _ _ _, fun U hU hW => ⟨rfl, by rw [hU], by rw [hU]; exact hP, va_K.moved hW.alike hK, gE_n.2 s U hW hN0⟩⟩ rfl rfl hl.1 rfl (lv_room (Nat.le_of_ble_eq_true rfl)) dL_law_4 ⟨(Nat.le_of_ble_eq_true rfl), (Nat.le_of_ble_eq_true rfl)⟩) hS (fun q _ h => hFc q h) hFc (fun u t H1 locs ht hvm hw hB hz1 hk1 hS => ?_)
  obtain ⟨adX, had, rfl⟩ := hw
  obtain ⟨hP1, hD1⟩ := hB
  rw [ht] at hP1
  obtain ⟨hP, hD⟩ := gj_last (w0 := []) (w1 := cX (D, cI, cO, adX, adK, adV) a0X) hP hD hk1 hFc hP1 hD1
  clear hk1 hP1 hD1 hFc hz1
  rename_i H0
  clear ht hvm t
  have hP : va_P D vwCl (cX (D, cI, cO, adX, adK, adV) a0X) H1 := hP
  have hD : va_D (AL s.heap.size) (cX (D, cI, cO, adX, adK, adV) a0X) := hD
  refine lv_astore_n (lv' := [(1, .ref q0), (0, .ref b)]) hx hb dL_law_7 rfl hl (by decide) rfl (fun ls hl => ?_)
  refine va_new (ci := 6) (fs := [.null, .null, .null, .int 0, .null, .int 0, .int 0, .null, .null, .null, .null, .int 0, .int 0, .int 0, .int 0, .int 0, .int 0, .null, .null, .int 0, .null, .int 0, .int 0, .null, .null, .int 0]) (C := RX6) (T := TX6) (N := 26) hx hb hts inX6 tyX6 tyX6_ok hown (hts _ fs_law.1.2.1) (hts _ fs_in.2.2.2) (hts _ fs_law.1.2.2.2) hK hP hD hS hA rfl defX6 (Nat.le_of_ble_eq_true rfl) (Nat.le_of_ble_eq_true rfl) dL_law_8 (fun m0 H2 hP hD hS => ?_)
  refine lv_dup hx hb dL_law_11 rfl ?_
  have hPc : va_P D vwCl [(m0, .inr (6, [.null, .null, .null, .int 0, .null, .int 0, .int 0, .null, .null, .null, .null, .int 0, .int 0, .int 0, .int 0, .int 0, .int 0, .null, .null, .int 0, .null, .int 0, .int 0, .null, .null, .int 0]))] H2 := xl_right hP
  have hFc := gj_free hD hS hA
  refine va_callv (va_runI (As := []) (rest := [.ref m0]) ⟨hx, hb, hml, hown, hts⟩ (k_X6_init l D cI cO cZ m0 H2.size) (cwI 0 hts lwG_X6_init rfl rfl rfl (hts _ fs_law.1.2.2.2) (hts _ fs_law.2.2.1) (hts _ fs_law.2.2.2.2) rfl hdN_X6_init ⟨(Nat.le_of_ble_eq_true rfl), (Nat.le_of_ble_eq_true rfl)⟩) ⟨gPre_blind gE_t _ _ _, fun U hU hW => ⟨rfl, by rw [hU], by rw [hU]; exact hPc, va_K.moved hW.alike hK, trivial⟩⟩ rfl rfl hl.1 rfl (lv_room (Nat.le_of_ble_eq_true rfl)) dL_law_12 ⟨(Nat.le_of_ble_eq_true rfl), (Nat.le_of_ble_eq_true rfl)⟩) hS (fun q _ h => hFc q h) hFc (fun u t H3 locs ht hvm hw hB hz1 hk1 hS => ?_)
  obtain ⟨adM, hadM, rfl⟩ := hw
  obtain ⟨hP1, hD1⟩ := hB
  rw [ht] at hP1
  obtain ⟨hPn, hDn⟩ := gj_last (w0 := cX (D, cI, cO, adX, adK, adV) a0X) (w1 := cM (D, cI, cZ, adM) b0M) hP hD hk1 hFc hP1 hD1
  refine lv_astore_n (lv' := [(2, .ref m0), (1, .ref q0), (0, .ref b)]) hx hb dL_law_15 rfl hl (by decide) rfl (fun ls hl => ?_)
  subst had
  subst hadM
  exact whole_C l n (gX := (D, cI, cO, adX, adK, adV)) (cZ := cZ) (adM := adM) (a0 := a0X) (b0 := b0M) (Nat.le_of_ble_eq_true rfl) (Nat.le_of_ble_eq_true rfl) hfin C0 hK (hEnv D cI cO adX) hPn hDn hS hl
