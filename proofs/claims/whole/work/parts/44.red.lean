/-! complements and reduced rows; publics: trees, identity, recurrent, reduced, won -/
section RED
variable {A : Nat → Int → Int} {F : Nat → Nat → Int} {L : Int → Int → Int} {n q : Int}
theorem r_y_congr {x y : Int → Int} (h : ∀ p : Int, 0 ≤ p → p < n → x p = y p) {o : Int} (ho : 0 ≤ o ∧ o < n) : r_y L n q x o = r_y L n q y o := by
  have hs : ∀ a : Int, d_sv L n q x a = d_sv L n q y a := fun a => by
    unfold d_sv
    split
    · rfl
    · refine fs_sum_congr fun k k0 k1 => ?_
      split
      · rfl
      · rw [h k k0 (by omega)]
  unfold r_y r_t
  rw [h o ho.1 ho.2]
  congr 1
  exact fs_sum_congr fun k k0 k1 => by rw [hs]
theorem r_mk.congr {x y w : Int → Int} (h : ∀ p : Int, 0 ≤ p → p < n → x p = y p) (H : r_mk L n q x w) : r_mk L n q y w := by
  obtain ⟨u, z, g, f, h1, h2, h3⟩ := H
  exact ⟨u, z, g, f, h1, fun p p0 p1 => by rw [h2 p p0 p1, r_y_congr h ⟨p0, p1⟩], h3⟩
theorem c_makeRecurrentComplement (M : k_gw A F n q L) (hg : g_ok L) (hn : 2 ≤ n ∧ n ≤ 5) (hq : 0 ≤ q ∧ q < n) (hJ : s_J L n) {i j : Nat} (hi : ∀ (a : Int → Int) (f : Nat → Int), fc_S i a f = cI 5 a) (hj : ∀ (a : Int → Int) (f : Nat → Int), fc_S j a f = cI 5 a) (hij : i ≠ j) (hj2 : ¬ (17 ≤ j ∧ j < 31)) (hj3 : j ≠ 32) (hj4 : j ≠ 33) (hx : ∀ p : Int, 0 ≤ p → p < n → -1500 ≤ A i p ∧ A i p ≤ 1500) : fh_E mX1_makeRecurrentComplement 3 [vR 17, vR i, vR j] A F (fun r A' F' => r = none ∧ F' = F ∧ (∃ w : Int → Int, r_mk L n q (fun p => s_val L n p - 1 - A i p) w ∧ ∀ p : Int, 0 ≤ p → p < n → A' j p = w p) ∧ ∀ k : Nat, k ≠ j → k ≠ 30 → k ≠ 33 → A' k = A k) := by
  refine fh_E.of mi_X1_makeRecurrentComplement (Nat.le_of_ble_eq_true rfl) ?_
  intro X C T
  have M1 : k_gw (fa_up A j (fc_cpy (fun p => s_val L n p - 1 - A i p) (A j) n)) F n q L := M.fr hn (fun k k0 k1 => fa_n _ _ (by omega)) (fa_n _ _ (by omega)) rfl
  have eA : ∀ p : Int, 0 ≤ p → p < n → fa_up A j (fc_cpy (fun p => s_val L n p - 1 - A i p) (A j) n) j p = s_val L n p - 1 - A i p := fun p p0 p1 => by rw [fa_s, fc_cpy_in p0 p1]
  refine fc_aload_n C dX1_makeRecurrentComplement_0 rfl rfl ?_
  refine fc_aload_n C dX1_makeRecurrentComplement_1 rfl rfl ?_
  refine fc_aload_n C dX1_makeRecurrentComplement_2 rfl rfl ?_
  refine fh_callVv (y := mX1_complement) C dX1_makeRecurrentComplement_3 ml_X1_109 mi_X1_complement im_X1_complement se_X1_complement (c_complement M.1 hn hi hj hij (by omega)) rfl rfl (by decide) rfl (Nat.le_of_ble_eq_true rfl) (Nat.zero_le _) (Nat.zero_le _) rfl ?_
  refine fc_aload_n C dX1_makeRecurrentComplement_6 rfl rfl ?_
  refine fc_aload_n C dX1_makeRecurrentComplement_7 rfl rfl ?_
  refine fh_callVE (y := mX1_makeRecurrent) C dX1_makeRecurrentComplement_8 ml_X1_112 mi_X1_makeRecurrent im_X1_makeRecurrent se_X1_makeRecurrent (c_makeRecurrent M1 hg hn hq hJ hj hj2 hj3 hj4 (fun p p0 p1 => by rw [eA p p0 p1]; have := hx p p0 p1; have := s_val_bd hg (n := n) (p := p) (by omega) hn.2 p0 (by omega); omega)) rfl rfl (by decide) rfl (Nat.le_of_ble_eq_true rfl) (Nat.zero_le _) (Nat.zero_le _) rfl ?_
  rintro r A2 F2 ⟨rfl, rfl, ⟨w, h1, h2⟩, fr⟩
  refine fc_eq (st' := []) rfl rfl ?_
  exact fh_vretE C T dX1_makeRecurrentComplement_11 ⟨rfl, rfl, ⟨w, h1.congr eA, h2⟩, fun k k0 k1 k2 => by rw [fr k k0 k1 k2, fa_n _ _ k0]⟩
theorem c_reduce (M : k_gw A F n q L) (hg : g_ok L) (hn : 2 ≤ n ∧ n ≤ 5) (hq : 0 ≤ q ∧ q < n) (hJ : s_J L n) {i : Nat} (hi : ∀ (a : Int → Int) (f : Nat → Int), fc_S i a f = cI 5 a) (hi2 : ¬ (17 ≤ i ∧ i < 34)) (hx : ∀ p : Int, 0 ≤ p → p < n → -1500 ≤ A i p ∧ A i p ≤ 1500) : fh_E mX1_reduce 4 [vR 17, vR i] A F (fun r A' F' => r = none ∧ F' = F ∧ (∃ w : Int → Int, r_mk L n q (fun p => s_val L n p - 1 - A i p) w ∧ ∀ p : Int, 0 ≤ p → p < n → A' i p = s_val L n p - 1 - w p) ∧ ∀ k : Nat, k ≠ i → k ≠ 30 → k ≠ 31 → k ≠ 33 → A' k = A k) := by
  refine fh_E.of mi_X1_reduce (Nat.le_of_ble_eq_true rfl) ?_
  intro X C T
  refine fc_aload_n C dX1_reduce_0 rfl rfl ?_
  refine fc_aload_n C dX1_reduce_1 rfl rfl ?_
  refine fc_aload_n C dX1_reduce_2 rfl rfl ?_
  refine fh_getf C dX1_reduce_3 fl_X1_25 rfl rfl ?_
  refine fh_callVE (y := mX1_makeRecurrentComplement) C dX1_reduce_6 ml_X1_115 mi_X1_makeRecurrentComplement im_X1_makeRecurrentComplement se_X1_makeRecurrentComplement (c_makeRecurrentComplement M hg hn hq hJ (i := i) (j := 31) hi (fun _ _ => rfl) (by omega) (by omega) (by omega) (by omega) hx) rfl rfl (by decide) rfl (Nat.le_of_ble_eq_true rfl) (Nat.zero_le _) (Nat.zero_le _) rfl ?_
  rintro r A1 F1 ⟨rfl, rfl, ⟨w, h1, h2⟩, fr⟩
  refine fc_eq (st' := []) rfl rfl ?_
  have M1 : k_mx A1 F1 n q L := M.1.fr hn (fun k k0 k1 => fr k (by omega) (by omega) (by omega)) rfl rfl
  refine fc_aload_n C dX1_reduce_9 rfl rfl ?_
  refine fc_aload_n C dX1_reduce_10 rfl rfl ?_
  refine fh_getf C dX1_reduce_11 fl_X1_25 rfl rfl ?_
  refine fc_aload_n C dX1_reduce_14 rfl rfl ?_
  refine fh_callVv (y := mX1_complement) C dX1_reduce_15 ml_X1_109 mi_X1_complement im_X1_complement se_X1_complement (c_complement M1 hn (i := 31) (j := i) (fun _ _ => rfl) hi (by omega) (by omega)) rfl rfl (by decide) rfl (Nat.le_of_ble_eq_true rfl) (Nat.zero_le _) (Nat.zero_le _) rfl ?_
  refine fh_vretE C T dX1_reduce_18 ⟨rfl, rfl, ⟨w, h1, fun p p0 p1 => ?_⟩, fun k k0 k1 k2 k3 => by rw [fa_n _ _ k0]; exact fr k k2 k1 k3⟩
  rw [fa_s, fc_cpy_in p0 p1, h2 p p0 p1]
end RED
