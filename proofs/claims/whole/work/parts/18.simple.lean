/-! ===== surface ===== -/
section SURF
variable {nc nb nd nr nf ng : Nat} {rid cll cls bol bos scl scs fal fas sil sis : Int32} {su cl bo sc nu fa si ar he bk : Nat → Int32}
theorem FB_surf (h : FBn nc nb nd nr nf ng rid cll cls bol bos scl scs fal fas sil sis su cl bo sc nu fa si ar he bk) {i v : Nat} (hi : i < 192) (hv : v ≤ 99) : FBn nc nb nd nr nf ng rid cll cls bol bos scl scs fal fas sil sis (upd su i (nI v)) cl bo sc nu fa si ar he (upd bk (20 + i) (nI v)) := by
  obtain ⟨h1, h2, h3, h4, h5, h6, h7, h8, h9, h10, h11, h12⟩ := h
  have q := h2.1
  refine ⟨h1, CNT_c h2 (fun k hk => upd_n _ _ (by omega)), h3, fun j hj => ?_, B_two_c h5 (fun k a b => upd_n _ _ (by omega)), B_two_c h6 (fun k a b => upd_n _ _ (by omega)), B_two_c h7 (fun k a b => upd_n _ _ (by omega)), B_nu_c h8 (fun k a b => upd_n _ _ (by omega)), B_fa_c h9 (fun k a b => upd_n _ _ (by omega)), B_si_c h10 (fun k a b => upd_n _ _ (by omega)), B_ar_c h11 (fun k a => upd_n _ _ (by omega)), B_he_c h12 (fun k a => upd_n _ _ (by omega))⟩
  by_cases hij : j = i
  · subst hij
    rw [upd_s, upd_s]
    exact ⟨rfl, isN.of hv⟩
  · rw [upd_n _ _ hij, upd_n _ _ (by omega)]
    exact h4 j hj
theorem p_surface (h : FB rid cll cls bol bos scl scs fal fas sil sis su cl bo sc nu fa si ar he bk) (p1 p2 p3 : Int32) : ∃ (r : Int32) (y z : Nat → Int32), f_X9_surface su p1 p2 p3 = some (r, y) ∧ f_X10_surface bk p1 p2 p3 = some (r, z) ∧ FB rid cll cls bol bos scl scs fal fas sil sis y cl bo sc nu fa si ar he z := by
  unfold f_X9_surface f_X10_surface
  simp only [X_isStage, X_isPlace, within_eq, M_isStage, M_isPlace, in_lit p3 (0 : Int32) (99 : Int32) (by decide : (0 : Int64) = _) (by decide : (99 : Int64) = _), bd1_s, bI_0]
  by_cases c1 : 0 ≤ p1 ∧ p1 ≤ 2
  · by_cases c2 : 0 ≤ p2 ∧ p2 ≤ 63
    · by_cases c3 : 0 ≤ p3 ∧ p3 ≤ 99
      · obtain ⟨a, ha, rfl⟩ := rng 2 (by decide) c1
        obtain ⟨b, hb, rfl⟩ := rng 63 (by decide) c2
        obtain ⟨v, hv, rfl⟩ := rng 99 (by decide) c3
        obtain ⟨nc, nb, nd, nr, nf, ng, hF⟩ := h
        have e1 : (64 : Int32) * nI a + nI b = nI (64 * a + b) := by rw [show (64 : Int32) = nI 64 from rfl, pk_mul, nI_add]
        have e2 : (20 : Int32) + (64 : Int32) * nI a + nI b = nI (20 + (64 * a + b)) := by rw [show (64 : Int32) = nI 64 from rfl, show (20 : Int32) = nI 20 from rfl, pk_mul, nI_add, nI_add, Nat.add_assoc]
        have hsu := (hF.2.2.2.1 (64 * a + b) (by omega)).1
        refine ⟨su (64 * a + b), _, _, ?_, ?_, nc, nb, nd, nr, nf, ng, FB_surf (i := 64 * a + b) (v := v) hF (by omega) hv⟩
        · rw [if_neg (not_not_intro c1), if_neg (not_not_intro c2), if_neg (not_not_intro c3), e1, exch _ _ _ _ (by omega) (by decide), bd2_s]
        · rw [if_neg (not_not_intro c1), if_neg (not_not_intro c2), if_neg (not_not_intro c3), e2, sets_eq _ _ _ (by omega), bd2_s, hsu]
      · exact ⟨-2, su, bk, by rw [if_neg (not_not_intro c1), if_neg (not_not_intro c2), if_pos c3], by rw [if_neg (not_not_intro c1), if_neg (not_not_intro c2), if_pos c3], h⟩
    · exact ⟨-2, su, bk, by rw [if_neg (not_not_intro c1), if_pos c2], by rw [if_neg (not_not_intro c1), if_pos c2], h⟩
  · exact ⟨-2, su, bk, by rw [if_pos c1], by rw [if_pos c1], h⟩
end SURF
