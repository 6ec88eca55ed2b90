/-! a new model -/
section
variable {h : jm_H} {a b k j : Nat} {v : Option Nat} {x : Int32} {kd : Nat ⊕ (Nat × Nat)}
theorem kk_sr : jm_k (jm_sr h a k v) b = jm_k h b := rfl
theorem kk_si : jm_k (jm_si h a k x) b = jm_k h b := rfl
theorem nn_sr : jm_n (jm_sr h a k v) = jm_n h := rfl
theorem nn_si : jm_n (jm_si h a k x) = jm_n h := rfl
theorem nn_nw : jm_n (jm_nw h kd) = jm_n h + 1 := rfl
theorem kk_nw (hb : ¬ b = jm_n h) : jm_k (jm_nw h kd) b = jm_k h b := if_neg hb
theorem kk_nws (hb : b = jm_n h) : jm_k (jm_nw h kd) b = some kd := if_pos hb
theorem ri_nw (hb : ¬ b = jm_n h) : jm_i (jm_nw h kd) b j = jm_i h b j := if_neg hb
theorem ri_nws (hb : b = jm_n h) : jm_i (jm_nw h kd) b j = 0 := if_pos hb
theorem rr_nw (hb : ¬ b = jm_n h) : jm_r (jm_nw h kd) b j = jm_r h b j := if_neg hb
theorem rr_nws (hb : b = jm_n h) : jm_r (jm_nw h kd) b j = none := if_pos hb
theorem rl_nw (hb : ¬ b = jm_n h) : jm_l (jm_nw h kd) b j = jm_l h b j := if_neg hb
theorem rr_sr : jm_r (jm_sr h a k v) b j = if b = a ∧ j = k then v else jm_r h b j := rfl
theorem ri_sr : jm_i (jm_sr h a k v) b j = jm_i h b j := rfl
theorem ri_si : jm_i (jm_si h a k x) b j = if b = a ∧ j = k then x else jm_i h b j := rfl
theorem rr_si : jm_r (jm_si h a k x) b j = jm_r h b j := rfl
theorem rl_sr : jm_l (jm_sr h a k v) b j = jm_l h b j := rfl
theorem rl_si : jm_l (jm_si h a k x) b j = jm_l h b j := rfl
end
/-- what lies below an address is as it was -/
def Low (h0 h : jm_H) (am : Nat) : Prop := ∀ a, a < am → jm_k h a = jm_k h0 a ∧ ∀ j, jm_i h a j = jm_i h0 a j ∧ jm_r h a j = jm_r h0 a j ∧ jm_l h a j = jm_l h0 a j
def Nk (h0 : jm_H) (am k : Nat) (h : jm_H) : Prop := jm_n h = am + (1 + k) ∧ jm_k h am = some (.inl 8) ∧ (∀ q ∈ mTab, q.2.1 ≤ k → jm_r h am q.1 = some (am + q.2.1) ∧ jm_k h (am + q.2.1) = some (.inr (q.2.2.1, q.2.2.2))) ∧ (∀ o j, o ≤ k → jm_i h (am + o) j = 0) ∧ Low h0 h am
theorem Nk_s {h0 : jm_H} {am k : Nat} {h : jm_H} (q0 : Nat × Nat × Nat × Nat) (hq : q0.2.1 = k + 1) (hu : ∀ q ∈ mTab, q.2.1 ≤ k + 1 → (q = q0 ∨ (q.2.1 ≤ k ∧ ¬ q.1 = q0.1))) (H : Nk h0 am k h) : Nk h0 am (k + 1) (jm_sr (jm_nw h (.inr (q0.2.2.1, q0.2.2.2))) am q0.1 (some (am + (k + 1)))) := by
  obtain ⟨h1, h2, h3, h4, h5⟩ := H
  refine ⟨?_, ?_, ?_, ?_, ?_⟩
  · rw [nn_sr, nn_nw, h1]; omega
  · rw [kk_sr, kk_nw (by omega)]; exact h2
  · intro q hm hk
    rcases hu q hm hk with rfl | ⟨e1, e2⟩
    · rw [rr_sr, if_pos ⟨rfl, rfl⟩, kk_sr, kk_nws (by omega), hq]
      exact ⟨rfl, rfl⟩
    · rw [rr_sr, if_neg (fun z => e2 z.2), rr_nw (by omega), kk_sr, kk_nw (by omega)]
      exact h3 q hm e1
  · intro o j ho
    rw [ri_sr]
    by_cases e : o = k + 1
    · exact ri_nws (by omega)
    · rw [ri_nw (by omega)]; exact h4 o j (by omega)
  · intro a ha
    rw [kk_sr, kk_nw (by omega)]
    refine ⟨(h5 a ha).1, fun j => ?_⟩
    rw [ri_sr, ri_nw (by omega), rr_sr, if_neg (by omega), rr_nw (by omega), rl_sr, rl_nw (by omega)]
    exact (h5 a ha).2 j
theorem RM_of {B : jm_B} {h0 h : jm_H} {am : Nat} (H : Nk h0 am 30 h) (hs2 : B.2.2 2 < am ∧ jm_k h0 (B.2.2 2) = some (.inr (1, 3)) ∧ ∀ j, j < 3 → jm_i h0 (B.2.2 2) j = Int32.ofInt (KP j)) (hs3 : B.2.2 3 < am ∧ jm_k h0 (B.2.2 3) = some (.inr (1, 3)) ∧ ∀ j, j < 3 → jm_i h0 (B.2.2 3) j = Int32.ofInt (AS j)) : RM B am h ∧ h = mo h am (fun _ _ => 0) := by
  obtain ⟨h1, h2, h3, h4, h5⟩ := H
  refine ⟨⟨h2, fun q hq => h3 q hq ?_, ⟨hs2.1, ?_, ?_⟩, ⟨hs3.1, ?_, ?_⟩⟩, ?_⟩
  · have : ∀ q ∈ mTab, q.2.1 ≤ 30 := by decide
    exact this q hq
  · rw [(h5 _ hs2.1).1]; exact hs2.2.1
  · intro j hj; rw [((h5 _ hs2.1).2 j).1]; exact hs2.2.2 j hj
  · rw [(h5 _ hs3.1).1]; exact hs3.2.1
  · intro j hj; rw [((h5 _ hs3.1).2 j).1]; exact hs3.2.2 j hj
  · unfold mo
    refine Prod.ext rfl (Prod.ext ?_ rfl)
    funext a j
    show jm_i h a j = if am ≤ a ∧ a < am + 31 then Int32.ofInt 0 else jm_i h a j
    split
    · have := h4 (a - am) j (by omega)
      rw [show am + (a - am) = a by omega] at this
      exact this
    · rfl
set_option maxRecDepth 100000 in
set_option maxHeartbeats 4000000 in
theorem m_init (B : jm_B) (l : Launch) (h : jm_H) (am : Nat) (hk : jm_k h am = some (.inl 8)) (hn : jm_n h = am + 1) (hz : ∀ j, jm_i h am j = 0) : jm_Ct gG B l (gm 65) [.inr (.inl (some am))] h (fun v h' => Nk h am 30 h') := by
  show jm_Ct gG B l M_Mod_init _ _ _
  refine jm_C0 (code := k_Mod_init) (Or.inl (by decide)) (by decide) v_Mod_init rfl (Nat.le_of_ble_eq_true rfl) [some (.inr (.inl (some am)))] rfl rfl ⟨127, ?_⟩
  have N0 : Nk h am 0 h := ⟨by omega, hk, fun q hq hl => absurd hl ((show ∀ q ∈ mTab, ¬ q.2.1 ≤ 0 by decide) q hq), fun o j ho => by rw [show am + o = am by omega]; exact hz j, fun a _ => ⟨rfl, fun j => ⟨rfl, rfl, rfl⟩⟩⟩
  simp (disch := first | omega | (simp only [nn_sr, nn_nw, hn]; omega)) only [e_Mod_init_0, e_Mod_init_1, e_Mod_init_2, e_Mod_init_3, e_Mod_init_4, e_Mod_init_5, e_Mod_init_6, e_Mod_init_7, e_Mod_init_8, e_Mod_init_9, e_Mod_init_10, e_Mod_init_11, e_Mod_init_12, e_Mod_init_13, e_Mod_init_14, e_Mod_init_15, e_Mod_init_16, e_Mod_init_17, e_Mod_init_18, e_Mod_init_19, e_Mod_init_20, e_Mod_init_21, e_Mod_init_22, e_Mod_init_23, e_Mod_init_24, e_Mod_init_25, e_Mod_init_26, e_Mod_init_27, e_Mod_init_28, e_Mod_init_29, e_Mod_init_30, e_Mod_init_31, e_Mod_init_32, e_Mod_init_33, e_Mod_init_34, e_Mod_init_35, e_Mod_init_36, e_Mod_init_37, e_Mod_init_38, e_Mod_init_39, e_Mod_init_40, e_Mod_init_41, e_Mod_init_42, e_Mod_init_43, e_Mod_init_44, e_Mod_init_45, e_Mod_init_46, e_Mod_init_47, e_Mod_init_48, e_Mod_init_49, e_Mod_init_50, e_Mod_init_51, e_Mod_init_52, e_Mod_init_53, e_Mod_init_54, e_Mod_init_55, e_Mod_init_56, e_Mod_init_57, e_Mod_init_58, e_Mod_init_59, e_Mod_init_60, e_Mod_init_61, e_Mod_init_62, e_Mod_init_63, e_Mod_init_64, e_Mod_init_65, e_Mod_init_66, e_Mod_init_67, e_Mod_init_68, e_Mod_init_69, e_Mod_init_70, e_Mod_init_71, e_Mod_init_72, e_Mod_init_73, e_Mod_init_74, e_Mod_init_75, e_Mod_init_76, e_Mod_init_77, e_Mod_init_78, e_Mod_init_79, e_Mod_init_80, e_Mod_init_81, e_Mod_init_82, e_Mod_init_83, e_Mod_init_84, e_Mod_init_85, e_Mod_init_86, e_Mod_init_87, e_Mod_init_88, e_Mod_init_89, e_Mod_init_90, e_Mod_init_91, e_Mod_init_92, e_Mod_init_93, e_Mod_init_94, e_Mod_init_95, e_Mod_init_96, e_Mod_init_97, e_Mod_init_98, e_Mod_init_99, e_Mod_init_100, e_Mod_init_101, e_Mod_init_102, e_Mod_init_103, e_Mod_init_104, e_Mod_init_105, e_Mod_init_106, e_Mod_init_107, e_Mod_init_108, e_Mod_init_109, e_Mod_init_110, e_Mod_init_111, e_Mod_init_112, e_Mod_init_113, e_Mod_init_114, e_Mod_init_115, e_Mod_init_116, e_Mod_init_117, e_Mod_init_118, e_Mod_init_119, e_Mod_init_120, e_Mod_init_121, e_Mod_init_122, jm_ia, jm_na, jm_qa, jm_aa, jm_asg, jm_l4, jm_Kr, jm_okv, jm_rc, jm_bo, true_and, and_true, Nat.add_zero, Nat.le_refl, j_lt, j_le, j_eq, j_lt0, j_0lt, j_le0, j_0le, j_eq0, j_add, j_sub, j_mul, j_neg, j_0sub, j_nat, j_in, j_div, j_rem, Sum.inl.injEq, exists_eq', true_or, or_true, if_true, if_false, not_true_eq_false, not_false_eq_true, implies_true, j_eq1, reduceIte, Nat.reduceEqDiff, Int.reduceEq, Int.reduceToNat, Nat.reduceAdd, Int.reduceAdd, Int.reduceSub, Int.reduceMul, Int.reduceNeg, and_false, false_and, and_self, u2r, j_b0, j_b1, Classical.not_not, eq_self, true_implies, false_implies, not_true_eq_false, not_false_eq_true, Int.reduceLT, Int.reduceLE, kk_sr, kk_nw, kk_nws, nn_sr, nn_nw, hk, hn, Nat.add_assoc, Nat.reduceLeDiff]
  exact (Nk_s (34, 30, 0, 100) rfl (by decide) (Nk_s (32, 29, 0, 400) rfl (by decide) (Nk_s (31, 28, 0, 400) rfl (by decide) (Nk_s (30, 27, 0, 400) rfl (by decide) (Nk_s (28, 26, 0, 12) rfl (by decide) (Nk_s (27, 25, 0, 12) rfl (by decide) (Nk_s (26, 24, 0, 12) rfl (by decide) (Nk_s (25, 23, 0, 12) rfl (by decide) (Nk_s (23, 22, 0, 3) rfl (by decide) (Nk_s (22, 21, 0, 3) rfl (by decide) (Nk_s (21, 20, 0, 3) rfl (by decide) (Nk_s (20, 19, 0, 3) rfl (by decide) (Nk_s (19, 18, 0, 3) rfl (by decide) (Nk_s (18, 17, 0, 3) rfl (by decide) (Nk_s (17, 16, 0, 3) rfl (by decide) (Nk_s (16, 15, 0, 6) rfl (by decide) (Nk_s (15, 14, 0, 6) rfl (by decide) (Nk_s (14, 13, 3, 3) rfl (by decide) (Nk_s (13, 12, 0, 12) rfl (by decide) (Nk_s (12, 11, 0, 12) rfl (by decide) (Nk_s (11, 10, 0, 3) rfl (by decide) (Nk_s (10, 9, 0, 24) rfl (by decide) (Nk_s (9, 8, 0, 24) rfl (by decide) (Nk_s (8, 7, 0, 3) rfl (by decide) (Nk_s (7, 6, 0, 9) rfl (by decide) (Nk_s (6, 5, 0, 3) rfl (by decide) (Nk_s (5, 4, 0, 3) rfl (by decide) (Nk_s (4, 3, 0, 3) rfl (by decide) (Nk_s (3, 2, 0, 3) rfl (by decide) (Nk_s (2, 1, 0, 3) rfl (by decide) N0))))))))))))))))))))))))))))))
