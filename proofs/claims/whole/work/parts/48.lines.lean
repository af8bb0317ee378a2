/-! all members' lines in an hour -/
theorem w_all {M N : St} {c ns nm H : Nat} (hc : c < 2) (h : clOk M N c ns nm H) (hH : H < 1000000) : ∀ i, i ≤ nm → clOk (wlM M c ns i) (hrS N c ns (onR N (nI H) ns) i) c ns nm H ∧ hrS N c ns (onR N (nI H) ns) i 10 c 0 = N 10 c 0 + wlN M c ns i ∧ ∃ w, w ≤ i ∧ wlN M c ns i = nI w
  | 0, _ => ⟨h, (Int32.add_zero _).symm, 0, Nat.le_refl 0, rfl⟩
  | i + 1, hi => by
    obtain ⟨ih, iw, w, hw, ew⟩ := w_all hc h hH i (by omega)
    obtain ⟨z1, z2, z3, z4⟩ := meOk_sz (h.2.2.1 i (by omega))
    have hX15 : wlM M c ns i 15 (8 * c + i) 0 = nI (szN M (8 * c + i)) := by rw [wlM_of (by omega) i (by omega)]; exact z1
    have h14 : wlM M c ns i 14 (8 * c + i) 0 = hrS N c ns (onR N (nI H) ns) i 7 0 i := by
      obtain ⟨t, d, cr, a, L, -, ⟨-, -, -, -, -, m6, -⟩, -⟩ := ih.2.2.1 i (by omega)
      exact m6
    have hon : onR (hrS N c ns (onR N (nI H) ns) i) (nI H) ns = onR N (nI H) ns := onR_c (hrS_o (by omega) (by omega) (by omega)) ns
    unfold wlM wlN hrS
    rw [z4, h14]
    by_cases a0 : hrS N c ns (onR N (nI H) ns) i 7 0 i = 0
    · rw [if_pos a0, if_pos a0, if_pos a0]
      exact ⟨ih, iw, w, by omega, ew⟩
    · rw [if_neg a0, if_neg a0, if_neg a0]
      by_cases a1 : (szN M (8 * c + i) + 1) * 4 ≤ 160
      · have hs40 : szN M (8 * c + i) < 40 := by omega
        rw [if_pos a1, if_pos a1, if_neg (fun z => by
          have := nI_inj (a := szN M (8 * c + i)) (b := 40) (by omega) (by omega) z
          omega)]
        obtain ⟨s1, s2, s3⟩ := w_step ih hH (show i < nm by omega) hX15 hs40
        rw [hon] at s1 s2
        refine ⟨s1, ?_, ?_⟩
        · rw [s2, iw]
          rcases s3 with s3 | s3
          · rw [s3, if_pos rfl, Int32.add_zero]
          · rw [s3, if_neg (by decide), Int32.add_assoc]
        · rcases s3 with s3 | s3
          · rw [s3, if_pos rfl]
            exact ⟨w, by omega, ew⟩
          · rw [s3, if_neg (by decide), ew]
            exact ⟨w + 1, by omega, nI_1 w⟩
      · rw [if_neg a1, if_neg a1, if_pos (show nI (szN M (8 * c + i)) = 40 by rw [show szN M (8 * c + i) = 40 by omega]; rfl)]
        exact ⟨ih, iw, w, by omega, ew⟩
