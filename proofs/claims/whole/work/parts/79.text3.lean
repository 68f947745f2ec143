/-! PURE 39: the turns of the text counted -/
def yTr (c : Nat → Nat) (L a a' : Nat) : Prop := (yTd c L a ∧ a' = a + 3) ∨ (yTn c L a ∧ a' = a + 5)
/-- m turns from a to the end -/
def yWh (c : Nat → Nat) (L : Nat) : Nat → Nat → Prop
  | 0, _ => False
  | m + 1, a => ∃ a', yTr c L a a' ∧ ((a' = L ∧ m = 0) ∨ (a' < L ∧ c a' = 59 ∧ yWh c L m (a' + 1)))
theorem m_ct {ch text : Nat → Int32} {c : Nat → Nat} {L : Nat} (h : yTx ch text c L) : ∀ d a tf tt k n N, a ≤ L → L - a < d → d < n → L - a + 7 < N →
    (∃ e x tf' tt', e ≤ L ∧ zbd (fX5_readTurn text (nI L) (nI a) tf tt 0) (fun u1 => fX5_countTurns_17 text (nI L) n u1.2.1 u1.2.2.1 u1.2.2.2.1 u1.2.2.2.2 (nI k)) = some (x, nI e, tf', tt', 1) ∧ fX1_firstError_4 ch (nI L) N (nI 0) (nI a) = some (nI e)) ∨
    (∃ m tf' tt', m < d ∧ yWh c L (m + 1) a ∧ zbd (fX5_readTurn text (nI L) (nI a) tf tt 0) (fun u1 => fX5_countTurns_17 text (nI L) n u1.2.1 u1.2.2.1 u1.2.2.2.1 u1.2.2.2.2 (nI k)) = some (nI (k + m), nI L, tf', tt', 0) ∧ fX1_firstError_4 ch (nI L) N (nI 0) (nI a) = some (-1)) := by
  have hL := h.1
  intro d
  induction d with
  | zero => intro a tf tt k n N h1 h2; omega
  | succ d ih =>
    intro a tf tt k n N ha hd hn hN
    -- a whole turn: what follows
    have go : ∀ a' sg tf1 tt1, a < a' → a' ≤ L → yTr c L a a' → fX5_readTurn text (nI L) (nI a) tf tt 0 = some (sg, nI a', tf1, tt1, 0) → (∃ M, L - a' + 7 < M ∧ fX1_firstError_4 ch (nI L) N (nI 0) (nI a) = fX1_firstError_4 ch (nI L) M (nI 5) (nI a')) →
        (∃ e x tf' tt', e ≤ L ∧ zbd (fX5_readTurn text (nI L) (nI a) tf tt 0) (fun u1 => fX5_countTurns_17 text (nI L) n u1.2.1 u1.2.2.1 u1.2.2.2.1 u1.2.2.2.2 (nI k)) = some (x, nI e, tf', tt', 1) ∧ fX1_firstError_4 ch (nI L) N (nI 0) (nI a) = some (nI e)) ∨
        (∃ m tf' tt', m < d + 1 ∧ yWh c L (m + 1) a ∧ zbd (fX5_readTurn text (nI L) (nI a) tf tt 0) (fun u1 => fX5_countTurns_17 text (nI L) n u1.2.1 u1.2.2.1 u1.2.2.2.1 u1.2.2.2.2 (nI k)) = some (nI (k + m), nI L, tf', tt', 0) ∧ fX1_firstError_4 ch (nI L) N (nI 0) (nI a) = some (-1)) := by
      rintro a' sg tf1 tt1 h1 h2 htr e ⟨M, M2, M3⟩
      rw [e, zbd_S, M3]
      dsimp only
      obtain ⟨n', rfl⟩ : ∃ n', n = n' + 1 := ⟨n - 1, by omega⟩
      obtain ⟨M', rfl⟩ : ∃ M', M = M' + 1 := ⟨M - 1, by omega⟩
      rw [fX5_countTurns_17, if_pos rfl]
      by_cases g : a' < L
      · rw [if_neg (nI_ge g (by omega))]
        by_cases g2 : c a' = 59
        · rw [show fX5_takes text (nI L) (nI a') 0 59 = _ from m_takes1 (x := 59) h g (by omega) g2, zbd_S]
          dsimp only
          rw [if_neg (show ¬ (1 : Int32) = 0 by decide)]
          unfold fX5_countTurns_50
          rw [show zbo 0 = true from rfl, zck_T, nI_1, c_fe h g (by omega) M' (yex_5 g2) (by omega)]
          rcases ih (a' + 1) tf1 tt1 (k + 1) n' M' (by omega) (by omega) (by omega) (by omega) with ⟨e, x, tf', tt', q1, q2, q3⟩ | ⟨m, tf', tt', q1, q2, q3, q4⟩
          · exact Or.inl ⟨e, x, tf', tt', q1, q2, q3⟩
          · refine Or.inr ⟨m + 1, tf', tt', by omega, ⟨a', htr, Or.inr ⟨g, g2, q2⟩⟩, ?_, q4⟩
            rw [show k + (m + 1) = k + 1 + m by omega]
            exact q3
        · obtain ⟨sg2, x2, y2, r⟩ := m_rtW text (nI L) (nI a') tf1 tt1
          rw [show fX5_takes text (nI L) (nI a') 0 59 = _ from m_takes0 (x := 59) h h2 (by omega) (fun _ => g2), zbd_S]
          dsimp only
          rw [if_pos rfl]
          unfold fX5_countTurns_50
          rw [show zbo 1 = true from rfl, zck_T, r, zbd_S, zbn_E]
          obtain ⟨n2, rfl⟩ : ∃ n2, n' = n2 + 1 := ⟨n' - 1, by omega⟩
          dsimp only
          rw [fX5_countTurns_17, if_neg (show ¬ (1 : Int32) = 0 by decide)]
          exact Or.inl ⟨a', _, _, _, h2, rfl, c_fe9 h g (by omega) M' (yex_59 g2)⟩
      · rw [if_pos (nI_le (by omega) (by omega)), show a' = L by omega]
        refine Or.inr ⟨0, tf1, tt1, by omega, ⟨a', htr, Or.inl ⟨by omega, rfl⟩⟩, rfl, c_feG hL M'⟩
    by_cases g : yTd c L a
    · obtain ⟨N', rfl⟩ : ∃ N', N = N' + 3 := ⟨N - 3, by omega⟩
      have g1 := g.1
      refine go (a + 3) _ _ _ (by omega) g1 (Or.inl ⟨g, rfl⟩) (m_rt_d h g tf tt) ⟨N', by omega, c_fe_d h g N'⟩
    · by_cases g2 : yTn c L a
      · obtain ⟨N', rfl⟩ : ∃ N', N = N' + 5 := ⟨N - 5, by omega⟩
        have g1 := g2.1
        refine go (a + 5) _ _ _ (by omega) g1 (Or.inr ⟨g2, rfl⟩) (m_rt_m h g2 tf tt) ⟨N', by omega, c_fe_m h g2 N'⟩
      · obtain ⟨e, sg, x, y, r1, r2, r3⟩ := m_rt_b h ha g g2 tf tt
        obtain ⟨N', rfl⟩ : ∃ N', N = N' + 6 := ⟨N - 6, by omega⟩
        obtain ⟨n', rfl⟩ : ∃ n', n = n' + 1 := ⟨n - 1, by omega⟩
        rw [r1, zbd_S]
        dsimp only
        rw [fX5_countTurns_17, if_neg (show ¬ (1 : Int32) = 0 by decide)]
        exact Or.inl ⟨e, _, _, _, r2, rfl, r3 N'⟩
