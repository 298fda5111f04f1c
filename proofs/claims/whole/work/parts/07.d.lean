/-! ===== pure rows: counts, the start ===== -/
def zA0 : AW := fun f i => if f = 0 then i + 1 else if f = 11 then 3 else 0
theorem z_rel0 (c : Nat → ClassId) : zRel c (zNums 26) (fun _ => 0) 0 (fun _ => 0) (fun _ => 0) (fun _ => 0) (fun _ => 0) (fun _ => 0) 0 (fun _ => 0) (fun _ => 0) 0 3 (fun _ => 0) 0 (fun _ => 0) (fun _ => -1) (fun _ _ => 0) (fun _ => none) [] [] zRow0 (fun _ => 0) (fun _ => 0) (fun _ => 0) 0 (zLanes 3) (fun _ => 0) (fun _ => 0) := by
  have h1 : ∀ i, i < 26 → zNums 26 i = nI (aN zA0 i) := by decide
  have h2 : ∀ i, i < 26 → zRow0 (100 * 0 + i) = nI (aN zA0 i) := by decide
  refine ⟨⟨zA0, ⟨fun i hi => ?_, ?_, fun i hi => ?_, fun i j h1 h2 => ?_, ?_, fun p hp => ?_, ?_, fun i hi => ?_, ?_, ?_⟩, ⟨h1, rfl, fun i hi => ?_, rfl, fun p hp => ?_, rfl, fun i hi => ?_, rfl⟩, ⟨h2, by decide, fun i hi => ?_, by decide, by decide, fun p hp => ?_, by decide, fun i hi => ?_⟩⟩, ⟨0, by omega, rfl, rfl, fun i hi => absurd hi (by omega)⟩, fun t ht => Or.inl ⟨rfl, ?_⟩, Or.inl ⟨rfl, rfl, rfl⟩, Or.inl ⟨rfl, rfl, rfl⟩, fun _ _ => rfl⟩
  · show i + 1 ≤ 99; omega
  · decide
  · exact absurd hi (by show ¬ i < 0; omega)
  · exact absurd h2 (by show ¬ j < 0; omega)
  · decide
  · exact absurd hp (by show ¬ p < 0; omega)
  · decide
  · exact absurd hi (by show ¬ i < 0; omega)
  · decide
  · decide
  · exact absurd hi (by show ¬ i < 0; omega)
  · exact absurd hp (by show ¬ p < 0; omega)
  · exact absurd hi (by show ¬ i < 0; omega)
  · exact absurd hi (by show ¬ i < 0; omega)
  · exact absurd hp (by show ¬ p < 0; omega)
  · exact absurd hi (by show ¬ i < 0; omega)
  · have : ∀ t, t < 3 → zLanes 3 t = -1 := by decide
    exact this t ht
theorem zl_ne {p : Int32} {n : Nat} (h : ¬ (0 ≤ p.toInt ∧ p.toInt < n)) (k : Nat) (hk : k < n) (hn : n < 2 ^ 31) : ¬ p = nI k := fun e => h (by rw [e, nI_toInt (by omega)]; omega)
theorem zl_nm1 {n : Nat} (h : n < 2 ^ 31) : ¬ nI n = -1 := fun e => by
  have := congrArg Int32.toInt e
  rw [nI_toInt h] at this
  have e2 : (-1 : Int32).toInt = -1 := rfl
  omega
theorem pr_count (c : Nat → ClassId) (n_numbers : Nat → Int32) (n_syllables : Nat → Int64) (n_syllableCount : Int32) (n_days : Nat → Int32) (n_words : Nat → Int64) (n_parents : Nat → Int32) (n_otherParents : Nat → Int32) (n_kinds : Nat → Int32) (n_personCount : Int32) (n_hopeDays : Nat → Int32) (n_hopeTenths : Nat → Int32) (n_hopeCount : Int32) (n_degreesTold : Int32) (r_text : Nat → Int32) (r_length : Int32) (s_lane : Nat → Int32) (s_size : Nat → Int32) (s_items : Nat → Nat → Int32) (i_ir : Nat → Option Nat) (g0 : va_W) (g1 : va_W) (z_row : Nat → Int32) (z_words : Nat → Int64) (z_isKept : Nat → Int32) (z_text : Nat → Int32) (z_length : Int32) (z_lanes : Nat → Int32) (z_sizes : Nat → Int32) (z_items : Nat → Int32) (p1 : Int32) (N : Nat) (hN : 100000 ≤ N) (hR : zRel c n_numbers n_syllables n_syllableCount n_days n_words n_parents n_otherParents n_kinds n_personCount n_hopeDays n_hopeTenths n_hopeCount n_degreesTold r_text r_length s_lane s_size s_items i_ir g0 g1 z_row z_words z_isKept z_text z_length z_lanes z_sizes z_items) : ∃ (r : Int32), f_X6_count N n_syllableCount n_personCount n_hopeCount n_degreesTold r_length s_size p1 = some r ∧ f_X7_count N z_row z_length z_lanes z_sizes p1 = some r ∧ zRel c n_numbers n_syllables n_syllableCount n_days n_words n_parents n_otherParents n_kinds n_personCount n_hopeDays n_hopeTenths n_hopeCount n_degreesTold r_text r_length s_lane s_size s_items i_ir g0 g1 z_row z_words z_isKept z_text z_length z_lanes z_sizes z_items := by
  obtain ⟨⟨a, hok, hw, hra⟩, ⟨n, hn, e1, e2, h2⟩, h3, h4⟩ := id hR
  have sh : ∀ t, t < 3 → ∃ r, s_size t = r ∧ (if z_lanes t = (-1 : Int32) then some (-1 : Int32) else some (z_sizes t)) = some r := by
    intro t ht
    rcases h3 t ht with q | ⟨ln, k, q⟩
    · exact ⟨-1, q.1, by rw [if_pos q.2]⟩
    · exact ⟨nI k, q.2.2.2.2.1, by rw [q.2.2.2.1, if_neg (zl_nm1 (by omega)), q.2.2.2.2.2.1]⟩
  rcases zl_case p1 8 (by decide) with ⟨j, hj, rfl⟩ | h
  · match j, hj with
    | 0, _ => exact ⟨n_personCount, rfl, by rw [hw.2.2.2.1, ← hra.2.2.2.2.1]; rfl, hR⟩
    | 1, _ => exact ⟨n_syllableCount, rfl, by rw [hw.2.1, ← hra.2.1]; rfl, hR⟩
    | 2, _ => exact ⟨n_hopeCount, rfl, by rw [hw.2.2.2.2.2.1, ← hra.2.2.2.2.2.2.1]; rfl, hR⟩
    | 3, _ => exact ⟨n_degreesTold, rfl, by rw [hw.2.2.2.2.2.2.2, ← hra.2.2.2.1]; rfl, hR⟩
    | 4, _ => exact ⟨r_length, rfl, by rw [e1, ← e2]; rfl, hR⟩
    | 5, _ =>
      obtain ⟨r, q1, q2⟩ := sh 0 (by decide)
      exact ⟨r, by rw [← q1]; rfl, q2, hR⟩
    | 6, _ =>
      obtain ⟨r, q1, q2⟩ := sh 1 (by decide)
      exact ⟨r, by rw [← q1]; rfl, q2, hR⟩
    | 7, _ =>
      obtain ⟨r, q1, q2⟩ := sh 2 (by decide)
      exact ⟨r, by rw [← q1]; rfl, q2, hR⟩
  · have hz : ∀ k : Nat, k < 8 → ¬ p1 = nI k := fun k hk => zl_ne h k hk (by decide)
    refine ⟨-3, ?_, ?_, hR⟩
    · unfold f_X6_count
      rw [if_neg (show ¬ p1 = 0 from hz 0 (by decide)), if_neg (show ¬ p1 = 1 from hz 1 (by decide)), if_neg (show ¬ p1 = 2 from hz 2 (by decide)), if_neg (show ¬ p1 = 3 from hz 3 (by decide)), if_neg (show ¬ p1 = 4 from hz 4 (by decide)), if_neg (show ¬ p1 = 5 from hz 5 (by decide)), if_neg (show ¬ p1 = 6 from hz 6 (by decide)), if_neg (show ¬ p1 = 7 from hz 7 (by decide))]
    · unfold f_X7_count
      rw [if_neg (show ¬ p1 = 0 from hz 0 (by decide)), if_neg (show ¬ p1 = 1 from hz 1 (by decide)), if_neg (show ¬ p1 = 2 from hz 2 (by decide)), if_neg (show ¬ p1 = 3 from hz 3 (by decide)), if_neg (show ¬ p1 = 4 from hz 4 (by decide)), if_neg (show ¬ p1 = 5 from hz 5 (by decide)), if_neg (show ¬ p1 = 6 from hz 6 (by decide)), if_neg (show ¬ p1 = 7 from hz 7 (by decide))]
