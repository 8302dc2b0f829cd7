/-- a step forward: it never goes back, and where a token was read it went on -/
def xGo (n n2 tk : Int32) : Prop := n.toInt ≤ n2.toInt ∧ (¬ tk = 0 → n.toInt < n2.toInt)
theorem x_go_l0 {t n : Int32} {text : Nat → Int32} {P : Int32 × Int32 × Int32 × Int32 → Prop} {kont : Int32 → Int32 × Int32 × Int32 × Int32} (hk : ∀ u, xNx t u → n.toInt ≤ u.toInt → P (kont u)) : ∀ (kk : Nat) (u : Int32), xNx t u → n.toInt ≤ u.toInt → P (sX9_advance_l0 t text kont kk u)
  | 0, u, h, g => hk u h g
  | kk + 1, u, h, g => by
    rw [sX9_advance_l0_s]
    split
    · rename_i c
      have c2 := x_byteLt c (by decide)
      exact x_go_l0 hk kk _ (h.s c2) (by rw [x_up h.a c2]; omega)
    · split
      · rename_i c
        have c2 := x_byteLt c (by decide)
        exact x_go_l0 hk kk _ (h.s c2) (by rw [x_up h.a c2]; omega)
      · exact hk u h g
theorem x_go_l85 {t s n : Int32} {text : Nat → Int32} {P : Int32 × Int32 × Int32 × Int32 → Prop} {kont : Int32 → Int32 × Int32 × Int32 × Int32} (hk : ∀ u, n.toInt < u.toInt → P (kont u)) : ∀ (kk : Nat) (u : Int32), xTok t s u → n.toInt < u.toInt → P (sX9_advance_l85 t text kont kk u)
  | 0, u, h, g => hk u g
  | kk + 1, u, h, g => by
    rw [sX9_advance_l85_s]
    split
    · exact hk u g
    · rename_i c
      have c2 := x_byteW c (by decide)
      exact x_go_l85 hk kk _ (h.s c2) (by rw [x_up h.x.a c2]; omega)
theorem x_go_l153 {t s n : Int32} {text : Nat → Int32} {P : Int32 × Int32 × Int32 × Int32 → Prop} {kont : Int32 → Int32 → Int32 × Int32 × Int32 × Int32} (hk : ∀ u v, n.toInt < u.toInt → P (kont u v)) : ∀ (kk : Nat) (u v : Int32), xTok t s u → n.toInt < u.toInt → P (sX9_advance_l153 t text s kont kk u v)
  | 0, u, v, h, g => hk u v g
  | kk + 1, u, v, h, g => by
    rw [sX9_advance_l153_s]
    split
    · exact hk u v g
    · rename_i c
      have c2 := x_byteW c (by decide)
      have g2 : n.toInt < (u + 1).toInt := by rw [x_up h.x.a c2]; omega
      split
      · exact x_go_l153 hk kk _ _ (h.s c2) g2
      · exact x_go_l153 hk kk _ _ (h.s c2) g2
theorem x_advGo {t n : Int32} {text : Nat → Int32} (h : xNx t n) : xGo n (sX9_advance t n text).2.1 (sX9_advance t n text).2.2.1 := by
  unfold sX9_advance
  refine x_go_l0 (n := n) (P := fun q => xGo n q.2.1 q.2.2.1) (fun u hu g => ?_) _ _ h (Int.le_refl _)
  split
  · exact ⟨g, fun e => absurd rfl e⟩
  · rename_i c
    have c2 := x_byteN c
    have e := x_up hu.a c2
    have g2 : n.toInt < (u + 1).toInt := by rw [e]; omega
    split
    · split
      · split
        · exact ⟨Int.le_of_lt g2, fun _ => g2⟩
        · exact ⟨Int.le_of_lt g2, fun _ => g2⟩
      · rename_i d
        rw [sX9_advance_l153_s, if_neg d]
        split
        · refine x_go_l153 (n := n) (P := fun q => xGo n q.2.1 q.2.2.1) (fun u2 v g3 => ?_) _ _ _ (hu.t.s c2) g2
          split
          · exact ⟨Int.le_of_lt g3, fun _ => g3⟩
          · exact ⟨Int.le_of_lt g3, fun _ => g3⟩
        · refine x_go_l153 (n := n) (P := fun q => xGo n q.2.1 q.2.2.1) (fun u2 v g3 => ?_) _ _ _ (hu.t.s c2) g2
          split
          · exact ⟨Int.le_of_lt g3, fun _ => g3⟩
          · exact ⟨Int.le_of_lt g3, fun _ => g3⟩
    · rename_i d
      rw [sX9_advance_l85_s, if_neg d]
      refine x_go_l85 (n := n) (P := fun q => xGo n q.2.1 q.2.2.1) (fun u2 g3 => ?_) _ _ (hu.t.s c2) g2
      split
      · exact ⟨Int.le_of_lt g3, fun _ => g3⟩
      · exact ⟨Int.le_of_lt g3, fun _ => g3⟩
theorem x_setsGo {t s n tk v er ea : Int32} {text told : Nat → Int32} {what low high : Int32} (ht : xTok t s n) : ¬ (sX9_sets t s n tk v er ea text told what low high).1 = 0 → tk = 2 ∧ n.toInt ≤ (sX9_sets t s n tk v er ea text told what low high).2.2.2.2.1.toInt := by
  unfold sX9_sets
  split
  · rename_i c
    split
    · exact fun h => absurd rfl h
    · exact fun _ => ⟨c, (x_advGo ht.x).1⟩
  · exact fun h => absurd rfl h
theorem x_twoGo {t s n tk v er ea : Int32} {text told : Nat → Int32} {what high : Int32} (ht : xTok t s n) : ¬ (sX9_two t s n tk v er ea text told what high).1 = 0 → tk = 2 ∧ n.toInt ≤ (sX9_two t s n tk v er ea text told what high).2.2.2.2.1.toInt := by
  unfold sX9_two
  split
  · exact fun h => absurd rfl h
  · rename_i c1
    split
    · exact fun h => absurd rfl h
    · rename_i c2
      exact fun _ => ⟨(x_setsGo ht c1).1, Int.le_trans (x_setsGo ht c1).2 (x_setsGo (x_setsT ht) c2).2⟩
theorem x_gains_go {n t : Int32} {text : Nat → Int32} {kont : Int32 → Int32 → Int32 × Int32 × Int32 × Int32 × Int32 × Int32 → (Nat → Int32) → Int32 × Int32 × Int32 × Int32 × Int32 × Int32 × Int32 × (Nat → Int32)} (hk : ∀ k g tk td, (¬ g = 0 → n.toInt ≤ tk.2.1.toInt) → ¬ (kont k g tk td).1 = 0 → n.toInt ≤ (kont k g tk td).2.2.2.2.1.toInt) : ∀ (kk : Nat) (k g : Int32) (tk : Int32 × Int32 × Int32 × Int32 × Int32 × Int32) (td : Nat → Int32), xTok t tk.1 tk.2.1 → (¬ g = 0 → n.toInt ≤ tk.2.1.toInt) → ¬ (sX9_gains_l4 t text kont kk k g tk td).1 = 0 → n.toInt ≤ (sX9_gains_l4 t text kont kk k g tk td).2.2.2.2.1.toInt
  | 0, k, g, tk, td, h, hg => hk k g tk td hg
  | kk + 1, k, g, tk, td, h, hg => by
    rw [sX9_gains_l4_s]
    split
    · exact hk k g tk td hg
    · split
      · exact hk k g tk td hg
      · rename_i c1 c2
        exact x_gains_go hk kk _ _ _ _ (x_setsT h) (fun hr => Int.le_trans (hg c2) (x_setsGo h hr).2)
theorem x_gainsGo {t s n tk v er ea : Int32} {text told : Nat → Int32} (ht : xTok t s n) (hr : ¬ (sX9_gains t s n tk v er ea text told).1 = 0) : tk = 2 ∧ n.toInt ≤ (sX9_gains t s n tk v er ea text told).2.2.2.2.1.toInt := by
  refine ⟨?_, ?_⟩
  · by_cases hs : ¬ (sX9_sets t s n tk v er ea text told (9 + 0) 0 99).1 = 0
    · exact (x_setsGo ht hs).1
    · refine absurd ?_ hr
      have hs := Classical.not_not.mp hs
      unfold sX9_gains
      rw [sX9_gains_l4_s, if_neg (by decide), if_neg (by decide), sX9_gains_l4_s, if_neg (by decide)]
      split
      · exact hs
      · rename_i c
        exact absurd hs c
  · unfold sX9_gains at hr ⊢
    exact x_gains_go (fun _ _ _ _ h hr => h hr) _ _ _ _ _ ht (fun _ => Int.le_refl _) hr
theorem x_onceGo {t s n tk v er ea sn : Int32} {text : Nat → Int32} {bit : Int32} (ht : xTok t s n) : ¬ (sX9_once t s n tk v er ea sn text bit).1 = 0 → xGo n (sX9_once t s n tk v er ea sn text bit).2.2.2.2.1 (sX9_once t s n tk v er ea sn text bit).2.2.2.2.2.1 := by
  have h1 : xGo n (sX9_starts t s n tk v er ea text 2 1).2.2.2.2.1 (sX9_starts t s n tk v er ea text 2 1).2.2.2.2.2.1 := by
    unfold sX9_starts
    rw [if_neg (by decide)]
    exact x_advGo ht.x
  unfold sX9_once
  split
  · split
    · exact fun h => absurd rfl h
    · exact fun _ => h1
  · split
    · exact fun h => absurd rfl h
    · rename_i c
      exact absurd (by unfold sX9_starts; rw [if_pos rfl]) c
theorem x_closesGo {t s n tk v er ea : Int32} {text : Nat → Int32} (ht : xTok t s n) : ¬ (sX9_closes t s n tk v er ea text).1 = 0 → n.toInt ≤ (sX9_closes t s n tk v er ea text).2.2.2.2.1.toInt := by
  unfold sX9_closes
  split
  · exact fun _ => (x_advGo ht.x).1
  · exact fun h => absurd rfl h
theorem x_gst_20 {n0 : Int32} {textSize : Int32} {start : Int32} {next : Int32} {token : Int32} {value : Int32} {error : Int32} {errorAt : Int32} {seen : Int32} {text : Nat → Int32} {told : Nat → Int32} {q_11 : Int32 × Int32 × Int32 × Int32 × Int32 × Int32 × Int32 × Int32} {q_14 : Int32 × Int32 × Int32 × Int32 × Int32 × Int32 × Int32 × (Nat → Int32)} {q_17 : Int32 × Int32 × Int32 × Int32 × Int32 × Int32 × Int32 × (Nat → Int32)} {q_20 : Int32 × Int32 × Int32 × Int32 × Int32 × Int32 × Int32 × (Nat → Int32)} (h : xTok textSize q_20.2.2.2.1 q_20.2.2.2.2.1) (g : ¬ q_20.1 = 0 → n0.toInt < q_20.2.2.2.2.1.toInt) : ¬ (sX9_statement_q_20 textSize start next token value error errorAt seen text told q_11 q_14 q_17 q_20).1 = 0 → n0.toInt < (sX9_statement_q_20 textSize start next token value error errorAt seen text told q_11 q_14 q_17 q_20).2.2.2.2.1.toInt := by
  unfold sX9_statement_q_20
  split
  · exact fun e => absurd rfl e
  · rename_i d
    exact fun _ => g d
theorem x_gst_17 {n0 : Int32} {textSize : Int32} {start : Int32} {next : Int32} {token : Int32} {value : Int32} {error : Int32} {errorAt : Int32} {seen : Int32} {text : Nat → Int32} {told : Nat → Int32} {q_11 : Int32 × Int32 × Int32 × Int32 × Int32 × Int32 × Int32 × Int32} {q_14 : Int32 × Int32 × Int32 × Int32 × Int32 × Int32 × Int32 × (Nat → Int32)} {q_17 : Int32 × Int32 × Int32 × Int32 × Int32 × Int32 × Int32 × (Nat → Int32)} (h : xTok textSize q_17.2.2.2.1 q_17.2.2.2.2.1) (g : ¬ q_17.1 = 0 → n0.toInt < q_17.2.2.2.2.1.toInt) : ¬ (sX9_statement_q_17 textSize start next token value error errorAt seen text told q_11 q_14 q_17).1 = 0 → n0.toInt < (sX9_statement_q_17 textSize start next token value error errorAt seen text told q_11 q_14 q_17).2.2.2.2.1.toInt := by
  unfold sX9_statement_q_17
  split
  · exact fun e => absurd rfl e
  · rename_i d
    exact x_gst_20 (x_setsT h) (fun hr => Int.lt_of_lt_of_le (g d) (x_setsGo h hr).2)
theorem x_gst_14 {n0 : Int32} {textSize : Int32} {start : Int32} {next : Int32} {token : Int32} {value : Int32} {error : Int32} {errorAt : Int32} {seen : Int32} {text : Nat → Int32} {told : Nat → Int32} {q_11 : Int32 × Int32 × Int32 × Int32 × Int32 × Int32 × Int32 × Int32} {q_14 : Int32 × Int32 × Int32 × Int32 × Int32 × Int32 × Int32 × (Nat → Int32)} (h : xTok textSize q_14.2.2.2.1 q_14.2.2.2.2.1) (g : ¬ q_14.1 = 0 → n0.toInt < q_14.2.2.2.2.1.toInt) : ¬ (sX9_statement_q_14 textSize start next token value error errorAt seen text told q_11 q_14).1 = 0 → n0.toInt < (sX9_statement_q_14 textSize start next token value error errorAt seen text told q_11 q_14).2.2.2.2.1.toInt := by
  unfold sX9_statement_q_14
  split
  · exact fun e => absurd rfl e
  · rename_i d
    exact x_gst_17 (x_setsT h) (fun hr => Int.lt_of_lt_of_le (g d) (x_setsGo h hr).2)
theorem x_gst_11 {n0 : Int32} {textSize : Int32} {start : Int32} {next : Int32} {token : Int32} {value : Int32} {error : Int32} {errorAt : Int32} {seen : Int32} {text : Nat → Int32} {told : Nat → Int32} {q_11 : Int32 × Int32 × Int32 × Int32 × Int32 × Int32 × Int32 × Int32} (h : xTok textSize q_11.2.2.2.1 q_11.2.2.2.2.1) (g : ¬ q_11.1 = 0 → xGo n0 q_11.2.2.2.2.1 q_11.2.2.2.2.2.1) : ¬ (sX9_statement_q_11 textSize start next token value error errorAt seen text told q_11).1 = 0 → n0.toInt < (sX9_statement_q_11 textSize start next token value error errorAt seen text told q_11).2.2.2.2.1.toInt := by
  unfold sX9_statement_q_11
  split
  · exact fun e => absurd rfl e
  · rename_i d
    exact x_gst_14 (x_setsT h) (fun hr => Int.lt_of_lt_of_le ((g d).2 (by rw [(x_setsGo h hr).1]; decide)) (x_setsGo h hr).2)
theorem x_gst_29 {n0 : Int32} {textSize : Int32} {start : Int32} {next : Int32} {token : Int32} {value : Int32} {error : Int32} {errorAt : Int32} {seen : Int32} {text : Nat → Int32} {told : Nat → Int32} {q_23 : Int32 × Int32 × Int32 × Int32 × Int32 × Int32 × Int32 × Int32} {q_26 : Int32 × Int32 × Int32 × Int32 × Int32 × Int32 × Int32 × (Nat → Int32)} {q_29 : Int32 × Int32 × Int32 × Int32 × Int32 × Int32 × Int32 × (Nat → Int32)} (h : xTok textSize q_29.2.2.2.1 q_29.2.2.2.2.1) (g : ¬ q_29.1 = 0 → n0.toInt < q_29.2.2.2.2.1.toInt) : ¬ (sX9_statement_q_29 textSize start next token value error errorAt seen text told q_23 q_26 q_29).1 = 0 → n0.toInt < (sX9_statement_q_29 textSize start next token value error errorAt seen text told q_23 q_26 q_29).2.2.2.2.1.toInt := by
  unfold sX9_statement_q_29
  split
  · exact fun e => absurd rfl e
  · rename_i d
    exact fun _ => g d
theorem x_gst_26 {n0 : Int32} {textSize : Int32} {start : Int32} {next : Int32} {token : Int32} {value : Int32} {error : Int32} {errorAt : Int32} {seen : Int32} {text : Nat → Int32} {told : Nat → Int32} {q_23 : Int32 × Int32 × Int32 × Int32 × Int32 × Int32 × Int32 × Int32} {q_26 : Int32 × Int32 × Int32 × Int32 × Int32 × Int32 × Int32 × (Nat → Int32)} (h : xTok textSize q_26.2.2.2.1 q_26.2.2.2.2.1) (g : ¬ q_26.1 = 0 → n0.toInt < q_26.2.2.2.2.1.toInt) : ¬ (sX9_statement_q_26 textSize start next token value error errorAt seen text told q_23 q_26).1 = 0 → n0.toInt < (sX9_statement_q_26 textSize start next token value error errorAt seen text told q_23 q_26).2.2.2.2.1.toInt := by
  unfold sX9_statement_q_26
  split
  · exact fun e => absurd rfl e
  · rename_i d
    exact x_gst_29 (x_setsT h) (fun hr => Int.lt_of_lt_of_le (g d) (x_setsGo h hr).2)
theorem x_gst_23 {n0 : Int32} {textSize : Int32} {start : Int32} {next : Int32} {token : Int32} {value : Int32} {error : Int32} {errorAt : Int32} {seen : Int32} {text : Nat → Int32} {told : Nat → Int32} {q_23 : Int32 × Int32 × Int32 × Int32 × Int32 × Int32 × Int32 × Int32} (h : xTok textSize q_23.2.2.2.1 q_23.2.2.2.2.1) (g : ¬ q_23.1 = 0 → xGo n0 q_23.2.2.2.2.1 q_23.2.2.2.2.2.1) : ¬ (sX9_statement_q_23 textSize start next token value error errorAt seen text told q_23).1 = 0 → n0.toInt < (sX9_statement_q_23 textSize start next token value error errorAt seen text told q_23).2.2.2.2.1.toInt := by
  unfold sX9_statement_q_23
  split
  · exact fun e => absurd rfl e
  · rename_i d
    exact x_gst_26 (x_setsT h) (fun hr => Int.lt_of_lt_of_le ((g d).2 (by rw [(x_setsGo h hr).1]; decide)) (x_setsGo h hr).2)
theorem x_gst_44 {n0 : Int32} {textSize : Int32} {start : Int32} {next : Int32} {token : Int32} {value : Int32} {error : Int32} {errorAt : Int32} {seen : Int32} {text : Nat → Int32} {told : Nat → Int32} {q_32 : Int32 × Int32 × Int32 × Int32 × Int32 × Int32 × Int32 × Int32} {q_35 : Int32 × Int32 × Int32 × Int32 × Int32 × Int32 × Int32 × (Nat → Int32)} {q_38 : Int32 × Int32 × Int32 × Int32 × Int32 × Int32 × Int32 × (Nat → Int32)} {q_41 : Int32 × Int32 × Int32 × Int32 × Int32 × Int32 × Int32 × (Nat → Int32)} {q_44 : Int32 × Int32 × Int32 × Int32 × Int32 × Int32 × Int32 × (Nat → Int32)} (h : xTok textSize q_44.2.2.2.1 q_44.2.2.2.2.1) (g : ¬ q_44.1 = 0 → n0.toInt < q_44.2.2.2.2.1.toInt) : ¬ (sX9_statement_q_44 textSize start next token value error errorAt seen text told q_32 q_35 q_38 q_41 q_44).1 = 0 → n0.toInt < (sX9_statement_q_44 textSize start next token value error errorAt seen text told q_32 q_35 q_38 q_41 q_44).2.2.2.2.1.toInt := by
  unfold sX9_statement_q_44
  split
  · exact fun e => absurd rfl e
  · rename_i d
    exact fun _ => g d
theorem x_gst_41 {n0 : Int32} {textSize : Int32} {start : Int32} {next : Int32} {token : Int32} {value : Int32} {error : Int32} {errorAt : Int32} {seen : Int32} {text : Nat → Int32} {told : Nat → Int32} {q_32 : Int32 × Int32 × Int32 × Int32 × Int32 × Int32 × Int32 × Int32} {q_35 : Int32 × Int32 × Int32 × Int32 × Int32 × Int32 × Int32 × (Nat → Int32)} {q_38 : Int32 × Int32 × Int32 × Int32 × Int32 × Int32 × Int32 × (Nat → Int32)} {q_41 : Int32 × Int32 × Int32 × Int32 × Int32 × Int32 × Int32 × (Nat → Int32)} (h : xTok textSize q_41.2.2.2.1 q_41.2.2.2.2.1) (g : ¬ q_41.1 = 0 → n0.toInt < q_41.2.2.2.2.1.toInt) : ¬ (sX9_statement_q_41 textSize start next token value error errorAt seen text told q_32 q_35 q_38 q_41).1 = 0 → n0.toInt < (sX9_statement_q_41 textSize start next token value error errorAt seen text told q_32 q_35 q_38 q_41).2.2.2.2.1.toInt := by
  unfold sX9_statement_q_41
  split
  · exact fun e => absurd rfl e
  · rename_i d
    exact x_gst_44 (x_setsT h) (fun hr => Int.lt_of_lt_of_le (g d) (x_setsGo h hr).2)
theorem x_gst_38 {n0 : Int32} {textSize : Int32} {start : Int32} {next : Int32} {token : Int32} {value : Int32} {error : Int32} {errorAt : Int32} {seen : Int32} {text : Nat → Int32} {told : Nat → Int32} {q_32 : Int32 × Int32 × Int32 × Int32 × Int32 × Int32 × Int32 × Int32} {q_35 : Int32 × Int32 × Int32 × Int32 × Int32 × Int32 × Int32 × (Nat → Int32)} {q_38 : Int32 × Int32 × Int32 × Int32 × Int32 × Int32 × Int32 × (Nat → Int32)} (h : xTok textSize q_38.2.2.2.1 q_38.2.2.2.2.1) (g : ¬ q_38.1 = 0 → n0.toInt < q_38.2.2.2.2.1.toInt) : ¬ (sX9_statement_q_38 textSize start next token value error errorAt seen text told q_32 q_35 q_38).1 = 0 → n0.toInt < (sX9_statement_q_38 textSize start next token value error errorAt seen text told q_32 q_35 q_38).2.2.2.2.1.toInt := by
  unfold sX9_statement_q_38
  split
  · exact fun e => absurd rfl e
  · rename_i d
    exact x_gst_41 (x_setsT h) (fun hr => Int.lt_of_lt_of_le (g d) (x_setsGo h hr).2)
theorem x_gst_35 {n0 : Int32} {textSize : Int32} {start : Int32} {next : Int32} {token : Int32} {value : Int32} {error : Int32} {errorAt : Int32} {seen : Int32} {text : Nat → Int32} {told : Nat → Int32} {q_32 : Int32 × Int32 × Int32 × Int32 × Int32 × Int32 × Int32 × Int32} {q_35 : Int32 × Int32 × Int32 × Int32 × Int32 × Int32 × Int32 × (Nat → Int32)} (h : xTok textSize q_35.2.2.2.1 q_35.2.2.2.2.1) (g : ¬ q_35.1 = 0 → n0.toInt < q_35.2.2.2.2.1.toInt) : ¬ (sX9_statement_q_35 textSize start next token value error errorAt seen text told q_32 q_35).1 = 0 → n0.toInt < (sX9_statement_q_35 textSize start next token value error errorAt seen text told q_32 q_35).2.2.2.2.1.toInt := by
  unfold sX9_statement_q_35
  split
  · exact fun e => absurd rfl e
  · rename_i d
    exact x_gst_38 (x_setsT h) (fun hr => Int.lt_of_lt_of_le (g d) (x_setsGo h hr).2)
theorem x_gst_32 {n0 : Int32} {textSize : Int32} {start : Int32} {next : Int32} {token : Int32} {value : Int32} {error : Int32} {errorAt : Int32} {seen : Int32} {text : Nat → Int32} {told : Nat → Int32} {q_32 : Int32 × Int32 × Int32 × Int32 × Int32 × Int32 × Int32 × Int32} (h : xTok textSize q_32.2.2.2.1 q_32.2.2.2.2.1) (g : ¬ q_32.1 = 0 → xGo n0 q_32.2.2.2.2.1 q_32.2.2.2.2.2.1) : ¬ (sX9_statement_q_32 textSize start next token value error errorAt seen text told q_32).1 = 0 → n0.toInt < (sX9_statement_q_32 textSize start next token value error errorAt seen text told q_32).2.2.2.2.1.toInt := by
  unfold sX9_statement_q_32
  split
  · exact fun e => absurd rfl e
  · rename_i d
    exact x_gst_35 (x_setsT h) (fun hr => Int.lt_of_lt_of_le ((g d).2 (by rw [(x_setsGo h hr).1]; decide)) (x_setsGo h hr).2)
theorem x_gst_50 {n0 : Int32} {textSize : Int32} {start : Int32} {next : Int32} {token : Int32} {value : Int32} {error : Int32} {errorAt : Int32} {seen : Int32} {text : Nat → Int32} {told : Nat → Int32} {q_47 : Int32 × Int32 × Int32 × Int32 × Int32 × Int32 × Int32 × Int32} {q_50 : Int32 × Int32 × Int32 × Int32 × Int32 × Int32 × Int32 × (Nat → Int32)} (h : xTok textSize q_50.2.2.2.1 q_50.2.2.2.2.1) (g : ¬ q_50.1 = 0 → n0.toInt < q_50.2.2.2.2.1.toInt) : ¬ (sX9_statement_q_50 textSize start next token value error errorAt seen text told q_47 q_50).1 = 0 → n0.toInt < (sX9_statement_q_50 textSize start next token value error errorAt seen text told q_47 q_50).2.2.2.2.1.toInt := by
  unfold sX9_statement_q_50
  split
  · exact fun e => absurd rfl e
  · rename_i d
    exact fun _ => g d
theorem x_gst_47 {n0 : Int32} {textSize : Int32} {start : Int32} {next : Int32} {token : Int32} {value : Int32} {error : Int32} {errorAt : Int32} {seen : Int32} {text : Nat → Int32} {told : Nat → Int32} {q_47 : Int32 × Int32 × Int32 × Int32 × Int32 × Int32 × Int32 × Int32} (h : xTok textSize q_47.2.2.2.1 q_47.2.2.2.2.1) (g : ¬ q_47.1 = 0 → xGo n0 q_47.2.2.2.2.1 q_47.2.2.2.2.2.1) : ¬ (sX9_statement_q_47 textSize start next token value error errorAt seen text told q_47).1 = 0 → n0.toInt < (sX9_statement_q_47 textSize start next token value error errorAt seen text told q_47).2.2.2.2.1.toInt := by
  unfold sX9_statement_q_47
  split
  · exact fun e => absurd rfl e
  · rename_i d
    exact x_gst_50 (x_gainsT h) (fun hr => Int.lt_of_lt_of_le ((g d).2 (by rw [(x_gainsGo h hr).1]; decide)) (x_gainsGo h hr).2)
theorem x_gst_56 {n0 : Int32} {textSize : Int32} {start : Int32} {next : Int32} {token : Int32} {value : Int32} {error : Int32} {errorAt : Int32} {seen : Int32} {text : Nat → Int32} {told : Nat → Int32} {q_53 : Int32 × Int32 × Int32 × Int32 × Int32 × Int32 × Int32 × Int32} {q_56 : Int32 × Int32 × Int32 × Int32 × Int32 × Int32 × Int32 × (Nat → Int32)} (h : xTok textSize q_56.2.2.2.1 q_56.2.2.2.2.1) (g : ¬ q_56.1 = 0 → n0.toInt < q_56.2.2.2.2.1.toInt) : ¬ (sX9_statement_q_56 textSize start next token value error errorAt seen text told q_53 q_56).1 = 0 → n0.toInt < (sX9_statement_q_56 textSize start next token value error errorAt seen text told q_53 q_56).2.2.2.2.1.toInt := by
  unfold sX9_statement_q_56
  split
  · exact fun e => absurd rfl e
  · rename_i d
    exact fun _ => g d
theorem x_gst_53 {n0 : Int32} {textSize : Int32} {start : Int32} {next : Int32} {token : Int32} {value : Int32} {error : Int32} {errorAt : Int32} {seen : Int32} {text : Nat → Int32} {told : Nat → Int32} {q_53 : Int32 × Int32 × Int32 × Int32 × Int32 × Int32 × Int32 × Int32} (h : xTok textSize q_53.2.2.2.1 q_53.2.2.2.2.1) (g : ¬ q_53.1 = 0 → xGo n0 q_53.2.2.2.2.1 q_53.2.2.2.2.2.1) : ¬ (sX9_statement_q_53 textSize start next token value error errorAt seen text told q_53).1 = 0 → n0.toInt < (sX9_statement_q_53 textSize start next token value error errorAt seen text told q_53).2.2.2.2.1.toInt := by
  unfold sX9_statement_q_53
  split
  · exact fun e => absurd rfl e
  · rename_i d
    exact x_gst_56 (x_setsT h) (fun hr => Int.lt_of_lt_of_le ((g d).2 (by rw [(x_setsGo h hr).1]; decide)) (x_setsGo h hr).2)
theorem x_gst_65 {n0 : Int32} {textSize : Int32} {start : Int32} {next : Int32} {token : Int32} {value : Int32} {error : Int32} {errorAt : Int32} {seen : Int32} {text : Nat → Int32} {told : Nat → Int32} {q_59 : Int32 × Int32 × Int32 × Int32 × Int32 × Int32 × Int32 × Int32} {q_62 : Int32 × Int32 × Int32 × Int32 × Int32 × Int32 × Int32 × (Nat → Int32)} {q_65 : Int32 × Int32 × Int32 × Int32 × Int32 × Int32 × Int32 × (Nat → Int32)} (h : xTok textSize q_65.2.2.2.1 q_65.2.2.2.2.1) (g : ¬ q_65.1 = 0 → n0.toInt < q_65.2.2.2.2.1.toInt) : ¬ (sX9_statement_q_65 textSize start next token value error errorAt seen text told q_59 q_62 q_65).1 = 0 → n0.toInt < (sX9_statement_q_65 textSize start next token value error errorAt seen text told q_59 q_62 q_65).2.2.2.2.1.toInt := by
  unfold sX9_statement_q_65
  split
  · exact fun e => absurd rfl e
  · rename_i d
    exact fun _ => g d
theorem x_gst_62 {n0 : Int32} {textSize : Int32} {start : Int32} {next : Int32} {token : Int32} {value : Int32} {error : Int32} {errorAt : Int32} {seen : Int32} {text : Nat → Int32} {told : Nat → Int32} {q_59 : Int32 × Int32 × Int32 × Int32 × Int32 × Int32 × Int32 × Int32} {q_62 : Int32 × Int32 × Int32 × Int32 × Int32 × Int32 × Int32 × (Nat → Int32)} (h : xTok textSize q_62.2.2.2.1 q_62.2.2.2.2.1) (g : ¬ q_62.1 = 0 → n0.toInt < q_62.2.2.2.2.1.toInt) : ¬ (sX9_statement_q_62 textSize start next token value error errorAt seen text told q_59 q_62).1 = 0 → n0.toInt < (sX9_statement_q_62 textSize start next token value error errorAt seen text told q_59 q_62).2.2.2.2.1.toInt := by
  unfold sX9_statement_q_62
  split
  · exact fun e => absurd rfl e
  · rename_i d
    exact x_gst_65 (x_setsT h) (fun hr => Int.lt_of_lt_of_le (g d) (x_setsGo h hr).2)
theorem x_gst_59 {n0 : Int32} {textSize : Int32} {start : Int32} {next : Int32} {token : Int32} {value : Int32} {error : Int32} {errorAt : Int32} {seen : Int32} {text : Nat → Int32} {told : Nat → Int32} {q_59 : Int32 × Int32 × Int32 × Int32 × Int32 × Int32 × Int32 × Int32} (h : xTok textSize q_59.2.2.2.1 q_59.2.2.2.2.1) (g : ¬ q_59.1 = 0 → xGo n0 q_59.2.2.2.2.1 q_59.2.2.2.2.2.1) : ¬ (sX9_statement_q_59 textSize start next token value error errorAt seen text told q_59).1 = 0 → n0.toInt < (sX9_statement_q_59 textSize start next token value error errorAt seen text told q_59).2.2.2.2.1.toInt := by
  unfold sX9_statement_q_59
  split
  · exact fun e => absurd rfl e
  · rename_i d
    exact x_gst_62 (x_twoT h) (fun hr => Int.lt_of_lt_of_le ((g d).2 (by rw [(x_twoGo h hr).1]; decide)) (x_twoGo h hr).2)
theorem x_gst_71 {n0 : Int32} {textSize : Int32} {start : Int32} {next : Int32} {token : Int32} {value : Int32} {error : Int32} {errorAt : Int32} {seen : Int32} {text : Nat → Int32} {told : Nat → Int32} {q_68 : Int32 × Int32 × Int32 × Int32 × Int32 × Int32 × Int32 × Int32} {q_71 : Int32 × Int32 × Int32 × Int32 × Int32 × Int32 × Int32 × (Nat → Int32)} (h : xTok textSize q_71.2.2.2.1 q_71.2.2.2.2.1) (g : ¬ q_71.1 = 0 → n0.toInt < q_71.2.2.2.2.1.toInt) : ¬ (sX9_statement_q_71 textSize start next token value error errorAt seen text told q_68 q_71).1 = 0 → n0.toInt < (sX9_statement_q_71 textSize start next token value error errorAt seen text told q_68 q_71).2.2.2.2.1.toInt := by
  unfold sX9_statement_q_71
  split
  · exact fun e => absurd rfl e
  · rename_i d
    exact fun _ => g d
theorem x_gst_68 {n0 : Int32} {textSize : Int32} {start : Int32} {next : Int32} {token : Int32} {value : Int32} {error : Int32} {errorAt : Int32} {seen : Int32} {text : Nat → Int32} {told : Nat → Int32} {q_68 : Int32 × Int32 × Int32 × Int32 × Int32 × Int32 × Int32 × Int32} (h : xTok textSize q_68.2.2.2.1 q_68.2.2.2.2.1) (g : ¬ q_68.1 = 0 → xGo n0 q_68.2.2.2.2.1 q_68.2.2.2.2.2.1) : ¬ (sX9_statement_q_68 textSize start next token value error errorAt seen text told q_68).1 = 0 → n0.toInt < (sX9_statement_q_68 textSize start next token value error errorAt seen text told q_68).2.2.2.2.1.toInt := by
  unfold sX9_statement_q_68
  split
  · exact fun e => absurd rfl e
  · rename_i d
    exact x_gst_71 (x_twoT h) (fun hr => Int.lt_of_lt_of_le ((g d).2 (by rw [(x_twoGo h hr).1]; decide)) (x_twoGo h hr).2)
theorem x_gst_77 {n0 : Int32} {textSize : Int32} {start : Int32} {next : Int32} {token : Int32} {value : Int32} {error : Int32} {errorAt : Int32} {seen : Int32} {text : Nat → Int32} {told : Nat → Int32} {q_74 : Int32 × Int32 × Int32 × Int32 × Int32 × Int32 × Int32 × Int32} {q_77 : Int32 × Int32 × Int32 × Int32 × Int32 × Int32 × Int32 × (Nat → Int32)} (h : xTok textSize q_77.2.2.2.1 q_77.2.2.2.2.1) (g : ¬ q_77.1 = 0 → n0.toInt < q_77.2.2.2.2.1.toInt) : ¬ (sX9_statement_q_77 textSize start next token value error errorAt seen text told q_74 q_77).1 = 0 → n0.toInt < (sX9_statement_q_77 textSize start next token value error errorAt seen text told q_74 q_77).2.2.2.2.1.toInt := by
  unfold sX9_statement_q_77
  split
  · exact fun e => absurd rfl e
  · rename_i d
    exact fun _ => g d
theorem x_gst_74 {n0 : Int32} {textSize : Int32} {start : Int32} {next : Int32} {token : Int32} {value : Int32} {error : Int32} {errorAt : Int32} {seen : Int32} {text : Nat → Int32} {told : Nat → Int32} {q_74 : Int32 × Int32 × Int32 × Int32 × Int32 × Int32 × Int32 × Int32} (h : xTok textSize q_74.2.2.2.1 q_74.2.2.2.2.1) (g : ¬ q_74.1 = 0 → xGo n0 q_74.2.2.2.2.1 q_74.2.2.2.2.2.1) : ¬ (sX9_statement_q_74 textSize start next token value error errorAt seen text told q_74).1 = 0 → n0.toInt < (sX9_statement_q_74 textSize start next token value error errorAt seen text told q_74).2.2.2.2.1.toInt := by
  unfold sX9_statement_q_74
  split
  · exact fun e => absurd rfl e
  · rename_i d
    exact x_gst_77 (x_twoT h) (fun hr => Int.lt_of_lt_of_le ((g d).2 (by rw [(x_twoGo h hr).1]; decide)) (x_twoGo h hr).2)
theorem x_gst_83 {n0 : Int32} {textSize : Int32} {start : Int32} {next : Int32} {token : Int32} {value : Int32} {error : Int32} {errorAt : Int32} {seen : Int32} {text : Nat → Int32} {told : Nat → Int32} {q_80 : Int32 × Int32 × Int32 × Int32 × Int32 × Int32 × Int32 × Int32} {q_83 : Int32 × Int32 × Int32 × Int32 × Int32 × Int32 × Int32 × (Nat → Int32)} (h : xTok textSize q_83.2.2.2.1 q_83.2.2.2.2.1) (g : ¬ q_83.1 = 0 → n0.toInt < q_83.2.2.2.2.1.toInt) : ¬ (sX9_statement_q_83 textSize start next token value error errorAt seen text told q_80 q_83).1 = 0 → n0.toInt < (sX9_statement_q_83 textSize start next token value error errorAt seen text told q_80 q_83).2.2.2.2.1.toInt := by
  unfold sX9_statement_q_83
  split
  · exact fun e => absurd rfl e
  · rename_i d
    exact fun _ => g d
theorem x_gst_80 {n0 : Int32} {textSize : Int32} {start : Int32} {next : Int32} {token : Int32} {value : Int32} {error : Int32} {errorAt : Int32} {seen : Int32} {text : Nat → Int32} {told : Nat → Int32} {q_80 : Int32 × Int32 × Int32 × Int32 × Int32 × Int32 × Int32 × Int32} (h : xTok textSize q_80.2.2.2.1 q_80.2.2.2.2.1) (g : ¬ q_80.1 = 0 → xGo n0 q_80.2.2.2.2.1 q_80.2.2.2.2.2.1) : ¬ (sX9_statement_q_80 textSize start next token value error errorAt seen text told q_80).1 = 0 → n0.toInt < (sX9_statement_q_80 textSize start next token value error errorAt seen text told q_80).2.2.2.2.1.toInt := by
  unfold sX9_statement_q_80
  split
  · exact fun e => absurd rfl e
  · rename_i d
    exact x_gst_83 (x_setsT h) (fun hr => Int.lt_of_lt_of_le ((g d).2 (by rw [(x_setsGo h hr).1]; decide)) (x_setsGo h hr).2)
theorem x_statementGo {t s n tk v er ea sn : Int32} {text told : Nat → Int32} (ht : xTok t s n) : ¬ (sX9_statement t s n tk v er ea sn text told).1 = 0 → n.toInt < (sX9_statement t s n tk v er ea sn text told).2.2.2.2.1.toInt := by
  unfold sX9_statement
  split
  rotate_left
  · exact x_gst_80 (x_onceT ht) (x_onceGo ht)
  split
  rotate_left
  · exact x_gst_74 (x_onceT ht) (x_onceGo ht)
  split
  rotate_left
  · exact x_gst_68 (x_onceT ht) (x_onceGo ht)
  split
  rotate_left
  · exact x_gst_59 (x_onceT ht) (x_onceGo ht)
  split
  rotate_left
  · exact x_gst_53 (x_onceT ht) (x_onceGo ht)
  split
  rotate_left
  · exact x_gst_47 (x_onceT ht) (x_onceGo ht)
  split
  rotate_left
  · exact x_gst_32 (x_onceT ht) (x_onceGo ht)
  split
  rotate_left
  · exact x_gst_23 (x_onceT ht) (x_onceGo ht)
  split
  rotate_left
  · exact x_gst_11 (x_onceT ht) (x_onceGo ht)
  exact fun e => absurd rfl e
