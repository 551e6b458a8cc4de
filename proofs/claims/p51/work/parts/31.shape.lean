/-! THE SHAPE: the cells that are made once, by their addresses. Printed by wip/whole/src/gen_shape.py -/
def pl_kt : List (Nat × Nat × Nat) := [(0, 99, 0), (1, 10, 0), (2, 23, 6), (3, 24, 4), (8, 29, 20), (9, 27, 8), (10, 25, 10), (11, 26, 8), (12, 7, 0), (13, 20, 8), (14, 20, 21), (15, 20, 1344), (16, 20, 64), (17, 22, 256), (18, 20, 8), (19, 20, 8), (20, 20, 8), (21, 4, 0), (22, 20, 10), (23, 20, 10), (24, 20, 10240), (25, 20, 10240), (26, 3, 0), (27, 29, 10), (28, 20, 10), (29, 20, 1024), (30, 20, 1024), (31, 20, 1024), (32, 20, 6), (33, 11, 0), (34, 20, 6), (35, 20, 6), (36, 20, 288), (37, 20, 48), (38, 20, 4), (39, 21, 480), (40, 20, 40), (41, 20, 16), (42, 20, 24), (43, 20, 40), (44, 20, 16), (45, 20, 24), (46, 20, 140), (47, 20, 256), (48, 20, 8), (49, 20, 8), (50, 20, 64), (51, 20, 24), (52, 20, 2304), (53, 20, 40), (54, 20, 10240), (55, 20, 10240), (56, 20, 20), (57, 20, 10240), (58, 22, 1024), (59, 20, 1024), (60, 20, 408)]
def pl_rt : List (Nat × Nat × Nat) := [(1, 0, 2), (1, 1, 3), (1, 4, 8), (1, 6, 9), (1, 8, 10), (1, 10, 11), (1, 12, 12), (1, 13, 21), (1, 14, 26), (1, 18, 32), (12, 2, 13), (12, 3, 14), (12, 4, 15), (12, 8, 16), (12, 9, 17), (12, 10, 18), (12, 11, 19), (12, 12, 20), (21, 3, 22), (21, 5, 23), (21, 6, 24), (21, 7, 25), (26, 0, 27), (26, 2, 28), (26, 3, 29), (26, 4, 30), (26, 5, 31), (33, 1, 34), (33, 4, 35), (33, 5, 36), (33, 6, 37), (33, 7, 38), (33, 8, 39), (33, 12, 40), (33, 13, 41), (33, 14, 42), (33, 20, 43), (33, 21, 44), (33, 22, 45), (33, 25, 46), (33, 26, 47), (33, 27, 48), (33, 29, 49), (33, 31, 50), (33, 35, 51), (33, 36, 52), (33, 38, 53), (33, 39, 54), (33, 40, 55), (33, 42, 56), (33, 43, 57), (33, 44, 58), (33, 45, 59), (33, 47, 60)]
def pl_Sh (m : ml_M) : Prop := (∀ q ∈ pl_kt, ml_K m q.1 = q.2) ∧ (∀ q ∈ pl_rt, ml_R m q.1 q.2.1 = q.2.2) ∧ 60 ≤ ml_n m
theorem pl_kt_le : ∀ q ∈ pl_kt, q.1 ≤ 60 := by decide
theorem pl_Sh.to {m m1 : ml_M} (h : pl_Sh m) (hn : ml_n m ≤ ml_n m1) (hK : ∀ a, a ≤ 60 → ml_K m1 a = ml_K m a) (hR : ∀ q ∈ pl_rt, ml_R m1 q.1 q.2.1 = ml_R m q.1 q.2.1) : pl_Sh m1 :=
  ⟨fun q hq => by rw [hK _ (pl_kt_le q hq)]; exact h.1 q hq, fun q hq => by rw [hR q hq]; exact h.2.1 q hq, by have := h.2.2; omega⟩
theorem pl_k0 {m : ml_M} (h : pl_Sh m) : ml_K m 0 = (99, 0) := h.1 (0, 99, 0) (by decide)
theorem pl_k1 {m : ml_M} (h : pl_Sh m) : ml_K m 1 = (10, 0) := h.1 (1, 10, 0) (by decide)
theorem pl_k2 {m : ml_M} (h : pl_Sh m) : ml_K m 2 = (23, 6) := h.1 (2, 23, 6) (by decide)
theorem pl_k3 {m : ml_M} (h : pl_Sh m) : ml_K m 3 = (24, 4) := h.1 (3, 24, 4) (by decide)
theorem pl_k8 {m : ml_M} (h : pl_Sh m) : ml_K m 8 = (29, 20) := h.1 (8, 29, 20) (by decide)
theorem pl_k9 {m : ml_M} (h : pl_Sh m) : ml_K m 9 = (27, 8) := h.1 (9, 27, 8) (by decide)
theorem pl_k10 {m : ml_M} (h : pl_Sh m) : ml_K m 10 = (25, 10) := h.1 (10, 25, 10) (by decide)
theorem pl_k11 {m : ml_M} (h : pl_Sh m) : ml_K m 11 = (26, 8) := h.1 (11, 26, 8) (by decide)
theorem pl_k12 {m : ml_M} (h : pl_Sh m) : ml_K m 12 = (7, 0) := h.1 (12, 7, 0) (by decide)
theorem pl_k13 {m : ml_M} (h : pl_Sh m) : ml_K m 13 = (20, 8) := h.1 (13, 20, 8) (by decide)
theorem pl_k14 {m : ml_M} (h : pl_Sh m) : ml_K m 14 = (20, 21) := h.1 (14, 20, 21) (by decide)
theorem pl_k15 {m : ml_M} (h : pl_Sh m) : ml_K m 15 = (20, 1344) := h.1 (15, 20, 1344) (by decide)
theorem pl_k16 {m : ml_M} (h : pl_Sh m) : ml_K m 16 = (20, 64) := h.1 (16, 20, 64) (by decide)
theorem pl_k17 {m : ml_M} (h : pl_Sh m) : ml_K m 17 = (22, 256) := h.1 (17, 22, 256) (by decide)
theorem pl_k18 {m : ml_M} (h : pl_Sh m) : ml_K m 18 = (20, 8) := h.1 (18, 20, 8) (by decide)
theorem pl_k19 {m : ml_M} (h : pl_Sh m) : ml_K m 19 = (20, 8) := h.1 (19, 20, 8) (by decide)
theorem pl_k20 {m : ml_M} (h : pl_Sh m) : ml_K m 20 = (20, 8) := h.1 (20, 20, 8) (by decide)
theorem pl_k21 {m : ml_M} (h : pl_Sh m) : ml_K m 21 = (4, 0) := h.1 (21, 4, 0) (by decide)
theorem pl_k22 {m : ml_M} (h : pl_Sh m) : ml_K m 22 = (20, 10) := h.1 (22, 20, 10) (by decide)
theorem pl_k23 {m : ml_M} (h : pl_Sh m) : ml_K m 23 = (20, 10) := h.1 (23, 20, 10) (by decide)
theorem pl_k24 {m : ml_M} (h : pl_Sh m) : ml_K m 24 = (20, 10240) := h.1 (24, 20, 10240) (by decide)
theorem pl_k25 {m : ml_M} (h : pl_Sh m) : ml_K m 25 = (20, 10240) := h.1 (25, 20, 10240) (by decide)
theorem pl_k26 {m : ml_M} (h : pl_Sh m) : ml_K m 26 = (3, 0) := h.1 (26, 3, 0) (by decide)
theorem pl_k27 {m : ml_M} (h : pl_Sh m) : ml_K m 27 = (29, 10) := h.1 (27, 29, 10) (by decide)
theorem pl_k28 {m : ml_M} (h : pl_Sh m) : ml_K m 28 = (20, 10) := h.1 (28, 20, 10) (by decide)
theorem pl_k29 {m : ml_M} (h : pl_Sh m) : ml_K m 29 = (20, 1024) := h.1 (29, 20, 1024) (by decide)
theorem pl_k30 {m : ml_M} (h : pl_Sh m) : ml_K m 30 = (20, 1024) := h.1 (30, 20, 1024) (by decide)
theorem pl_k31 {m : ml_M} (h : pl_Sh m) : ml_K m 31 = (20, 1024) := h.1 (31, 20, 1024) (by decide)
theorem pl_k32 {m : ml_M} (h : pl_Sh m) : ml_K m 32 = (20, 6) := h.1 (32, 20, 6) (by decide)
theorem pl_k33 {m : ml_M} (h : pl_Sh m) : ml_K m 33 = (11, 0) := h.1 (33, 11, 0) (by decide)
theorem pl_k34 {m : ml_M} (h : pl_Sh m) : ml_K m 34 = (20, 6) := h.1 (34, 20, 6) (by decide)
theorem pl_k35 {m : ml_M} (h : pl_Sh m) : ml_K m 35 = (20, 6) := h.1 (35, 20, 6) (by decide)
theorem pl_k36 {m : ml_M} (h : pl_Sh m) : ml_K m 36 = (20, 288) := h.1 (36, 20, 288) (by decide)
theorem pl_k37 {m : ml_M} (h : pl_Sh m) : ml_K m 37 = (20, 48) := h.1 (37, 20, 48) (by decide)
theorem pl_k38 {m : ml_M} (h : pl_Sh m) : ml_K m 38 = (20, 4) := h.1 (38, 20, 4) (by decide)
theorem pl_k39 {m : ml_M} (h : pl_Sh m) : ml_K m 39 = (21, 480) := h.1 (39, 21, 480) (by decide)
theorem pl_k40 {m : ml_M} (h : pl_Sh m) : ml_K m 40 = (20, 40) := h.1 (40, 20, 40) (by decide)
theorem pl_k41 {m : ml_M} (h : pl_Sh m) : ml_K m 41 = (20, 16) := h.1 (41, 20, 16) (by decide)
theorem pl_k42 {m : ml_M} (h : pl_Sh m) : ml_K m 42 = (20, 24) := h.1 (42, 20, 24) (by decide)
theorem pl_k43 {m : ml_M} (h : pl_Sh m) : ml_K m 43 = (20, 40) := h.1 (43, 20, 40) (by decide)
theorem pl_k44 {m : ml_M} (h : pl_Sh m) : ml_K m 44 = (20, 16) := h.1 (44, 20, 16) (by decide)
theorem pl_k45 {m : ml_M} (h : pl_Sh m) : ml_K m 45 = (20, 24) := h.1 (45, 20, 24) (by decide)
theorem pl_k46 {m : ml_M} (h : pl_Sh m) : ml_K m 46 = (20, 140) := h.1 (46, 20, 140) (by decide)
theorem pl_k47 {m : ml_M} (h : pl_Sh m) : ml_K m 47 = (20, 256) := h.1 (47, 20, 256) (by decide)
theorem pl_k48 {m : ml_M} (h : pl_Sh m) : ml_K m 48 = (20, 8) := h.1 (48, 20, 8) (by decide)
theorem pl_k49 {m : ml_M} (h : pl_Sh m) : ml_K m 49 = (20, 8) := h.1 (49, 20, 8) (by decide)
theorem pl_k50 {m : ml_M} (h : pl_Sh m) : ml_K m 50 = (20, 64) := h.1 (50, 20, 64) (by decide)
theorem pl_k51 {m : ml_M} (h : pl_Sh m) : ml_K m 51 = (20, 24) := h.1 (51, 20, 24) (by decide)
theorem pl_k52 {m : ml_M} (h : pl_Sh m) : ml_K m 52 = (20, 2304) := h.1 (52, 20, 2304) (by decide)
theorem pl_k53 {m : ml_M} (h : pl_Sh m) : ml_K m 53 = (20, 40) := h.1 (53, 20, 40) (by decide)
theorem pl_k54 {m : ml_M} (h : pl_Sh m) : ml_K m 54 = (20, 10240) := h.1 (54, 20, 10240) (by decide)
theorem pl_k55 {m : ml_M} (h : pl_Sh m) : ml_K m 55 = (20, 10240) := h.1 (55, 20, 10240) (by decide)
theorem pl_k56 {m : ml_M} (h : pl_Sh m) : ml_K m 56 = (20, 20) := h.1 (56, 20, 20) (by decide)
theorem pl_k57 {m : ml_M} (h : pl_Sh m) : ml_K m 57 = (20, 10240) := h.1 (57, 20, 10240) (by decide)
theorem pl_k58 {m : ml_M} (h : pl_Sh m) : ml_K m 58 = (22, 1024) := h.1 (58, 22, 1024) (by decide)
theorem pl_k59 {m : ml_M} (h : pl_Sh m) : ml_K m 59 = (20, 1024) := h.1 (59, 20, 1024) (by decide)
theorem pl_k60 {m : ml_M} (h : pl_Sh m) : ml_K m 60 = (20, 408) := h.1 (60, 20, 408) (by decide)
theorem pl_r1_0 {m : ml_M} (h : pl_Sh m) : ml_R m 1 0 = 2 := h.2.1 (1, 0, 2) (by decide)
theorem pl_r1_1 {m : ml_M} (h : pl_Sh m) : ml_R m 1 1 = 3 := h.2.1 (1, 1, 3) (by decide)
theorem pl_r1_4 {m : ml_M} (h : pl_Sh m) : ml_R m 1 4 = 8 := h.2.1 (1, 4, 8) (by decide)
theorem pl_r1_6 {m : ml_M} (h : pl_Sh m) : ml_R m 1 6 = 9 := h.2.1 (1, 6, 9) (by decide)
theorem pl_r1_8 {m : ml_M} (h : pl_Sh m) : ml_R m 1 8 = 10 := h.2.1 (1, 8, 10) (by decide)
theorem pl_r1_10 {m : ml_M} (h : pl_Sh m) : ml_R m 1 10 = 11 := h.2.1 (1, 10, 11) (by decide)
theorem pl_r1_12 {m : ml_M} (h : pl_Sh m) : ml_R m 1 12 = 12 := h.2.1 (1, 12, 12) (by decide)
theorem pl_r1_13 {m : ml_M} (h : pl_Sh m) : ml_R m 1 13 = 21 := h.2.1 (1, 13, 21) (by decide)
theorem pl_r1_14 {m : ml_M} (h : pl_Sh m) : ml_R m 1 14 = 26 := h.2.1 (1, 14, 26) (by decide)
theorem pl_r1_18 {m : ml_M} (h : pl_Sh m) : ml_R m 1 18 = 32 := h.2.1 (1, 18, 32) (by decide)
theorem pl_r12_2 {m : ml_M} (h : pl_Sh m) : ml_R m 12 2 = 13 := h.2.1 (12, 2, 13) (by decide)
theorem pl_r12_3 {m : ml_M} (h : pl_Sh m) : ml_R m 12 3 = 14 := h.2.1 (12, 3, 14) (by decide)
theorem pl_r12_4 {m : ml_M} (h : pl_Sh m) : ml_R m 12 4 = 15 := h.2.1 (12, 4, 15) (by decide)
theorem pl_r12_8 {m : ml_M} (h : pl_Sh m) : ml_R m 12 8 = 16 := h.2.1 (12, 8, 16) (by decide)
theorem pl_r12_9 {m : ml_M} (h : pl_Sh m) : ml_R m 12 9 = 17 := h.2.1 (12, 9, 17) (by decide)
theorem pl_r12_10 {m : ml_M} (h : pl_Sh m) : ml_R m 12 10 = 18 := h.2.1 (12, 10, 18) (by decide)
theorem pl_r12_11 {m : ml_M} (h : pl_Sh m) : ml_R m 12 11 = 19 := h.2.1 (12, 11, 19) (by decide)
theorem pl_r12_12 {m : ml_M} (h : pl_Sh m) : ml_R m 12 12 = 20 := h.2.1 (12, 12, 20) (by decide)
theorem pl_r21_3 {m : ml_M} (h : pl_Sh m) : ml_R m 21 3 = 22 := h.2.1 (21, 3, 22) (by decide)
theorem pl_r21_5 {m : ml_M} (h : pl_Sh m) : ml_R m 21 5 = 23 := h.2.1 (21, 5, 23) (by decide)
theorem pl_r21_6 {m : ml_M} (h : pl_Sh m) : ml_R m 21 6 = 24 := h.2.1 (21, 6, 24) (by decide)
theorem pl_r21_7 {m : ml_M} (h : pl_Sh m) : ml_R m 21 7 = 25 := h.2.1 (21, 7, 25) (by decide)
theorem pl_r26_0 {m : ml_M} (h : pl_Sh m) : ml_R m 26 0 = 27 := h.2.1 (26, 0, 27) (by decide)
theorem pl_r26_2 {m : ml_M} (h : pl_Sh m) : ml_R m 26 2 = 28 := h.2.1 (26, 2, 28) (by decide)
theorem pl_r26_3 {m : ml_M} (h : pl_Sh m) : ml_R m 26 3 = 29 := h.2.1 (26, 3, 29) (by decide)
theorem pl_r26_4 {m : ml_M} (h : pl_Sh m) : ml_R m 26 4 = 30 := h.2.1 (26, 4, 30) (by decide)
theorem pl_r26_5 {m : ml_M} (h : pl_Sh m) : ml_R m 26 5 = 31 := h.2.1 (26, 5, 31) (by decide)
theorem pl_r33_1 {m : ml_M} (h : pl_Sh m) : ml_R m 33 1 = 34 := h.2.1 (33, 1, 34) (by decide)
theorem pl_r33_4 {m : ml_M} (h : pl_Sh m) : ml_R m 33 4 = 35 := h.2.1 (33, 4, 35) (by decide)
theorem pl_r33_5 {m : ml_M} (h : pl_Sh m) : ml_R m 33 5 = 36 := h.2.1 (33, 5, 36) (by decide)
theorem pl_r33_6 {m : ml_M} (h : pl_Sh m) : ml_R m 33 6 = 37 := h.2.1 (33, 6, 37) (by decide)
theorem pl_r33_7 {m : ml_M} (h : pl_Sh m) : ml_R m 33 7 = 38 := h.2.1 (33, 7, 38) (by decide)
theorem pl_r33_8 {m : ml_M} (h : pl_Sh m) : ml_R m 33 8 = 39 := h.2.1 (33, 8, 39) (by decide)
theorem pl_r33_12 {m : ml_M} (h : pl_Sh m) : ml_R m 33 12 = 40 := h.2.1 (33, 12, 40) (by decide)
theorem pl_r33_13 {m : ml_M} (h : pl_Sh m) : ml_R m 33 13 = 41 := h.2.1 (33, 13, 41) (by decide)
theorem pl_r33_14 {m : ml_M} (h : pl_Sh m) : ml_R m 33 14 = 42 := h.2.1 (33, 14, 42) (by decide)
theorem pl_r33_20 {m : ml_M} (h : pl_Sh m) : ml_R m 33 20 = 43 := h.2.1 (33, 20, 43) (by decide)
theorem pl_r33_21 {m : ml_M} (h : pl_Sh m) : ml_R m 33 21 = 44 := h.2.1 (33, 21, 44) (by decide)
theorem pl_r33_22 {m : ml_M} (h : pl_Sh m) : ml_R m 33 22 = 45 := h.2.1 (33, 22, 45) (by decide)
theorem pl_r33_25 {m : ml_M} (h : pl_Sh m) : ml_R m 33 25 = 46 := h.2.1 (33, 25, 46) (by decide)
theorem pl_r33_26 {m : ml_M} (h : pl_Sh m) : ml_R m 33 26 = 47 := h.2.1 (33, 26, 47) (by decide)
theorem pl_r33_27 {m : ml_M} (h : pl_Sh m) : ml_R m 33 27 = 48 := h.2.1 (33, 27, 48) (by decide)
theorem pl_r33_29 {m : ml_M} (h : pl_Sh m) : ml_R m 33 29 = 49 := h.2.1 (33, 29, 49) (by decide)
theorem pl_r33_31 {m : ml_M} (h : pl_Sh m) : ml_R m 33 31 = 50 := h.2.1 (33, 31, 50) (by decide)
theorem pl_r33_35 {m : ml_M} (h : pl_Sh m) : ml_R m 33 35 = 51 := h.2.1 (33, 35, 51) (by decide)
theorem pl_r33_36 {m : ml_M} (h : pl_Sh m) : ml_R m 33 36 = 52 := h.2.1 (33, 36, 52) (by decide)
theorem pl_r33_38 {m : ml_M} (h : pl_Sh m) : ml_R m 33 38 = 53 := h.2.1 (33, 38, 53) (by decide)
theorem pl_r33_39 {m : ml_M} (h : pl_Sh m) : ml_R m 33 39 = 54 := h.2.1 (33, 39, 54) (by decide)
theorem pl_r33_40 {m : ml_M} (h : pl_Sh m) : ml_R m 33 40 = 55 := h.2.1 (33, 40, 55) (by decide)
theorem pl_r33_42 {m : ml_M} (h : pl_Sh m) : ml_R m 33 42 = 56 := h.2.1 (33, 42, 56) (by decide)
theorem pl_r33_43 {m : ml_M} (h : pl_Sh m) : ml_R m 33 43 = 57 := h.2.1 (33, 43, 57) (by decide)
theorem pl_r33_44 {m : ml_M} (h : pl_Sh m) : ml_R m 33 44 = 58 := h.2.1 (33, 44, 58) (by decide)
theorem pl_r33_45 {m : ml_M} (h : pl_Sh m) : ml_R m 33 45 = 59 := h.2.1 (33, 45, 59) (by decide)
theorem pl_r33_47 {m : ml_M} (h : pl_Sh m) : ml_R m 33 47 = 60 := h.2.1 (33, 47, 60) (by decide)
theorem pl_l1 : (1 : Int32) = nI 1 := by
  have h : (1 : Int32) = nI 1 := rfl
  exact h
theorem pl_l2 : (2 : Int32) = nI 2 := by
  have h : (2 : Int32) = nI 2 := rfl
  exact h
theorem pl_l3 : (3 : Int32) = nI 3 := by
  have h : (3 : Int32) = nI 3 := rfl
  exact h
theorem pl_l4 : (4 : Int32) = nI 4 := by
  have h : (4 : Int32) = nI 4 := rfl
  exact h
theorem pl_l5 : (5 : Int32) = nI 5 := by
  have h : (5 : Int32) = nI 5 := rfl
  exact h
theorem pl_l6 : (6 : Int32) = nI 6 := by
  have h : (6 : Int32) = nI 6 := rfl
  exact h
theorem pl_l7 : (7 : Int32) = nI 7 := by
  have h : (7 : Int32) = nI 7 := rfl
  exact h
theorem pl_l8 : (8 : Int32) = nI 8 := by
  have h : (8 : Int32) = nI 8 := rfl
  exact h
theorem pl_l9 : (9 : Int32) = nI 9 := by
  have h : (9 : Int32) = nI 9 := rfl
  exact h
theorem pl_l10 : (10 : Int32) = nI 10 := by
  have h : (10 : Int32) = nI 10 := rfl
  exact h
theorem pl_l11 : (11 : Int32) = nI 11 := by
  have h : (11 : Int32) = nI 11 := rfl
  exact h
theorem pl_l12 : (12 : Int32) = nI 12 := by
  have h : (12 : Int32) = nI 12 := rfl
  exact h
theorem pl_l13 : (13 : Int32) = nI 13 := by
  have h : (13 : Int32) = nI 13 := rfl
  exact h
theorem pl_l14 : (14 : Int32) = nI 14 := by
  have h : (14 : Int32) = nI 14 := rfl
  exact h
theorem pl_l15 : (15 : Int32) = nI 15 := by
  have h : (15 : Int32) = nI 15 := rfl
  exact h
theorem pl_l16 : (16 : Int32) = nI 16 := by
  have h : (16 : Int32) = nI 16 := rfl
  exact h
theorem pl_l17 : (17 : Int32) = nI 17 := by
  have h : (17 : Int32) = nI 17 := rfl
  exact h
theorem pl_l18 : (18 : Int32) = nI 18 := by
  have h : (18 : Int32) = nI 18 := rfl
  exact h
theorem pl_l19 : (19 : Int32) = nI 19 := by
  have h : (19 : Int32) = nI 19 := rfl
  exact h
theorem pl_l20 : (20 : Int32) = nI 20 := by
  have h : (20 : Int32) = nI 20 := rfl
  exact h
theorem pl_l21 : (21 : Int32) = nI 21 := by
  have h : (21 : Int32) = nI 21 := rfl
  exact h
theorem pl_l22 : (22 : Int32) = nI 22 := by
  have h : (22 : Int32) = nI 22 := rfl
  exact h
theorem pl_l23 : (23 : Int32) = nI 23 := by
  have h : (23 : Int32) = nI 23 := rfl
  exact h
theorem pl_l24 : (24 : Int32) = nI 24 := by
  have h : (24 : Int32) = nI 24 := rfl
  exact h
theorem pl_l25 : (25 : Int32) = nI 25 := by
  have h : (25 : Int32) = nI 25 := rfl
  exact h
theorem pl_l26 : (26 : Int32) = nI 26 := by
  have h : (26 : Int32) = nI 26 := rfl
  exact h
theorem pl_l27 : (27 : Int32) = nI 27 := by
  have h : (27 : Int32) = nI 27 := rfl
  exact h
theorem pl_l28 : (28 : Int32) = nI 28 := by
  have h : (28 : Int32) = nI 28 := rfl
  exact h
theorem pl_l29 : (29 : Int32) = nI 29 := by
  have h : (29 : Int32) = nI 29 := rfl
  exact h
theorem pl_l30 : (30 : Int32) = nI 30 := by
  have h : (30 : Int32) = nI 30 := rfl
  exact h
theorem pl_l31 : (31 : Int32) = nI 31 := by
  have h : (31 : Int32) = nI 31 := rfl
  exact h
theorem pl_l32 : (32 : Int32) = nI 32 := by
  have h : (32 : Int32) = nI 32 := rfl
  exact h
theorem pl_l33 : (33 : Int32) = nI 33 := by
  have h : (33 : Int32) = nI 33 := rfl
  exact h
theorem pl_l34 : (34 : Int32) = nI 34 := by
  have h : (34 : Int32) = nI 34 := rfl
  exact h
theorem pl_l35 : (35 : Int32) = nI 35 := by
  have h : (35 : Int32) = nI 35 := rfl
  exact h
theorem pl_l36 : (36 : Int32) = nI 36 := by
  have h : (36 : Int32) = nI 36 := rfl
  exact h
theorem pl_l37 : (37 : Int32) = nI 37 := by
  have h : (37 : Int32) = nI 37 := rfl
  exact h
theorem pl_l38 : (38 : Int32) = nI 38 := by
  have h : (38 : Int32) = nI 38 := rfl
  exact h
theorem pl_l39 : (39 : Int32) = nI 39 := by
  have h : (39 : Int32) = nI 39 := rfl
  exact h
theorem pl_l40 : (40 : Int32) = nI 40 := by
  have h : (40 : Int32) = nI 40 := rfl
  exact h
theorem pl_l41 : (41 : Int32) = nI 41 := by
  have h : (41 : Int32) = nI 41 := rfl
  exact h
theorem pl_l42 : (42 : Int32) = nI 42 := by
  have h : (42 : Int32) = nI 42 := rfl
  exact h
theorem pl_l43 : (43 : Int32) = nI 43 := by
  have h : (43 : Int32) = nI 43 := rfl
  exact h
theorem pl_l44 : (44 : Int32) = nI 44 := by
  have h : (44 : Int32) = nI 44 := rfl
  exact h
theorem pl_l45 : (45 : Int32) = nI 45 := by
  have h : (45 : Int32) = nI 45 := rfl
  exact h
theorem pl_l46 : (46 : Int32) = nI 46 := by
  have h : (46 : Int32) = nI 46 := rfl
  exact h
theorem pl_l47 : (47 : Int32) = nI 47 := by
  have h : (47 : Int32) = nI 47 := rfl
  exact h
theorem pl_l48 : (48 : Int32) = nI 48 := by
  have h : (48 : Int32) = nI 48 := rfl
  exact h
theorem pl_l49 : (49 : Int32) = nI 49 := by
  have h : (49 : Int32) = nI 49 := rfl
  exact h
theorem pl_l50 : (50 : Int32) = nI 50 := by
  have h : (50 : Int32) = nI 50 := rfl
  exact h
theorem pl_l51 : (51 : Int32) = nI 51 := by
  have h : (51 : Int32) = nI 51 := rfl
  exact h
theorem pl_l52 : (52 : Int32) = nI 52 := by
  have h : (52 : Int32) = nI 52 := rfl
  exact h
theorem pl_l53 : (53 : Int32) = nI 53 := by
  have h : (53 : Int32) = nI 53 := rfl
  exact h
theorem pl_l54 : (54 : Int32) = nI 54 := by
  have h : (54 : Int32) = nI 54 := rfl
  exact h
theorem pl_l55 : (55 : Int32) = nI 55 := by
  have h : (55 : Int32) = nI 55 := rfl
  exact h
theorem pl_l56 : (56 : Int32) = nI 56 := by
  have h : (56 : Int32) = nI 56 := rfl
  exact h
theorem pl_l57 : (57 : Int32) = nI 57 := by
  have h : (57 : Int32) = nI 57 := rfl
  exact h
theorem pl_l58 : (58 : Int32) = nI 58 := by
  have h : (58 : Int32) = nI 58 := rfl
  exact h
theorem pl_l59 : (59 : Int32) = nI 59 := by
  have h : (59 : Int32) = nI 59 := rfl
  exact h
theorem pl_l60 : (60 : Int32) = nI 60 := by
  have h : (60 : Int32) = nI 60 := rfl
  exact h
theorem pl_l61 : (61 : Int32) = nI 61 := by
  have h : (61 : Int32) = nI 61 := rfl
  exact h
theorem pl_l62 : (62 : Int32) = nI 62 := by
  have h : (62 : Int32) = nI 62 := rfl
  exact h
theorem pl_l63 : (63 : Int32) = nI 63 := by
  have h : (63 : Int32) = nI 63 := rfl
  exact h
theorem pl_l64 : (64 : Int32) = nI 64 := by
  have h : (64 : Int32) = nI 64 := rfl
  exact h
theorem pl_l99 : (99 : Int32) = nI 99 := by
  have h : (99 : Int32) = nI 99 := rfl
  exact h
theorem pl_l100 : (100 : Int32) = nI 100 := by
  have h : (100 : Int32) = nI 100 := rfl
  exact h
theorem pl_l119 : (119 : Int32) = nI 119 := by
  have h : (119 : Int32) = nI 119 := rfl
  exact h
theorem pl_l120 : (120 : Int32) = nI 120 := by
  have h : (120 : Int32) = nI 120 := rfl
  exact h
theorem pl_l255 : (255 : Int32) = nI 255 := by
  have h : (255 : Int32) = nI 255 := rfl
  exact h
theorem pl_l256 : (256 : Int32) = nI 256 := by
  have h : (256 : Int32) = nI 256 := rfl
  exact h
theorem pl_l999 : (999 : Int32) = nI 999 := by
  have h : (999 : Int32) = nI 999 := rfl
  exact h
theorem pl_l1000 : (1000 : Int32) = nI 1000 := by
  have h : (1000 : Int32) = nI 1000 := rfl
  exact h
theorem pl_l1023 : (1023 : Int32) = nI 1023 := by
  have h : (1023 : Int32) = nI 1023 := rfl
  exact h
theorem pl_l1024 : (1024 : Int32) = nI 1024 := by
  have h : (1024 : Int32) = nI 1024 := rfl
  exact h
theorem pl_l1111 : (1111 : Int32) = nI 1111 := by
  have h : (1111 : Int32) = nI 1111 := rfl
  exact h
theorem pl_l5555 : (5555 : Int32) = nI 5555 := by
  have h : (5555 : Int32) = nI 5555 := rfl
  exact h
theorem pl_l10240 : (10240 : Int32) = nI 10240 := by
  have h : (10240 : Int32) = nI 10240 := rfl
  exact h
