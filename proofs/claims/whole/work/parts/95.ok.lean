/-! sets of changes -/
theorem tbD {x y : Nat} (hx : x < 1024) (i : Nat) : (x &&& (y ^^^ 4294967295)).testBit i = (x.testBit i && !y.testBit i) := by
  rw [Nat.testBit_and, Nat.testBit_xor, show (4294967295 : Nat) = 2 ^ 32 - 1 from rfl, Nat.testBit_two_pow_sub_one]
  by_cases hi : i < 32
  · simp [hi]
  · rw [Nat.testBit_lt_two_pow (show x < 2 ^ i from Nat.lt_of_lt_of_le hx (show 2 ^ 10 ≤ 2 ^ i from Nat.pow_le_pow_right (by decide) (by omega)))]
    simp
def dn (x y : Nat) : Nat := x &&& (y ^^^ 4294967295)
theorem dn_tb {x y : Nat} (hx : x < 1024) (i : Nat) : (dn x y).testBit i = (x.testBit i && !y.testBit i) := tbD hx i
theorem dn_le (x y : Nat) : dn x y ≤ x := Nat.and_le_left
theorem dn_i (x y : Nat) : Int32.ofNat x &&& (Int32.ofNat y ^^^ (-1)) = Int32.ofNat (dn x y) := by
  apply Int32.toBitVec_inj.mp
  rw [Int32.toBitVec_and, Int32.toBitVec_xor]
  show BitVec.ofNat 32 x &&& (BitVec.ofNat 32 y ^^^ (-1 : Int32).toBitVec) = BitVec.ofNat 32 (x &&& (y ^^^ 4294967295))
  rw [BitVec.ofNat_and, BitVec.ofNat_xor]
  rfl
abbrev sb (x y : Nat) : Prop := x &&& y = x
theorem sb_iff {x y : Nat} : sb x y ↔ ∀ i, x.testBit i = true → y.testBit i = true := by
  constructor
  · intro h i hi
    have e := congrArg (fun z => Nat.testBit z i) h
    simp only [Nat.testBit_and, hi, Bool.true_and] at e
    exact e
  · intro h
    apply Nat.eq_of_testBit_eq
    intro i
    rw [Nat.testBit_and]
    cases hx : x.testBit i
    · rfl
    · rw [h i hx]; rfl
theorem sb_rf (x : Nat) : sb x x := Nat.and_self x
theorem sb_tr {x y z : Nat} (h : sb x y) (h' : sb y z) : sb x z := sb_iff.mpr (fun i hi => sb_iff.mp h' i (sb_iff.mp h i hi))
theorem sb_le {x y : Nat} (h : sb x y) : x ≤ y := by
  have : x &&& y ≤ y := Nat.and_le_right
  rw [h] at this
  exact this
theorem dn_z {x y : Nat} (hx : x < 1024) : dn x y = 0 ↔ sb x y := by
  rw [sb_iff]
  constructor
  · intro h i hi
    have := dn_tb (y := y) hx i
    rw [h, Nat.zero_testBit, hi] at this
    cases hy : y.testBit i
    · rw [hy] at this; exact absurd this (by decide)
    · rfl
  · intro h
    apply Nat.eq_of_testBit_eq
    intro i
    rw [dn_tb hx, Nat.zero_testBit]
    cases hi : x.testBit i
    · rfl
    · rw [h i hi]; rfl
theorem dn_sb {x y : Nat} (hx : x < 1024) : sb (dn x y) x := sb_iff.mpr (fun i hi => by
  rw [dn_tb hx] at hi
  cases h : x.testBit i
  · rw [h] at hi; exact absurd hi (by simp)
  · rfl)
theorem of0 {z : Nat} (h : z < 2147483648) : Int32.ofNat z = 0 ↔ z = 0 := by
  rw [eq_i, ti_ofNat h]
  show (z : Int) = 0 ↔ z = 0
  omega
theorem sb_i {x y : Nat} (hx : x < 1024) : Int32.ofNat x &&& (Int32.ofNat y ^^^ (-1)) = 0 ↔ sb x y := by
  have := dn_le x y
  rw [dn_i, of0 (by omega), dn_z hx]
/-! the next part of a set -/
theorem and_hf (x y : Nat) : (x &&& y) / 2 = x / 2 &&& y / 2 := Nat.and_div_two
theorem and_lo (x y : Nat) : (x &&& y) % 2 = if x % 2 = 1 ∧ y % 2 = 1 then 1 else 0 := by
  have e := Nat.and_mod_two_pow (a := x) (b := y) (n := 1)
  rw [show (2 : Nat) ^ 1 = 2 from rfl] at e
  rw [e]
  rcases Nat.mod_two_eq_zero_or_one x with a | a <;> rcases Nat.mod_two_eq_zero_or_one y with b | b <;> rw [a, b] <;> rfl
theorem sb_hf {x y : Nat} : sb x y ↔ sb (x / 2) (y / 2) ∧ (x % 2 = 1 → y % 2 = 1) := by
  have h1 := and_hf x y
  have h2 := and_lo x y
  constructor
  · intro h
    rw [h] at h1 h2
    refine ⟨h1.symm, fun k => ?_⟩
    by_cases c : x % 2 = 1 ∧ y % 2 = 1
    · exact c.2
    · rw [if_neg c] at h2; omega
  · intro h
    show x &&& y = x
    rw [h.1] at h1
    by_cases c : x % 2 = 1
    · rw [if_pos ⟨c, h.2 c⟩] at h2; omega
    · rw [if_neg (fun k => c k.1)] at h2; omega
theorem nx_low : ∀ m o c, o < 2 ^ m → sb c o → (c + (2 ^ m - 1 - o)) &&& o = c := by
  intro m
  induction m with
  | zero =>
    intro o c ho h
    have : o = 0 := by simpa using ho
    subst this
    have := sb_le h
    have : c = 0 := by omega
    subst this
    rfl
  | succ m ih =>
    intro o c ho h
    have hh := sb_hf.mp h
    have i := ih (o / 2) (c / 2) (by rw [Nat.pow_succ] at ho; omega) hh.1
    have h1 := and_hf (c + (2 ^ (m + 1) - 1 - o)) o
    have h2 := and_lo (c + (2 ^ (m + 1) - 1 - o)) o
    have hl := sb_le hh.1
    rw [Nat.pow_succ] at h1 h2 ho ⊢
    have e : (c + (2 ^ m * 2 - 1 - o)) / 2 = c / 2 + (2 ^ m - 1 - o / 2) := by
      have := hh.2
      generalize 2 ^ m = w at *
      omega
    rw [e, i] at h1
    have e2 : (c + (2 ^ m * 2 - 1 - o)) % 2 = if o % 2 = 1 then c % 2 else 1 := by
      have := hh.2
      generalize 2 ^ m = w at *
      split <;> omega
    rw [e2] at h2
    have := hh.2
    by_cases k : o % 2 = 1
    · rw [if_pos k] at h2
      by_cases k2 : c % 2 = 1
      · rw [if_pos ⟨k2, k⟩] at h2; omega
      · rw [if_neg (fun x => k2 x.1)] at h2; omega
    · rw [if_neg k, if_neg (fun x => k x.2)] at h2; omega
def rk : Nat → Nat → Nat → Nat
  | 0, _, _ => 0
  | m + 1, o, c => if o % 2 = 1 then 2 * rk m (o / 2) (c / 2) + c % 2 else rk m (o / 2) (c / 2)
def pch : Nat → Nat → Nat
  | 0, _ => 0
  | m + 1, o => pch m (o / 2) + o % 2
theorem rk_top : ∀ m o, rk m o o + 1 = 2 ^ pch m o := by
  intro m
  induction m with
  | zero => intro o; rfl
  | succ m ih =>
    intro o
    have := ih (o / 2)
    rw [rk, pch]
    by_cases k : o % 2 = 1
    · rw [if_pos k, k, Nat.pow_succ, ← this]; omega
    · rw [if_neg k, show o % 2 = 0 from by omega, this]; rfl
theorem rk_0 : ∀ m o, rk m o 0 = 0 := by
  intro m
  induction m with
  | zero => intro o; rfl
  | succ m ih =>
    intro o
    rw [rk]
    show (if o % 2 = 1 then 2 * rk m (o / 2) (0 / 2) + 0 % 2 else rk m (o / 2) (0 / 2)) = 0
    rw [Nat.zero_div, ih]
    split <;> rfl
def nxm (m o c : Nat) : Nat := ((c + 2 ^ m - o) % 2 ^ m) &&& o
theorem nx_all : ∀ m o c, o < 2 ^ m → sb c o → c < o → c < nxm m o c ∧ sb (nxm m o c) o ∧ (∀ t, sb t o → c < t → nxm m o c ≤ t) ∧ rk m o (nxm m o c) = rk m o c + 1 := by
  intro m
  induction m with
  | zero => intro o c ho h hc; have : o = 0 := by simpa using ho
            omega
  | succ m ih =>
    intro o c ho h hc
    have hh := sb_hf.mp h
    have hl := sb_le hh.1
    have h1 := and_hf ((c + 2 ^ (m + 1) - o) % 2 ^ (m + 1)) o
    have h2 := and_lo ((c + 2 ^ (m + 1) - o) % 2 ^ (m + 1)) o
    have sub : sb (nxm (m + 1) o c) o := by
      unfold nxm
      show _ &&& o &&& o = _ &&& o
      rw [Nat.and_assoc, Nat.and_self]
    have ho2 : o / 2 < 2 ^ m := by rw [Nat.pow_succ] at ho; omega
    have hlt : c + 2 ^ (m + 1) - o < 2 ^ (m + 1) := by omega
    by_cases e : c % 2 = o % 2
    · have hc1 : c / 2 < o / 2 := by omega
      obtain ⟨i1, _, i3, i4⟩ := ih (o / 2) (c / 2) ho2 hh.1 hc1
      have hlt2 : c / 2 + 2 ^ m - o / 2 < 2 ^ m := by omega
      have en : nxm (m + 1) o c = 2 * nxm m (o / 2) (c / 2) := by
        have a1 : (c + 2 ^ (m + 1) - o) / 2 = c / 2 + 2 ^ m - o / 2 := by rw [Nat.pow_succ]; omega
        have a2 : (c + 2 ^ (m + 1) - o) % 2 = 0 := by rw [Nat.pow_succ]; omega
        rw [Nat.mod_eq_of_lt hlt] at h1 h2
        rw [a1] at h1
        rw [if_neg (fun x => by omega)] at h2
        unfold nxm
        rw [Nat.mod_eq_of_lt hlt, Nat.mod_eq_of_lt hlt2]
        omega
      rw [en]
      rw [en] at sub
      refine ⟨by omega, sub, fun t ht hct => ?_, ?_⟩
      · have ht2 := sb_hf.mp ht
        have := ht2.2
        have := i3 (t / 2) ht2.1 (by omega)
        omega
      · rw [rk, rk]
        have d1 : 2 * nxm m (o / 2) (c / 2) / 2 = nxm m (o / 2) (c / 2) := by omega
        have d2 : 2 * nxm m (o / 2) (c / 2) % 2 = 0 := by omega
        rw [d1, d2, i4]
        by_cases k : o % 2 = 1
        · rw [if_pos k, if_pos k]; omega
        · rw [if_neg k, if_neg k]
    · have hb := hh.2
      have a0 : c % 2 = 0 ∧ o % 2 = 1 := by omega
      have en : nxm (m + 1) o c = c + 1 := by
        have a1 : (c + 2 ^ (m + 1) - o) / 2 = c / 2 + (2 ^ m - 1 - o / 2) := by rw [Nat.pow_succ]; omega
        have a2 : (c + 2 ^ (m + 1) - o) % 2 = 1 := by rw [Nat.pow_succ]; rw [Nat.pow_succ] at ho; omega
        rw [Nat.mod_eq_of_lt hlt] at h1 h2
        rw [a1, nx_low m _ _ ho2 hh.1] at h1
        rw [if_pos ⟨a2, a0.2⟩] at h2
        unfold nxm
        rw [Nat.mod_eq_of_lt hlt]
        omega
      rw [en]
      rw [en] at sub
      refine ⟨by omega, sub, fun t _ hct => hct, ?_⟩
      rw [rk, rk, if_pos a0.2, if_pos a0.2]
      have d1 : (c + 1) / 2 = c / 2 := by omega
      have d2 : (c + 1) % 2 = 1 := by omega
      rw [d1, d2, a0.1]
def pcN (s : Nat) : Nat → Nat
  | 0 => 0
  | k + 1 => if s.testBit k = true then pcN s k + 1 else pcN s k
def pc (s : Nat) : Nat := pcN s 10
set_option maxRecDepth 100000 in
theorem pc_h : ∀ s, s < 1024 → pch 32 s = pc s := by decide +kernel
theorem pcN_le (s : Nat) : ∀ k, pcN s k ≤ k := by
  intro k
  induction k with
  | zero => exact Nat.le_refl _
  | succ k ih => rw [pcN]; split <;> omega
theorem pc_le (s : Nat) : pc s ≤ 10 := pcN_le s 10
/-! chains -/
def chs : List (List Nat) := [[0, 1, 3, 7, 15, 31, 63, 127, 255, 511, 1023], [2, 6, 14, 30, 62, 126, 254, 510, 1022], [4, 5, 13, 29, 61, 125, 253, 509, 1021], [8, 9, 11, 27, 59, 123, 251, 507, 1019], [10, 26, 58, 122, 250, 506, 1018], [12, 28, 60, 124, 252, 508, 1020], [16, 17, 19, 23, 55, 119, 247, 503, 1015], [18, 22, 54, 118, 246, 502, 1014], [20, 21, 53, 117, 245, 501, 1013], [24, 25, 57, 121, 249, 505, 1017], [32, 33, 35, 39, 47, 111, 239, 495, 1007], [34, 38, 46, 110, 238, 494, 1006], [36, 37, 45, 109, 237, 493, 1005], [40, 41, 43, 107, 235, 491, 1003], [42, 106, 234, 490, 1002], [44, 108, 236, 492, 1004], [48, 49, 51, 115, 243, 499, 1011], [50, 114, 242, 498, 1010], [52, 116, 244, 500, 1012], [56, 120, 248, 504, 1016], [64, 65, 67, 71, 79, 95, 223, 479, 991], [66, 70, 78, 94, 222, 478, 990], [68, 69, 77, 93, 221, 477, 989], [72, 73, 75, 91, 219, 475, 987], [74, 90, 218, 474, 986], [76, 92, 220, 476, 988], [80, 81, 83, 87, 215, 471, 983], [82, 86, 214, 470, 982], [84, 85, 213, 469, 981], [88, 89, 217, 473, 985], [96, 97, 99, 103, 231, 487, 999], [98, 102, 230, 486, 998], [100, 101, 229, 485, 997], [104, 105, 233, 489, 1001], [112, 113, 241, 497, 1009], [128, 129, 131, 135, 143, 159, 191, 447, 959], [130, 134, 142, 158, 190, 446, 958], [132, 133, 141, 157, 189, 445, 957], [136, 137, 139, 155, 187, 443, 955], [138, 154, 186, 442, 954], [140, 156, 188, 444, 956], [144, 145, 147, 151, 183, 439, 951], [146, 150, 182, 438, 950], [148, 149, 181, 437, 949], [152, 153, 185, 441, 953], [160, 161, 163, 167, 175, 431, 943], [162, 166, 174, 430, 942], [164, 165, 173, 429, 941], [168, 169, 171, 427, 939], [170, 426, 938], [172, 428, 940], [176, 177, 179, 435, 947], [178, 434, 946], [180, 436, 948], [184, 440, 952], [192, 193, 195, 199, 207, 463, 975], [194, 198, 206, 462, 974], [196, 197, 205, 461, 973], [200, 201, 203, 459, 971], [202, 458, 970], [204, 460, 972], [208, 209, 211, 467, 979], [210, 466, 978], [212, 468, 980], [216, 472, 984], [224, 225, 227, 483, 995], [226, 482, 994], [228, 484, 996], [232, 488, 1000], [240, 496, 1008], [256, 257, 259, 263, 271, 287, 319, 383, 895], [258, 262, 270, 286, 318, 382, 894], [260, 261, 269, 285, 317, 381, 893], [264, 265, 267, 283, 315, 379, 891], [266, 282, 314, 378, 890], [268, 284, 316, 380, 892], [272, 273, 275, 279, 311, 375, 887], [274, 278, 310, 374, 886], [276, 277, 309, 373, 885], [280, 281, 313, 377, 889], [288, 289, 291, 295, 303, 367, 879], [290, 294, 302, 366, 878], [292, 293, 301, 365, 877], [296, 297, 299, 363, 875], [298, 362, 874], [300, 364, 876], [304, 305, 307, 371, 883], [306, 370, 882], [308, 372, 884], [312, 376, 888], [320, 321, 323, 327, 335, 351, 863], [322, 326, 334, 350, 862], [324, 325, 333, 349, 861], [328, 329, 331, 347, 859], [330, 346, 858], [332, 348, 860], [336, 337, 339, 343, 855], [338, 342, 854], [340, 341, 853], [344, 345, 857], [352, 353, 355, 359, 871], [354, 358, 870], [356, 357, 869], [360, 361, 873], [368, 369, 881], [384, 385, 387, 391, 399, 415, 927], [386, 390, 398, 414, 926], [388, 389, 397, 413, 925], [392, 393, 395, 411, 923], [394, 410, 922], [396, 412, 924], [400, 401, 403, 407, 919], [402, 406, 918], [404, 405, 917], [408, 409, 921], [416, 417, 419, 423, 935], [418, 422, 934], [420, 421, 933], [424, 425, 937], [432, 433, 945], [448, 449, 451, 455, 967], [450, 454, 966], [452, 453, 965], [456, 457, 969], [464, 465, 977], [480, 481, 993], [512, 513, 515, 519, 527, 543, 575, 639, 767], [514, 518, 526, 542, 574, 638, 766], [516, 517, 525, 541, 573, 637, 765], [520, 521, 523, 539, 571, 635, 763], [522, 538, 570, 634, 762], [524, 540, 572, 636, 764], [528, 529, 531, 535, 567, 631, 759], [530, 534, 566, 630, 758], [532, 533, 565, 629, 757], [536, 537, 569, 633, 761], [544, 545, 547, 551, 559, 623, 751], [546, 550, 558, 622, 750], [548, 549, 557, 621, 749], [552, 553, 555, 619, 747], [554, 618, 746], [556, 620, 748], [560, 561, 563, 627, 755], [562, 626, 754], [564, 628, 756], [568, 632, 760], [576, 577, 579, 583, 591, 607, 735], [578, 582, 590, 606, 734], [580, 581, 589, 605, 733], [584, 585, 587, 603, 731], [586, 602, 730], [588, 604, 732], [592, 593, 595, 599, 727], [594, 598, 726], [596, 597, 725], [600, 601, 729], [608, 609, 611, 615, 743], [610, 614, 742], [612, 613, 741], [616, 617, 745], [624, 625, 753], [640, 641, 643, 647, 655, 671, 703], [642, 646, 654, 670, 702], [644, 645, 653, 669, 701], [648, 649, 651, 667, 699], [650, 666, 698], [652, 668, 700], [656, 657, 659, 663, 695], [658, 662, 694], [660, 661, 693], [664, 665, 697], [672, 673, 675, 679, 687], [674, 678, 686], [676, 677, 685], [680, 681, 683], [682], [684], [688, 689, 691], [690], [692], [696], [704, 705, 707, 711, 719], [706, 710, 718], [708, 709, 717], [712, 713, 715], [714], [716], [720, 721, 723], [722], [724], [728], [736, 737, 739], [738], [740], [744], [752], [768, 769, 771, 775, 783, 799, 831], [770, 774, 782, 798, 830], [772, 773, 781, 797, 829], [776, 777, 779, 795, 827], [778, 794, 826], [780, 796, 828], [784, 785, 787, 791, 823], [786, 790, 822], [788, 789, 821], [792, 793, 825], [800, 801, 803, 807, 815], [802, 806, 814], [804, 805, 813], [808, 809, 811], [810], [812], [816, 817, 819], [818], [820], [824], [832, 833, 835, 839, 847], [834, 838, 846], [836, 837, 845], [840, 841, 843], [842], [844], [848, 849, 851], [850], [852], [856], [864, 865, 867], [866], [868], [872], [880], [896, 897, 899, 903, 911], [898, 902, 910], [900, 901, 909], [904, 905, 907], [906], [908], [912, 913, 915], [914], [916], [920], [928, 929, 931], [930], [932], [936], [944], [960, 961, 963], [962], [964], [968], [976], [992]]
set_option maxRecDepth 100000 in
theorem chs_len : chs.length = 252 := by decide +kernel
def msk : List Nat → Nat → Nat
  | [], a => a
  | x :: l, a => msk l (a ||| 2 ^ x)
theorem msk_in : ∀ (l : List Nat) (a i : Nat), (msk l a).testBit i = true → a.testBit i = true ∨ i ∈ l := by
  intro l
  induction l with
  | nil => intro a i h; exact Or.inl h
  | cons x l ih =>
    intro a i h
    rcases ih _ i h with k | k
    · rw [Nat.testBit_or, Nat.testBit_two_pow] at k
      by_cases e : x = i
      · exact Or.inr (by rw [e]; exact List.mem_cons_self ..)
      · simp [e] at k; exact Or.inl k
    · exact Or.inr (List.mem_cons_of_mem _ k)
set_option maxRecDepth 100000 in
theorem chs_all : msk chs.flatten 0 = 2 ^ 1024 - 1 := by decide +kernel
theorem chs_in {x : Nat} (h : x < 1024) : ∃ c ∈ chs, x ∈ c := by
  have := msk_in chs.flatten 0 x (by rw [chs_all, Nat.testBit_two_pow_sub_one, decide_eq_true h])
  rw [Nat.zero_testBit] at this
  rcases this with k | k
  · exact absurd k (by decide)
  · exact List.mem_flatten.mp k
set_option maxRecDepth 100000 in
theorem chs_up : ∀ c ∈ chs, c.Pairwise sb := by decide +kernel
theorem chain_cmp : ∀ (c : List Nat), c.Pairwise sb → ∀ a ∈ c, ∀ b ∈ c, sb a b ∨ sb b a := by
  intro c
  induction c with
  | nil => intro _ a ha; exact absurd ha (List.not_mem_nil)
  | cons x c ih =>
    intro h a ha b hb
    rw [List.pairwise_cons] at h
    rw [List.mem_cons] at ha hb
    rcases ha with ha | ha <;> rcases hb with hb | hb
    · subst ha; subst hb; exact Or.inl (sb_rf _)
    · subst ha; exact Or.inl (h.1 b hb)
    · subst hb; exact Or.inr (h.1 a ha)
    · exact ih h.2 a ha b hb
theorem one_le : ∀ (l : List Nat), l.Pairwise (fun a b => ¬ (sb a b ∨ sb b a)) → (∀ a ∈ l, ∀ b ∈ l, sb a b ∨ sb b a) → l.length ≤ 1 := by
  intro l
  match l with
  | [] => intro _ _; exact Nat.zero_le _
  | [x] => intro _ _; exact Nat.le_refl _
  | x :: y :: l =>
    intro h1 h2
    rw [List.pairwise_cons] at h1
    exact absurd (h2 x (by simp) y (by simp)) (h1.1 y (by simp))
theorem anti : ∀ (cs : List (List Nat)), (∀ c ∈ cs, c.Pairwise sb) → ∀ l : List Nat, l.Pairwise (fun a b => ¬ (sb a b ∨ sb b a)) → (∀ x ∈ l, ∃ c ∈ cs, x ∈ c) → l.length ≤ cs.length := by
  intro cs
  induction cs with
  | nil =>
    intro _ l _ h
    match l with
    | [] => exact Nat.le_refl _
    | x :: l => obtain ⟨c, hc, _⟩ := h x (by simp); exact absurd hc (List.not_mem_nil)
  | cons c cs ih =>
    intro hp l hl h
    have p1 : (l.filter (fun x => decide (x ∈ c))).length ≤ 1 := one_le _ (hl.filter _) (fun a ha b hb => chain_cmp c (hp c (by simp)) a (by simpa using (List.mem_filter.mp ha).2) b (by simpa using (List.mem_filter.mp hb).2))
    have p2 : (l.filter (fun x => !decide (x ∈ c))).length ≤ cs.length := ih (fun d hd => hp d (by simp [hd])) _ (hl.filter _) (fun x hx => by
      obtain ⟨hx1, hx2⟩ := List.mem_filter.mp hx
      obtain ⟨d, hd, hxd⟩ := h x hx1
      rw [List.mem_cons] at hd
      rcases hd with hd | hd
      · subst hd; simp [hxd] at hx2
      · exact ⟨d, hd, hxd⟩)
    have p3 : l.length = (l.filter (fun x => decide (x ∈ c))).length + (l.filter (fun x => !decide (x ∈ c))).length := by
      clear p1 p2 hl h hp ih
      induction l with
      | nil => rfl
      | cons x l ih =>
        rw [List.filter_cons, List.filter_cons]
        by_cases k : x ∈ c
        · simp [k]; omega
        · simp [k]; omega
    rw [List.length_cons]
    omega
/-! least sets -/
abbrev lst (D : Nat → Prop) [DecidablePred D] (s : Nat) : Prop := D s ∧ ∀ t, t < s → sb t s → ¬ D t
def fnd (D : Nat → Prop) [DecidablePred D] (o n : Nat) : List Nat := (List.range n).filter (fun s => decide (sb s o ∧ lst D s))
theorem fnd_suc {D : Nat → Prop} [DecidablePred D] {o n : Nat} : fnd D o (n + 1) = if sb n o ∧ lst D n then fnd D o n ++ [n] else fnd D o n := by
  unfold fnd
  rw [List.range_succ, List.filter_append]
  by_cases k : sb n o ∧ lst D n
  · rw [if_pos k]; simp only [List.filter_cons, List.filter_nil, decide_eq_true k, if_true]
  · rw [if_neg k]; simp only [List.filter_cons, List.filter_nil, decide_eq_false k, List.append_nil]; simp
theorem fnd_skip {D : Nat → Prop} [DecidablePred D] {o a : Nat} : ∀ n, (∀ s, a ≤ s → s < a + n → ¬ sb s o) → fnd D o (a + n) = fnd D o a := by
  intro n
  induction n with
  | zero => intro _; rfl
  | succ n ih =>
    intro h
    rw [← Nat.add_assoc, fnd_suc, if_neg (fun k => h (a + n) (by omega) (by omega) k.1)]
    exact ih (fun s h1 h2 => h s h1 (by omega))
theorem fnd_mem {D : Nat → Prop} [DecidablePred D] {o n x : Nat} : x ∈ fnd D o n ↔ x < n ∧ sb x o ∧ lst D x := by
  unfold fnd
  rw [List.mem_filter, List.mem_range, decide_eq_true_iff]
theorem fnd_252 {D : Nat → Prop} [DecidablePred D] {o n : Nat} (hn : n ≤ 1024) : (fnd D o n).length ≤ 252 := by
  rw [← chs_len]
  refine anti chs chs_up _ ?_ (fun x hx => chs_in (by have := (fnd_mem.mp hx).1; omega))
  have : (fnd D o n).Pairwise (fun a b => a < b ∧ lst D a ∧ lst D b) := by
    have h1 : (fnd D o n).Pairwise (fun a b => a < b) := List.Pairwise.filter _ List.pairwise_lt_range
    refine List.Pairwise.imp_of_mem (fun {a b} ha hb hab => ?_) h1
    exact ⟨hab, (fnd_mem.mp ha).2.2, (fnd_mem.mp hb).2.2⟩
  refine List.Pairwise.imp (fun {a b} h => ?_) this
  rintro (k | k)
  · exact h.2.2.2 a h.1 k h.2.1.1
  · have := sb_le k; omega
theorem fnd_pre {D : Nat → Prop} [DecidablePred D] {o a : Nat} : ∀ n, ∃ l, fnd D o (a + n) = fnd D o a ++ l := by
  intro n
  induction n with
  | zero => exact ⟨[], by rw [List.append_nil]; rfl⟩
  | succ n ih =>
    obtain ⟨l, hl⟩ := ih
    rw [← Nat.add_assoc, fnd_suc, hl]
    split
    · exact ⟨l ++ [a + n], by rw [List.append_assoc]⟩
    · exact ⟨l, rfl⟩
theorem fnd_full {D : Nat → Prop} [DecidablePred D] {o a : Nat} (ha : a ≤ 1024) (h : 252 ≤ (fnd D o a).length) : fnd D o 1024 = fnd D o a := by
  obtain ⟨l, hl⟩ := fnd_pre (D := D) (o := o) (a := a) (1024 - a)
  rw [show a + (1024 - a) = 1024 from by omega] at hl
  have := fnd_252 (D := D) (o := o) (n := 1024) (by omega)
  rw [hl, List.length_append] at this
  have : l = [] := List.eq_nil_of_length_eq_zero (by omega)
  rw [hl, this, List.append_nil]
theorem lst_ex {D : Nat → Prop} [DecidablePred D] : ∀ n t, t ≤ n → D t → ∃ u, u ≤ t ∧ sb u t ∧ lst D u := by
  intro n
  induction n with
  | zero =>
    intro t ht hD
    exact ⟨t, Nat.le_refl _, sb_rf t, hD, fun u hu => by omega⟩
  | succ n ih =>
    intro t ht hD
    by_cases k : ∃ u, u < t ∧ sb u t ∧ D u
    · obtain ⟨u, h1, h2, h3⟩ := k
      obtain ⟨w, a1, a2, a3⟩ := ih u (by omega) h3
      exact ⟨w, by omega, sb_tr a2 h2, a3⟩
    · exact ⟨t, Nat.le_refl _, sb_rf t, hD, fun u h1 h2 h3 => k ⟨u, h1, h2, h3⟩⟩
theorem lst_fnd {D : Nat → Prop} [DecidablePred D] {o c : Nat} (hc : sb c o) : lst D c ↔ ¬ (∃ x ∈ fnd D o c, sb x c) ∧ D c := by
  constructor
  · intro h
    refine ⟨?_, h.1⟩
    rintro ⟨x, hx, hxc⟩
    have := fnd_mem.mp hx
    exact h.2 x this.1 hxc this.2.2.1
  · intro h
    refine ⟨h.2, fun t h1 h2 h3 => h.1 ?_⟩
    obtain ⟨u, a1, a2, a3⟩ := lst_ex t t (Nat.le_refl _) h3
    exact ⟨u, fnd_mem.mpr ⟨by omega, sb_tr a2 (sb_tr h2 hc), a3⟩, sb_tr a2 h2⟩
