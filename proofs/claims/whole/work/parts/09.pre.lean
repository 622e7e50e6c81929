theorem ln3 : len 3 = 6 := rfl
theorem ln4 : len 4 = 960 := rfl
theorem ln5 : len 5 = 10 := rfl
theorem ln6 : len 6 = 10 := rfl
theorem ln7 : len 7 = 40 := rfl
theorem ln8 : len 8 = 24 := rfl
theorem ln9 : len 9 = 24 := rfl
theorem ln10 : len 10 = 32 := rfl
theorem ln11 : len 11 = 4 := rfl
theorem ln13 : len 13 = 16 := rfl
theorem ln14 : len 14 = 8 := rfl
theorem ln15 : len 15 = 2800 := rfl
theorem ln16 : len 16 = 40 := rfl
theorem ln18 : len 18 = 8 := rfl
theorem ln19 : len 19 = 16 := rfl
theorem ln20 : len 20 = 16 := rfl
theorem ln22 : len 22 = 8 := rfl
theorem ln23 : len 23 = 16 := rfl
theorem ln24 : len 24 = 16 := rfl
theorem ln26 : len 26 = 8 := rfl
theorem ln27 : len 27 = 16 := rfl
theorem ln28 : len 28 = 16 := rfl
theorem ln30 : len 30 = 8 := rfl
theorem ln31 : len 31 = 16 := rfl
theorem ln32 : len 32 = 16 := rfl
theorem ln33 : len 33 = 2 := rfl
theorem ln34 : len 34 = 2 := rfl
theorem ln36 : len 36 = 6 := rfl
theorem ln37 : len 37 = 160 := rfl
theorem ln38 : len 38 = 8 := rfl
theorem ln39 : len 39 = 64 := rfl
theorem ln40 : len 40 = 16 := rfl
theorem ln41 : len 41 = 16 := rfl
theorem ln43 : len 43 = 8 := rfl
theorem ln44 : len 44 = 16 := rfl
theorem ln45 : len 45 = 16 := rfl
theorem ln47 : len 47 = 200 := rfl
theorem ln49 : len 49 = 256 := rfl
theorem ln50 : len 50 = 256 := rfl
theorem ln51 : len 51 = 256 := rfl
theorem ln53 : len 53 = 24 := rfl
theorem ln54 : len 54 = 24 := rfl
theorem ln55 : len 55 = 24 := rfl
theorem ln57 : len 57 = 200 := rfl
theorem ln59 : len 59 = 252 := rfl
theorem ln61 : len 61 = 3 := rfl
theorem ln62 : len 62 = 3 := rfl
theorem ln63 : len 63 = 200 := rfl
theorem ln64 : len 64 = 200 := rfl
theorem ln65 : len 65 = 200 := rfl
theorem ln66 : len 66 = 200 := rfl
theorem ln67 : len 67 = 200 := rfl
theorem ln69 : len 69 = 40 := rfl
theorem ln70 : len 70 = 6 := rfl
theorem ln73 : len 73 = 6 := rfl
theorem ln74 : len 74 = 960 := rfl
theorem ln75 : len 75 = 10 := rfl
theorem ln76 : len 76 = 10 := rfl
theorem ln77 : len 77 = 40 := rfl
theorem ln78 : len 78 = 24 := rfl
theorem ln79 : len 79 = 24 := rfl
theorem ln80 : len 80 = 32 := rfl
theorem ln81 : len 81 = 4 := rfl
theorem ln83 : len 83 = 16 := rfl
theorem ln84 : len 84 = 8 := rfl
theorem ln85 : len 85 = 2800 := rfl
theorem ln86 : len 86 = 40 := rfl
theorem ln88 : len 88 = 8 := rfl
theorem ln89 : len 89 = 16 := rfl
theorem ln90 : len 90 = 16 := rfl
theorem ln92 : len 92 = 8 := rfl
theorem ln93 : len 93 = 16 := rfl
theorem ln94 : len 94 = 16 := rfl
theorem ln96 : len 96 = 8 := rfl
theorem ln97 : len 97 = 16 := rfl
theorem ln98 : len 98 = 16 := rfl
theorem ln100 : len 100 = 8 := rfl
theorem ln101 : len 101 = 16 := rfl
theorem ln102 : len 102 = 16 := rfl
theorem ln105 : len 105 = 6 := rfl
theorem ln106 : len 106 = 960 := rfl
theorem ln107 : len 107 = 10 := rfl
theorem ln108 : len 108 = 10 := rfl
theorem ln109 : len 109 = 40 := rfl
theorem ln110 : len 110 = 24 := rfl
theorem ln111 : len 111 = 24 := rfl
theorem ln112 : len 112 = 32 := rfl
theorem ln113 : len 113 = 4 := rfl
theorem ln115 : len 115 = 16 := rfl
theorem ln116 : len 116 = 8 := rfl
theorem ln117 : len 117 = 2800 := rfl
theorem ln118 : len 118 = 40 := rfl
theorem ln120 : len 120 = 8 := rfl
theorem ln121 : len 121 = 16 := rfl
theorem ln122 : len 122 = 16 := rfl
theorem ln124 : len 124 = 8 := rfl
theorem ln125 : len 125 = 16 := rfl
theorem ln126 : len 126 = 16 := rfl
theorem ln128 : len 128 = 8 := rfl
theorem ln129 : len 129 = 16 := rfl
theorem ln130 : len 130 = 16 := rfl
theorem ln132 : len 132 = 8 := rfl
theorem ln133 : len 133 = 16 := rfl
theorem ln134 : len 134 = 16 := rfl
theorem ln136 : len 136 = 4230 := rfl
theorem ln137 : len 137 = 8460 := rfl
theorem ln138 : len 138 = 2 := rfl
theorem ln139 : len 139 = 160 := rfl
theorem ln140 : len 140 = 8 := rfl
theorem ln141 : len 141 = 64 := rfl
theorem ln142 : len 142 = 16 := rfl
theorem ln143 : len 143 = 16 := rfl
theorem ln144 : len 144 = 6 := rfl
theorem ln145 : len 145 = 200 := rfl
theorem ln146 : len 146 = 24 := rfl
theorem ln147 : len 147 = 24 := rfl
theorem ln148 : len 148 = 24 := rfl
theorem ln149 : len 149 = 1024 := rfl
theorem ln150 : len 150 = 1024 := rfl
theorem ln151 : len 151 = 64 := rfl
theorem ln152 : len 152 = 128 := rfl
theorem ln153 : len 153 = 6 := rfl
set_option maxRecDepth 20000 in
theorem sl_0_0 {o : Nat} (h : sh o = .inl 0) : len (o + 1) = 200 := (by decide +kernel : ∀ k, k < KT → sh k = .inl 0 → len (k + 1) = 200) o (sh_lt h) h
set_option maxRecDepth 20000 in
theorem sl_1_2 {o : Nat} (h : sh o = .inl 1) : len (o + 1) = 24 := (by decide +kernel : ∀ k, k < KT → sh k = .inl 1 → len (k + 1) = 24) o (sh_lt h) h
set_option maxRecDepth 20000 in
theorem sl_1_3 {o : Nat} (h : sh o = .inl 1) : len (o + 2) = 24 := (by decide +kernel : ∀ k, k < KT → sh k = .inl 1 → len (k + 2) = 24) o (sh_lt h) h
set_option maxRecDepth 20000 in
theorem sl_1_4 {o : Nat} (h : sh o = .inl 1) : len (o + 3) = 24 := (by decide +kernel : ∀ k, k < KT → sh k = .inl 1 → len (k + 3) = 24) o (sh_lt h) h
set_option maxRecDepth 20000 in
theorem sl_2_0 {o : Nat} (h : sh o = .inl 2) : len (o + 1) = 3 := (by decide +kernel : ∀ k, k < KT → sh k = .inl 2 → len (k + 1) = 3) o (sh_lt h) h
set_option maxRecDepth 20000 in
theorem sl_2_2 {o : Nat} (h : sh o = .inl 2) : len (o + 2) = 3 := (by decide +kernel : ∀ k, k < KT → sh k = .inl 2 → len (k + 2) = 3) o (sh_lt h) h
set_option maxRecDepth 20000 in
theorem sl_2_3 {o : Nat} (h : sh o = .inl 2) : len (o + 3) = 200 := (by decide +kernel : ∀ k, k < KT → sh k = .inl 2 → len (k + 3) = 200) o (sh_lt h) h
set_option maxRecDepth 20000 in
theorem sl_2_4 {o : Nat} (h : sh o = .inl 2) : len (o + 4) = 200 := (by decide +kernel : ∀ k, k < KT → sh k = .inl 2 → len (k + 4) = 200) o (sh_lt h) h
set_option maxRecDepth 20000 in
theorem sl_2_5 {o : Nat} (h : sh o = .inl 2) : len (o + 5) = 200 := (by decide +kernel : ∀ k, k < KT → sh k = .inl 2 → len (k + 5) = 200) o (sh_lt h) h
set_option maxRecDepth 20000 in
theorem sl_2_6 {o : Nat} (h : sh o = .inl 2) : len (o + 6) = 200 := (by decide +kernel : ∀ k, k < KT → sh k = .inl 2 → len (k + 6) = 200) o (sh_lt h) h
set_option maxRecDepth 20000 in
theorem sl_2_7 {o : Nat} (h : sh o = .inl 2) : len (o + 7) = 200 := (by decide +kernel : ∀ k, k < KT → sh k = .inl 2 → len (k + 7) = 200) o (sh_lt h) h
set_option maxRecDepth 20000 in
theorem sl_3_0 {o : Nat} (h : sh o = .inl 3) : len (o + 1) = 8 := (by decide +kernel : ∀ k, k < KT → sh k = .inl 3 → len (k + 1) = 8) o (sh_lt h) h
set_option maxRecDepth 20000 in
theorem sl_3_4 {o : Nat} (h : sh o = .inl 3) : len (o + 2) = 16 := (by decide +kernel : ∀ k, k < KT → sh k = .inl 3 → len (k + 2) = 16) o (sh_lt h) h
set_option maxRecDepth 20000 in
theorem sl_3_7 {o : Nat} (h : sh o = .inl 3) : len (o + 3) = 16 := (by decide +kernel : ∀ k, k < KT → sh k = .inl 3 → len (k + 3) = 16) o (sh_lt h) h
set_option maxRecDepth 20000 in
theorem sl_4_1 {o : Nat} (h : sh o = .inl 4) : len (o + 1) = 40 := (by decide +kernel : ∀ k, k < KT → sh k = .inl 4 → len (k + 1) = 40) o (sh_lt h) h
set_option maxRecDepth 20000 in
theorem sl_4_4 {o : Nat} (h : sh o = .inl 4) : len (o + 2) = 6 := (by decide +kernel : ∀ k, k < KT → sh k = .inl 4 → len (k + 2) = 6) o (sh_lt h) h
set_option maxRecDepth 20000 in
theorem sl_5_0 {o : Nat} (h : sh o = .inl 5) : len (o + 1) = 16 := (by decide +kernel : ∀ k, k < KT → sh k = .inl 5 → len (k + 1) = 16) o (sh_lt h) h
set_option maxRecDepth 20000 in
theorem sl_5_2 {o : Nat} (h : sh o = .inl 5) : len (o + 2) = 8 := (by decide +kernel : ∀ k, k < KT → sh k = .inl 5 → len (k + 2) = 8) o (sh_lt h) h
set_option maxRecDepth 20000 in
theorem sl_6_1 {o : Nat} (h : sh o = .inl 6) : len (o + 1) = 6 := (by decide +kernel : ∀ k, k < KT → sh k = .inl 6 → len (k + 1) = 6) o (sh_lt h) h
set_option maxRecDepth 20000 in
theorem sl_6_2 {o : Nat} (h : sh o = .inl 6) : len (o + 2) = 960 := (by decide +kernel : ∀ k, k < KT → sh k = .inl 6 → len (k + 2) = 960) o (sh_lt h) h
set_option maxRecDepth 20000 in
theorem sl_6_4 {o : Nat} (h : sh o = .inl 6) : len (o + 3) = 10 := (by decide +kernel : ∀ k, k < KT → sh k = .inl 6 → len (k + 3) = 10) o (sh_lt h) h
set_option maxRecDepth 20000 in
theorem sl_6_5 {o : Nat} (h : sh o = .inl 6) : len (o + 4) = 10 := (by decide +kernel : ∀ k, k < KT → sh k = .inl 6 → len (k + 4) = 10) o (sh_lt h) h
set_option maxRecDepth 20000 in
theorem sl_6_6 {o : Nat} (h : sh o = .inl 6) : len (o + 5) = 40 := (by decide +kernel : ∀ k, k < KT → sh k = .inl 6 → len (k + 5) = 40) o (sh_lt h) h
set_option maxRecDepth 20000 in
theorem sl_6_8 {o : Nat} (h : sh o = .inl 6) : len (o + 6) = 24 := (by decide +kernel : ∀ k, k < KT → sh k = .inl 6 → len (k + 6) = 24) o (sh_lt h) h
set_option maxRecDepth 20000 in
theorem sl_6_9 {o : Nat} (h : sh o = .inl 6) : len (o + 7) = 24 := (by decide +kernel : ∀ k, k < KT → sh k = .inl 6 → len (k + 7) = 24) o (sh_lt h) h
set_option maxRecDepth 20000 in
theorem sl_6_11 {o : Nat} (h : sh o = .inl 6) : len (o + 8) = 32 := (by decide +kernel : ∀ k, k < KT → sh k = .inl 6 → len (k + 8) = 32) o (sh_lt h) h
set_option maxRecDepth 20000 in
theorem sl_7_0 {o : Nat} (h : sh o = .inl 7) : len (o + 1) = 6 := (by decide +kernel : ∀ k, k < KT → sh k = .inl 7 → len (k + 1) = 6) o (sh_lt h) h
set_option maxRecDepth 20000 in
theorem sl_7_2 {o : Nat} (h : sh o = .inl 7) : len (o + 2) = 160 := (by decide +kernel : ∀ k, k < KT → sh k = .inl 7 → len (k + 2) = 160) o (sh_lt h) h
set_option maxRecDepth 20000 in
theorem sl_7_4 {o : Nat} (h : sh o = .inl 7) : len (o + 3) = 8 := (by decide +kernel : ∀ k, k < KT → sh k = .inl 7 → len (k + 3) = 8) o (sh_lt h) h
set_option maxRecDepth 20000 in
theorem sl_7_5 {o : Nat} (h : sh o = .inl 7) : len (o + 4) = 64 := (by decide +kernel : ∀ k, k < KT → sh k = .inl 7 → len (k + 4) = 64) o (sh_lt h) h
set_option maxRecDepth 20000 in
theorem sl_7_6 {o : Nat} (h : sh o = .inl 7) : len (o + 5) = 16 := (by decide +kernel : ∀ k, k < KT → sh k = .inl 7 → len (k + 5) = 16) o (sh_lt h) h
set_option maxRecDepth 20000 in
theorem sl_7_7 {o : Nat} (h : sh o = .inl 7) : len (o + 6) = 16 := (by decide +kernel : ∀ k, k < KT → sh k = .inl 7 → len (k + 6) = 16) o (sh_lt h) h
set_option maxRecDepth 20000 in
theorem sl_8_1 {o : Nat} (h : sh o = .inl 8) : len (o + 10) = 4 := (by decide +kernel : ∀ k, k < KT → sh k = .inl 8 → len (k + 10) = 4) o (sh_lt h) h
set_option maxRecDepth 20000 in
theorem sl_8_3 {o : Nat} (h : sh o = .inl 8) : len (o + 14) = 2800 := (by decide +kernel : ∀ k, k < KT → sh k = .inl 8 → len (k + 14) = 2800) o (sh_lt h) h
set_option maxRecDepth 20000 in
theorem sl_8_5 {o : Nat} (h : sh o = .inl 8) : len (o + 15) = 40 := (by decide +kernel : ∀ k, k < KT → sh k = .inl 8 → len (k + 15) = 40) o (sh_lt h) h
set_option maxRecDepth 20000 in
theorem sl_9_1 {o : Nat} (h : sh o = .inl 9) : len (o + 1) = 252 := (by decide +kernel : ∀ k, k < KT → sh k = .inl 9 → len (k + 1) = 252) o (sh_lt h) h
set_option maxRecDepth 20000 in
theorem sl_10_0 {o : Nat} (h : sh o = .inl 10) : len (o + 1) = 256 := (by decide +kernel : ∀ k, k < KT → sh k = .inl 10 → len (k + 1) = 256) o (sh_lt h) h
set_option maxRecDepth 20000 in
theorem sl_10_1 {o : Nat} (h : sh o = .inl 10) : len (o + 2) = 256 := (by decide +kernel : ∀ k, k < KT → sh k = .inl 10 → len (k + 2) = 256) o (sh_lt h) h
set_option maxRecDepth 20000 in
theorem sl_10_2 {o : Nat} (h : sh o = .inl 10) : len (o + 3) = 256 := (by decide +kernel : ∀ k, k < KT → sh k = .inl 10 → len (k + 3) = 256) o (sh_lt h) h
set_option maxRecDepth 20000 in
theorem sl_11_1 {o : Nat} (h : sh o = .inl 11) : len (o + 33) = 2 := (by decide +kernel : ∀ k, k < KT → sh k = .inl 11 → len (k + 33) = 2) o (sh_lt h) h
set_option maxRecDepth 20000 in
theorem sl_11_2 {o : Nat} (h : sh o = .inl 11) : len (o + 34) = 2 := (by decide +kernel : ∀ k, k < KT → sh k = .inl 11 → len (k + 34) = 2) o (sh_lt h) h
set_option maxRecDepth 20000 in
theorem sl_12_0 {o : Nat} (h : sh o = .inl 12) : len (o + 1) = 4230 := (by decide +kernel : ∀ k, k < KT → sh k = .inl 12 → len (k + 1) = 4230) o (sh_lt h) h
set_option maxRecDepth 20000 in
theorem sl_12_1 {o : Nat} (h : sh o = .inl 12) : len (o + 2) = 8460 := (by decide +kernel : ∀ k, k < KT → sh k = .inl 12 → len (k + 2) = 8460) o (sh_lt h) h
set_option maxRecDepth 20000 in
theorem sl_12_2 {o : Nat} (h : sh o = .inl 12) : len (o + 3) = 2 := (by decide +kernel : ∀ k, k < KT → sh k = .inl 12 → len (k + 3) = 2) o (sh_lt h) h
set_option maxRecDepth 20000 in
theorem sl_12_3 {o : Nat} (h : sh o = .inl 12) : len (o + 4) = 160 := (by decide +kernel : ∀ k, k < KT → sh k = .inl 12 → len (k + 4) = 160) o (sh_lt h) h
set_option maxRecDepth 20000 in
theorem sl_12_5 {o : Nat} (h : sh o = .inl 12) : len (o + 5) = 8 := (by decide +kernel : ∀ k, k < KT → sh k = .inl 12 → len (k + 5) = 8) o (sh_lt h) h
set_option maxRecDepth 20000 in
theorem sl_12_6 {o : Nat} (h : sh o = .inl 12) : len (o + 6) = 64 := (by decide +kernel : ∀ k, k < KT → sh k = .inl 12 → len (k + 6) = 64) o (sh_lt h) h
set_option maxRecDepth 20000 in
theorem sl_12_7 {o : Nat} (h : sh o = .inl 12) : len (o + 7) = 16 := (by decide +kernel : ∀ k, k < KT → sh k = .inl 12 → len (k + 7) = 16) o (sh_lt h) h
set_option maxRecDepth 20000 in
theorem sl_12_8 {o : Nat} (h : sh o = .inl 12) : len (o + 8) = 16 := (by decide +kernel : ∀ k, k < KT → sh k = .inl 12 → len (k + 8) = 16) o (sh_lt h) h
set_option maxRecDepth 20000 in
theorem sl_12_9 {o : Nat} (h : sh o = .inl 12) : len (o + 9) = 6 := (by decide +kernel : ∀ k, k < KT → sh k = .inl 12 → len (k + 9) = 6) o (sh_lt h) h
set_option maxRecDepth 20000 in
theorem sl_12_11 {o : Nat} (h : sh o = .inl 12) : len (o + 10) = 200 := (by decide +kernel : ∀ k, k < KT → sh k = .inl 12 → len (k + 10) = 200) o (sh_lt h) h
set_option maxRecDepth 20000 in
theorem sl_12_13 {o : Nat} (h : sh o = .inl 12) : len (o + 11) = 24 := (by decide +kernel : ∀ k, k < KT → sh k = .inl 12 → len (k + 11) = 24) o (sh_lt h) h
set_option maxRecDepth 20000 in
theorem sl_12_14 {o : Nat} (h : sh o = .inl 12) : len (o + 12) = 24 := (by decide +kernel : ∀ k, k < KT → sh k = .inl 12 → len (k + 12) = 24) o (sh_lt h) h
set_option maxRecDepth 20000 in
theorem sl_12_15 {o : Nat} (h : sh o = .inl 12) : len (o + 13) = 24 := (by decide +kernel : ∀ k, k < KT → sh k = .inl 12 → len (k + 13) = 24) o (sh_lt h) h
set_option maxRecDepth 20000 in
theorem sl_12_16 {o : Nat} (h : sh o = .inl 12) : len (o + 14) = 1024 := (by decide +kernel : ∀ k, k < KT → sh k = .inl 12 → len (k + 14) = 1024) o (sh_lt h) h
set_option maxRecDepth 20000 in
theorem sl_12_17 {o : Nat} (h : sh o = .inl 12) : len (o + 15) = 1024 := (by decide +kernel : ∀ k, k < KT → sh k = .inl 12 → len (k + 15) = 1024) o (sh_lt h) h
set_option maxRecDepth 20000 in
theorem sl_12_24 {o : Nat} (h : sh o = .inl 12) : len (o + 16) = 64 := (by decide +kernel : ∀ k, k < KT → sh k = .inl 12 → len (k + 16) = 64) o (sh_lt h) h
set_option maxRecDepth 20000 in
theorem sl_12_26 {o : Nat} (h : sh o = .inl 12) : len (o + 17) = 128 := (by decide +kernel : ∀ k, k < KT → sh k = .inl 12 → len (k + 17) = 128) o (sh_lt h) h
set_option maxRecDepth 20000 in
theorem sl_12_28 {o : Nat} (h : sh o = .inl 12) : len (o + 18) = 6 := (by decide +kernel : ∀ k, k < KT → sh k = .inl 12 → len (k + 18) = 6) o (sh_lt h) h
set_option maxRecDepth 100000 in
theorem ac_native : Cond.native arraycopyName ∈ gtb := gt_mem 657 (by rfl) (by rfl)
set_option maxRecDepth 100000 in
theorem ac_static : Cond.static arraycopyName ∈ gtb := gt_mem 656 (by rfl) (by rfl)
set_option maxRecDepth 100000 in
theorem ac_init : Cond.initialized "java/lang/System" ∈ gtb := gt_mem 75 (by rfl) (by rfl)
set_option maxRecDepth 100000 in
theorem ac_X3_43 : Cond.methodLink RX3 43 arraycopyName ∈ gtb := gt_mem 1120 (by rfl) (by rfl)
set_option maxRecDepth 100000 in
theorem ac_X4_48 : Cond.methodLink RX4 48 arraycopyName ∈ gtb := gt_mem 966 (by rfl) (by rfl)
set_option maxRecDepth 100000 in
theorem ac_X5_22 : Cond.methodLink RX5 22 arraycopyName ∈ gtb := gt_mem 1125 (by rfl) (by rfl)
set_option maxRecDepth 100000 in
theorem ac_X6_40 : Cond.methodLink RX6 40 arraycopyName ∈ gtb := gt_mem 1115 (by rfl) (by rfl)
set_option maxRecDepth 100000 in
theorem ac_X7_109 : Cond.methodLink RX7 109 arraycopyName ∈ gtb := gt_mem 655 (by rfl) (by rfl)
set_option maxRecDepth 100000 in
theorem ac_X8_49 : Cond.methodLink RX8 49 arraycopyName ∈ gtb := gt_mem 1126 (by rfl) (by rfl)
set_option maxRecDepth 100000 in
theorem ac_X10_27 : Cond.methodLink RX10 27 arraycopyName ∈ gtb := gt_mem 782 (by rfl) (by rfl)
/-- >>> of ints -/
def iush (x y : Int32) : Int32 := (x.toUInt32 >>> (y.toUInt32 &&& Int32.toUInt32 31)).toInt32
theorem x_iushv {c : CtxT} {κ : Nat × Nat × Nat} {pc : Nat} {lv : List (Nat × Value)} {st : List Value} {M : Mem} {cc : ByteArray} {nL : Nat} {own : String} {g : Gl} {l : Launch} {rm : Room} {x y : Int32} (C : Cx c cc nL own g l rm) (d : decode cc pc = .ok (.iushr, 1)) (k : X c κ (pc + 1) lv (.int (iush x y) :: st) M) : X c κ pc lv (.int y :: .int x :: st) M := x_iushr C d k
def iabs (x : Int32) : Int32 := if 0 ≤ x then x else 0 - x
def imax (x y : Int32) : Int32 := if x < y then y else x
def imin (x y : Int32) : Int32 := if y < x then y else x
theorem x_mabs {c : CtxT} {pc : Nat} {lv : List (Nat × Value)} {st : List Value} {M : Mem} {cc : ByteArray} {nL : Nat} {own : String} {g : Gl} {l : Launch} {rm : Room} {x : Int32} {index : Nat} (C : Cx c cc nL own g l rm) (ml : MS own index yJ9_abs_0f7a4 cJ9_abs_0f7a4 1 (some .int) 1) (hf : 1 ≤ rm.frames) (hlo : 21 ≤ rm.locals) (hroom : (st.map fun v => v.category).sum ≤ 8) (d : decode cc pc = .ok (.invokestatic index, 3)) (kk : X c S0 (pc + 3) lv (.int (iabs x) :: st) M) : X c S0 pc lv (.int x :: st) M := by
  obtain ⟨p, l, e, R, s, m, args, below, meth, co, Q, g⟩ := c
  obtain ⟨rfl, rfl, hx, hb, hml, hown, hts, hK, hN, hsz, hlk, hstr, rfl⟩ := C
  obtain ⟨m1, m2, m3, m4, m5⟩ := ml
  exact fun H locs ls hP hS hz hl => va_mabs hx hb hl.1.symm hown (hts _ m1) (hts _ m2) (hts _ m3) (hts _ m4) hf (by omega) (Nat.zero_le _) (Nat.zero_le _) d (kk H locs ls hP hS hz hl)
theorem x_mmax {c : CtxT} {pc : Nat} {lv : List (Nat × Value)} {st : List Value} {M : Mem} {cc : ByteArray} {nL : Nat} {own : String} {g : Gl} {l : Launch} {rm : Room} {x y : Int32} {index : Nat} (C : Cx c cc nL own g l rm) (ml : MS own index yJ9_max_7cf53 cJ9_max_7cf53 2 (some .int) 2) (hf : 1 ≤ rm.frames) (hlo : 21 ≤ rm.locals) (hroom : (st.map fun v => v.category).sum ≤ 8) (d : decode cc pc = .ok (.invokestatic index, 3)) (kk : X c S0 (pc + 3) lv (.int (imax x y) :: st) M) : X c S0 pc lv (.int y :: .int x :: st) M := by
  obtain ⟨p, l, e, R, s, m, args, below, meth, co, Q, g⟩ := c
  obtain ⟨rfl, rfl, hx, hb, hml, hown, hts, hK, hN, hsz, hlk, hstr, rfl⟩ := C
  obtain ⟨m1, m2, m3, m4, m5⟩ := ml
  exact fun H locs ls hP hS hz hl => va_mmax hx hb hl.1.symm hown (hts _ m1) (hts _ m2) (hts _ m3) (hts _ m4) hf (by omega) (Nat.zero_le _) (Nat.zero_le _) d (kk H locs ls hP hS hz hl)
theorem x_mmin {c : CtxT} {pc : Nat} {lv : List (Nat × Value)} {st : List Value} {M : Mem} {cc : ByteArray} {nL : Nat} {own : String} {g : Gl} {l : Launch} {rm : Room} {x y : Int32} {index : Nat} (C : Cx c cc nL own g l rm) (ml : MS own index yJ9_min_7cf53 cJ9_min_7cf53 2 (some .int) 2) (hf : 1 ≤ rm.frames) (hlo : 21 ≤ rm.locals) (hroom : (st.map fun v => v.category).sum ≤ 8) (d : decode cc pc = .ok (.invokestatic index, 3)) (kk : X c S0 (pc + 3) lv (.int (imin x y) :: st) M) : X c S0 pc lv (.int y :: .int x :: st) M := by
  obtain ⟨p, l, e, R, s, m, args, below, meth, co, Q, g⟩ := c
  obtain ⟨rfl, rfl, hx, hb, hml, hown, hts, hK, hN, hsz, hlk, hstr, rfl⟩ := C
  obtain ⟨m1, m2, m3, m4, m5⟩ := ml
  exact fun H locs ls hP hS hz hl => va_mmin hx hb hl.1.symm hown (hts _ m1) (hts _ m2) (hts _ m3) (hts _ m4) hf (by omega) (Nat.zero_le _) (Nat.zero_le _) d (kk H locs ls hP hS hz hl)

