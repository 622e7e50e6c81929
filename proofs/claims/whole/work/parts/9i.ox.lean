/-! the start -/
def CX0 : Mem := uN M00 0
def CX1 : Mem := uN CX0 1
def CX2 : Mem := uN CX1 2
def CX3 : Mem := uN CX2 3
def CX4 : Mem := uR CX3 2 1 (some 3)
def CX5 : Mem := uN CX4 4
def CX6 : Mem := uR CX5 2 2 (some 4)
def CX7 : Mem := uN CX6 5
def CX8 : Mem := uR CX7 2 4 (some 5)
def CX9 : Mem := uN CX8 6
def CX10 : Mem := uR CX9 2 5 (some 6)
def CX11 : Mem := uN CX10 7
def CX12 : Mem := uR CX11 2 6 (some 7)
def CX13 : Mem := uN CX12 8
def CX14 : Mem := uR CX13 2 8 (some 8)
def CX15 : Mem := uN CX14 9
def CX16 : Mem := uR CX15 2 9 (some 9)
def CX17 : Mem := uN CX16 10
def CX18 : Mem := uR CX17 2 11 (some 10)
def CX19 : Mem := uR CX18 1 0 (some 2)
def CX20 : Mem := uN CX19 11
def CX21 : Mem := uR CX20 1 1 (some 11)
def CX22 : Mem := uN CX21 12
def CX23 : Mem := uN CX22 13
def CX24 : Mem := uR CX23 12 0 (some 13)
def CX25 : Mem := uN CX24 14
def CX26 : Mem := uR CX25 12 2 (some 14)
def CX27 : Mem := uI CX26 12 4 (20 : Int32)
def CX28 : Mem := uR CX27 1 2 (some 12)
def CX29 : Mem := uN CX28 15
def CX30 : Mem := uR CX29 1 3 (some 15)
def CX31 : Mem := uN CX30 16
def CX32 : Mem := uR CX31 1 5 (some 16)
def CX33 : Mem := uN CX32 17
def CX34 : Mem := uN CX33 18
def CX35 : Mem := uR CX34 17 0 (some 18)
def CX36 : Mem := uI CX35 17 1 (4 : Int32)
def CX37 : Mem := uI CX36 17 2 (4 : Int32)
def CX38 : Mem := uI CX37 17 3 (10 : Int32)
def CX39 : Mem := uN CX38 19
def CX40 : Mem := uR CX39 17 4 (some 19)
def CX41 : Mem := uI CX40 17 5 (4 : Int32)
def CX42 : Mem := uI CX41 17 6 (5 : Int32)
def CX43 : Mem := uN CX42 20
def CX44 : Mem := uR CX43 17 7 (some 20)
def CX45 : Mem := flI CX44 18 8 (1 : Int32)
def CX46 : Mem := flI CX45 19 16 (-1 : Int32)
def CX47 : Mem := uR CX46 11 0 (some 17)
def CX48 : Mem := uN CX47 21
def CX49 : Mem := uN CX48 22
def CX50 : Mem := uR CX49 21 0 (some 22)
def CX51 : Mem := uI CX50 21 1 (4 : Int32)
def CX52 : Mem := uI CX51 21 2 (4 : Int32)
def CX53 : Mem := uI CX52 21 3 (10 : Int32)
def CX54 : Mem := uN CX53 23
def CX55 : Mem := uR CX54 21 4 (some 23)
def CX56 : Mem := uI CX55 21 5 (4 : Int32)
def CX57 : Mem := uI CX56 21 6 (5 : Int32)
def CX58 : Mem := uN CX57 24
def CX59 : Mem := uR CX58 21 7 (some 24)
def CX60 : Mem := flI CX59 22 8 (1 : Int32)
def CX61 : Mem := flI CX60 23 16 (-1 : Int32)
def CX62 : Mem := uR CX61 11 1 (some 21)
def CX63 : Mem := uN CX62 25
def CX64 : Mem := uN CX63 26
def CX65 : Mem := uR CX64 25 0 (some 26)
def CX66 : Mem := uI CX65 25 1 (4 : Int32)
def CX67 : Mem := uI CX66 25 2 (4 : Int32)
def CX68 : Mem := uI CX67 25 3 (10 : Int32)
def CX69 : Mem := uN CX68 27
def CX70 : Mem := uR CX69 25 4 (some 27)
def CX71 : Mem := uI CX70 25 5 (4 : Int32)
def CX72 : Mem := uI CX71 25 6 (5 : Int32)
def CX73 : Mem := uN CX72 28
def CX74 : Mem := uR CX73 25 7 (some 28)
def CX75 : Mem := flI CX74 26 8 (1 : Int32)
def CX76 : Mem := flI CX75 27 16 (-1 : Int32)
def CX77 : Mem := uR CX76 11 2 (some 25)
def CX78 : Mem := uN CX77 29
def CX79 : Mem := uN CX78 30
def CX80 : Mem := uR CX79 29 0 (some 30)
def CX81 : Mem := uI CX80 29 1 (4 : Int32)
def CX82 : Mem := uI CX81 29 2 (4 : Int32)
def CX83 : Mem := uI CX82 29 3 (10 : Int32)
def CX84 : Mem := uN CX83 31
def CX85 : Mem := uR CX84 29 4 (some 31)
def CX86 : Mem := uI CX85 29 5 (4 : Int32)
def CX87 : Mem := uI CX86 29 6 (5 : Int32)
def CX88 : Mem := uN CX87 32
def CX89 : Mem := uR CX88 29 7 (some 32)
def CX90 : Mem := flI CX89 30 8 (1 : Int32)
def CX91 : Mem := flI CX90 31 16 (-1 : Int32)
def CX92 : Mem := uR CX91 11 3 (some 29)
def CX93 : Mem := uR CX92 0 0 (some 1)
def CX94 : Mem := uN CX93 33
def CX95 : Mem := uR CX94 0 1 (some 33)
def CX96 : Mem := uN CX95 34
def CX97 : Mem := uR CX96 0 2 (some 34)
def CX98 : Mem := uN CX97 35
def CX99 : Mem := uN CX98 36
def CX100 : Mem := uR CX99 35 0 (some 36)
def CX101 : Mem := uN CX100 37
def CX102 : Mem := uR CX101 35 2 (some 37)
def CX103 : Mem := uN CX102 38
def CX104 : Mem := uR CX103 35 4 (some 38)
def CX105 : Mem := uN CX104 39
def CX106 : Mem := uR CX105 35 5 (some 39)
def CX107 : Mem := uN CX106 40
def CX108 : Mem := uR CX107 35 6 (some 40)
def CX109 : Mem := uN CX108 41
def CX110 : Mem := uR CX109 35 7 (some 41)
def CX111 : Mem := uN CX110 42
def CX112 : Mem := uN CX111 43
def CX113 : Mem := uR CX112 42 0 (some 43)
def CX114 : Mem := uI CX113 42 1 (4 : Int32)
def CX115 : Mem := uI CX114 42 2 (4 : Int32)
def CX116 : Mem := uI CX115 42 3 (10 : Int32)
def CX117 : Mem := uN CX116 44
def CX118 : Mem := uR CX117 42 4 (some 44)
def CX119 : Mem := uI CX118 42 5 (4 : Int32)
def CX120 : Mem := uI CX119 42 6 (5 : Int32)
def CX121 : Mem := uN CX120 45
def CX122 : Mem := uR CX121 42 7 (some 45)
def CX123 : Mem := flI CX122 43 8 (1 : Int32)
def CX124 : Mem := flI CX123 44 16 (-1 : Int32)
def CX125 : Mem := uR CX124 35 8 (some 42)
def CX126 : Mem := uR CX125 35 9 (some 40)
def CX127 : Mem := uR CX126 35 10 (some 41)
def CX128 : Mem := uR CX127 0 3 (some 35)
def CX129 : Mem := uN CX128 46
def CX130 : Mem := uN CX129 47
def CX131 : Mem := uR CX130 46 0 (some 47)
def CX132 : Mem := uR CX131 0 4 (some 46)
def CX133 : Mem := uN CX132 48
def CX134 : Mem := uN CX133 49
def CX135 : Mem := uR CX134 48 0 (some 49)
def CX136 : Mem := uN CX135 50
def CX137 : Mem := uR CX136 48 1 (some 50)
def CX138 : Mem := uN CX137 51
def CX139 : Mem := uR CX138 48 2 (some 51)
def CX140 : Mem := uR CX139 0 5 (some 48)
def CX141 : Mem := uN CX140 52
def CX142 : Mem := uN CX141 53
def CX143 : Mem := uR CX142 52 2 (some 53)
def CX144 : Mem := uN CX143 54
def CX145 : Mem := uR CX144 52 3 (some 54)
def CX146 : Mem := uN CX145 55
def CX147 : Mem := uR CX146 52 4 (some 55)
def CX148 : Mem := uN CX147 56
def CX149 : Mem := uN CX148 57
def CX150 : Mem := uR CX149 56 0 (some 57)
def CX151 : Mem := uR CX150 52 6 (some 56)
def CX152 : Mem := uR CX151 0 6 (some 52)
def CX153 : Mem := uN CX152 58
def CX154 : Mem := uN CX153 59
def CX155 : Mem := uR CX154 58 1 (some 59)
def CX156 : Mem := uR CX155 0 7 (some 58)
def CX157 : Mem := uN CX156 60
def CX158 : Mem := uN CX157 61
def CX159 : Mem := uR CX158 60 0 (some 61)
def CX160 : Mem := uN CX159 62
def CX161 : Mem := uR CX160 60 2 (some 62)
def CX162 : Mem := uN CX161 63
def CX163 : Mem := uR CX162 60 3 (some 63)
def CX164 : Mem := uN CX163 64
def CX165 : Mem := uR CX164 60 4 (some 64)
def CX166 : Mem := uN CX165 65
def CX167 : Mem := uR CX166 60 5 (some 65)
def CX168 : Mem := uN CX167 66
def CX169 : Mem := uR CX168 60 6 (some 66)
def CX170 : Mem := uN CX169 67
def CX171 : Mem := uR CX170 60 7 (some 67)
def CX172 : Mem := uR CX171 0 8 (some 60)
def CX173 : Mem := uN CX172 68
def CX174 : Mem := uI CX173 68 0 (-1 : Int32)
def CX175 : Mem := uN CX174 69
def CX176 : Mem := uR CX175 68 1 (some 69)
def CX177 : Mem := uN CX176 70
def CX178 : Mem := uR CX177 68 4 (some 70)
def CX179 : Mem := uR CX178 0 9 (some 68)
def CX180 : Mem := uN CX179 71
def CX181 : Mem := uN CX180 72
def CX182 : Mem := uN CX181 73
def CX183 : Mem := uR CX182 72 1 (some 73)
def CX184 : Mem := uN CX183 74
def CX185 : Mem := uR CX184 72 2 (some 74)
def CX186 : Mem := uN CX185 75
def CX187 : Mem := uR CX186 72 4 (some 75)
def CX188 : Mem := uN CX187 76
def CX189 : Mem := uR CX188 72 5 (some 76)
def CX190 : Mem := uN CX189 77
def CX191 : Mem := uR CX190 72 6 (some 77)
def CX192 : Mem := uN CX191 78
def CX193 : Mem := uR CX192 72 8 (some 78)
def CX194 : Mem := uN CX193 79
def CX195 : Mem := uR CX194 72 9 (some 79)
def CX196 : Mem := uN CX195 80
def CX197 : Mem := uR CX196 72 11 (some 80)
def CX198 : Mem := uR CX197 71 0 (some 72)
def CX199 : Mem := uN CX198 81
def CX200 : Mem := uR CX199 71 1 (some 81)
def CX201 : Mem := uN CX200 82
def CX202 : Mem := uN CX201 83
def CX203 : Mem := uR CX202 82 0 (some 83)
def CX204 : Mem := uN CX203 84
def CX205 : Mem := uR CX204 82 2 (some 84)
def CX206 : Mem := uI CX205 82 4 (20 : Int32)
def CX207 : Mem := uR CX206 71 2 (some 82)
def CX208 : Mem := uN CX207 85
def CX209 : Mem := uR CX208 71 3 (some 85)
def CX210 : Mem := uN CX209 86
def CX211 : Mem := uR CX210 71 5 (some 86)
def CX212 : Mem := uN CX211 87
def CX213 : Mem := uN CX212 88
def CX214 : Mem := uR CX213 87 0 (some 88)
def CX215 : Mem := uI CX214 87 1 (4 : Int32)
def CX216 : Mem := uI CX215 87 2 (4 : Int32)
def CX217 : Mem := uI CX216 87 3 (10 : Int32)
def CX218 : Mem := uN CX217 89
def CX219 : Mem := uR CX218 87 4 (some 89)
def CX220 : Mem := uI CX219 87 5 (4 : Int32)
def CX221 : Mem := uI CX220 87 6 (5 : Int32)
def CX222 : Mem := uN CX221 90
def CX223 : Mem := uR CX222 87 7 (some 90)
def CX224 : Mem := flI CX223 88 8 (1 : Int32)
def CX225 : Mem := flI CX224 89 16 (-1 : Int32)
def CX226 : Mem := uR CX225 81 0 (some 87)
def CX227 : Mem := uN CX226 91
def CX228 : Mem := uN CX227 92
def CX229 : Mem := uR CX228 91 0 (some 92)
def CX230 : Mem := uI CX229 91 1 (4 : Int32)
def CX231 : Mem := uI CX230 91 2 (4 : Int32)
def CX232 : Mem := uI CX231 91 3 (10 : Int32)
def CX233 : Mem := uN CX232 93
def CX234 : Mem := uR CX233 91 4 (some 93)
def CX235 : Mem := uI CX234 91 5 (4 : Int32)
def CX236 : Mem := uI CX235 91 6 (5 : Int32)
def CX237 : Mem := uN CX236 94
def CX238 : Mem := uR CX237 91 7 (some 94)
def CX239 : Mem := flI CX238 92 8 (1 : Int32)
def CX240 : Mem := flI CX239 93 16 (-1 : Int32)
def CX241 : Mem := uR CX240 81 1 (some 91)
def CX242 : Mem := uN CX241 95
def CX243 : Mem := uN CX242 96
def CX244 : Mem := uR CX243 95 0 (some 96)
def CX245 : Mem := uI CX244 95 1 (4 : Int32)
def CX246 : Mem := uI CX245 95 2 (4 : Int32)
def CX247 : Mem := uI CX246 95 3 (10 : Int32)
def CX248 : Mem := uN CX247 97
def CX249 : Mem := uR CX248 95 4 (some 97)
def CX250 : Mem := uI CX249 95 5 (4 : Int32)
def CX251 : Mem := uI CX250 95 6 (5 : Int32)
def CX252 : Mem := uN CX251 98
def CX253 : Mem := uR CX252 95 7 (some 98)
def CX254 : Mem := flI CX253 96 8 (1 : Int32)
def CX255 : Mem := flI CX254 97 16 (-1 : Int32)
def CX256 : Mem := uR CX255 81 2 (some 95)
def CX257 : Mem := uN CX256 99
def CX258 : Mem := uN CX257 100
def CX259 : Mem := uR CX258 99 0 (some 100)
def CX260 : Mem := uI CX259 99 1 (4 : Int32)
def CX261 : Mem := uI CX260 99 2 (4 : Int32)
def CX262 : Mem := uI CX261 99 3 (10 : Int32)
def CX263 : Mem := uN CX262 101
def CX264 : Mem := uR CX263 99 4 (some 101)
def CX265 : Mem := uI CX264 99 5 (4 : Int32)
def CX266 : Mem := uI CX265 99 6 (5 : Int32)
def CX267 : Mem := uN CX266 102
def CX268 : Mem := uR CX267 99 7 (some 102)
def CX269 : Mem := flI CX268 100 8 (1 : Int32)
def CX270 : Mem := flI CX269 101 16 (-1 : Int32)
def CX271 : Mem := uR CX270 81 3 (some 99)
def CX272 : Mem := uR CX271 33 0 (some 71)
def CX273 : Mem := uN CX272 103
def CX274 : Mem := uN CX273 104
def CX275 : Mem := uN CX274 105
def CX276 : Mem := uR CX275 104 1 (some 105)
def CX277 : Mem := uN CX276 106
def CX278 : Mem := uR CX277 104 2 (some 106)
def CX279 : Mem := uN CX278 107
def CX280 : Mem := uR CX279 104 4 (some 107)
def CX281 : Mem := uN CX280 108
def CX282 : Mem := uR CX281 104 5 (some 108)
def CX283 : Mem := uN CX282 109
def CX284 : Mem := uR CX283 104 6 (some 109)
def CX285 : Mem := uN CX284 110
def CX286 : Mem := uR CX285 104 8 (some 110)
def CX287 : Mem := uN CX286 111
def CX288 : Mem := uR CX287 104 9 (some 111)
def CX289 : Mem := uN CX288 112
def CX290 : Mem := uR CX289 104 11 (some 112)
def CX291 : Mem := uR CX290 103 0 (some 104)
def CX292 : Mem := uN CX291 113
def CX293 : Mem := uR CX292 103 1 (some 113)
def CX294 : Mem := uN CX293 114
def CX295 : Mem := uN CX294 115
def CX296 : Mem := uR CX295 114 0 (some 115)
def CX297 : Mem := uN CX296 116
def CX298 : Mem := uR CX297 114 2 (some 116)
def CX299 : Mem := uI CX298 114 4 (20 : Int32)
def CX300 : Mem := uR CX299 103 2 (some 114)
def CX301 : Mem := uN CX300 117
def CX302 : Mem := uR CX301 103 3 (some 117)
def CX303 : Mem := uN CX302 118
def CX304 : Mem := uR CX303 103 5 (some 118)
def CX305 : Mem := uN CX304 119
def CX306 : Mem := uN CX305 120
def CX307 : Mem := uR CX306 119 0 (some 120)
def CX308 : Mem := uI CX307 119 1 (4 : Int32)
def CX309 : Mem := uI CX308 119 2 (4 : Int32)
def CX310 : Mem := uI CX309 119 3 (10 : Int32)
def CX311 : Mem := uN CX310 121
def CX312 : Mem := uR CX311 119 4 (some 121)
def CX313 : Mem := uI CX312 119 5 (4 : Int32)
def CX314 : Mem := uI CX313 119 6 (5 : Int32)
def CX315 : Mem := uN CX314 122
def CX316 : Mem := uR CX315 119 7 (some 122)
def CX317 : Mem := flI CX316 120 8 (1 : Int32)
def CX318 : Mem := flI CX317 121 16 (-1 : Int32)
def CX319 : Mem := uR CX318 113 0 (some 119)
def CX320 : Mem := uN CX319 123
def CX321 : Mem := uN CX320 124
def CX322 : Mem := uR CX321 123 0 (some 124)
def CX323 : Mem := uI CX322 123 1 (4 : Int32)
def CX324 : Mem := uI CX323 123 2 (4 : Int32)
def CX325 : Mem := uI CX324 123 3 (10 : Int32)
def CX326 : Mem := uN CX325 125
def CX327 : Mem := uR CX326 123 4 (some 125)
def CX328 : Mem := uI CX327 123 5 (4 : Int32)
def CX329 : Mem := uI CX328 123 6 (5 : Int32)
def CX330 : Mem := uN CX329 126
def CX331 : Mem := uR CX330 123 7 (some 126)
def CX332 : Mem := flI CX331 124 8 (1 : Int32)
def CX333 : Mem := flI CX332 125 16 (-1 : Int32)
def CX334 : Mem := uR CX333 113 1 (some 123)
def CX335 : Mem := uN CX334 127
def CX336 : Mem := uN CX335 128
def CX337 : Mem := uR CX336 127 0 (some 128)
def CX338 : Mem := uI CX337 127 1 (4 : Int32)
def CX339 : Mem := uI CX338 127 2 (4 : Int32)
def CX340 : Mem := uI CX339 127 3 (10 : Int32)
def CX341 : Mem := uN CX340 129
def CX342 : Mem := uR CX341 127 4 (some 129)
def CX343 : Mem := uI CX342 127 5 (4 : Int32)
def CX344 : Mem := uI CX343 127 6 (5 : Int32)
def CX345 : Mem := uN CX344 130
def CX346 : Mem := uR CX345 127 7 (some 130)
def CX347 : Mem := flI CX346 128 8 (1 : Int32)
def CX348 : Mem := flI CX347 129 16 (-1 : Int32)
def CX349 : Mem := uR CX348 113 2 (some 127)
def CX350 : Mem := uN CX349 131
def CX351 : Mem := uN CX350 132
def CX352 : Mem := uR CX351 131 0 (some 132)
def CX353 : Mem := uI CX352 131 1 (4 : Int32)
def CX354 : Mem := uI CX353 131 2 (4 : Int32)
def CX355 : Mem := uI CX354 131 3 (10 : Int32)
def CX356 : Mem := uN CX355 133
def CX357 : Mem := uR CX356 131 4 (some 133)
def CX358 : Mem := uI CX357 131 5 (4 : Int32)
def CX359 : Mem := uI CX358 131 6 (5 : Int32)
def CX360 : Mem := uN CX359 134
def CX361 : Mem := uR CX360 131 7 (some 134)
def CX362 : Mem := flI CX361 132 8 (1 : Int32)
def CX363 : Mem := flI CX362 133 16 (-1 : Int32)
def CX364 : Mem := uR CX363 113 3 (some 131)
def CX365 : Mem := uR CX364 33 1 (some 103)
def CX366 : Mem := uN CX365 135
def CX367 : Mem := uN CX366 136
def CX368 : Mem := uR CX367 135 0 (some 136)
def CX369 : Mem := uN CX368 137
def CX370 : Mem := uR CX369 135 1 (some 137)
def CX371 : Mem := uN CX370 138
def CX372 : Mem := uR CX371 135 2 (some 138)
def CX373 : Mem := uN CX372 139
def CX374 : Mem := uR CX373 135 3 (some 139)
def CX375 : Mem := uN CX374 140
def CX376 : Mem := uR CX375 135 5 (some 140)
def CX377 : Mem := uN CX376 141
def CX378 : Mem := uR CX377 135 6 (some 141)
def CX379 : Mem := uN CX378 142
def CX380 : Mem := uR CX379 135 7 (some 142)
def CX381 : Mem := uN CX380 143
def CX382 : Mem := uR CX381 135 8 (some 143)
def CX383 : Mem := uN CX382 144
def CX384 : Mem := uR CX383 135 9 (some 144)
def CX385 : Mem := uN CX384 145
def CX386 : Mem := uR CX385 135 11 (some 145)
def CX387 : Mem := uN CX386 146
def CX388 : Mem := uR CX387 135 13 (some 146)
def CX389 : Mem := uN CX388 147
def CX390 : Mem := uR CX389 135 14 (some 147)
def CX391 : Mem := uN CX390 148
def CX392 : Mem := uR CX391 135 15 (some 148)
def CX393 : Mem := uN CX392 149
def CX394 : Mem := uR CX393 135 16 (some 149)
def CX395 : Mem := uN CX394 150
def CX396 : Mem := uR CX395 135 17 (some 150)
def CX397 : Mem := uN CX396 151
def CX398 : Mem := uR CX397 135 24 (some 151)
def CX399 : Mem := uN CX398 152
def CX400 : Mem := uR CX399 135 26 (some 152)
def CX401 : Mem := uN CX400 153
def CX402 : Mem := uR CX401 135 28 (some 153)
def CX403 : Mem := uI CX402 136 1106 (1 : Int32)
def CX404 : Mem := uI CX403 136 1107 (1 : Int32)
def CX405 : Mem := uI CX404 136 1108 (1 : Int32)
def CX406 : Mem := uI CX405 136 1109 (1 : Int32)
def CX407 : Mem := uI CX406 136 1110 (1 : Int32)
def CX408 : Mem := uI CX407 136 1111 (1 : Int32)
def CX409 : Mem := uI CX408 136 1112 (1 : Int32)
def CX410 : Mem := uI CX409 136 1113 (1 : Int32)
def CX411 : Mem := uI CX410 136 1114 (4 : Int32)
def CX412 : Mem := uI CX411 136 1115 (4 : Int32)
def CX413 : Mem := uI CX412 136 1116 (10 : Int32)
def CX414 : Mem := uI CX413 136 1117 (4 : Int32)
def CX415 : Mem := uI CX414 136 1118 (5 : Int32)
def CX416 : Mem := uI CX415 136 1126 (-1 : Int32)
def CX417 : Mem := uI CX416 136 1127 (-1 : Int32)
def CX418 : Mem := uI CX417 136 1128 (-1 : Int32)
def CX419 : Mem := uI CX418 136 1129 (-1 : Int32)
def CX420 : Mem := uI CX419 136 1130 (-1 : Int32)
def CX421 : Mem := uI CX420 136 1131 (-1 : Int32)
def CX422 : Mem := uI CX421 136 1132 (-1 : Int32)
def CX423 : Mem := uI CX422 136 1133 (-1 : Int32)
def CX424 : Mem := uI CX423 136 1134 (-1 : Int32)
def CX425 : Mem := uI CX424 136 1135 (-1 : Int32)
def CX426 : Mem := uI CX425 136 1136 (-1 : Int32)
def CX427 : Mem := uI CX426 136 1137 (-1 : Int32)
def CX428 : Mem := uI CX427 136 1138 (-1 : Int32)
def CX429 : Mem := uI CX428 136 1139 (-1 : Int32)
def CX430 : Mem := uI CX429 136 1140 (-1 : Int32)
def CX431 : Mem := uI CX430 136 1141 (-1 : Int32)
def CX432 : Mem := uI CX431 136 1166 (1 : Int32)
def CX433 : Mem := uI CX432 136 1167 (1 : Int32)
def CX434 : Mem := uI CX433 136 1168 (1 : Int32)
def CX435 : Mem := uI CX434 136 1169 (1 : Int32)
def CX436 : Mem := uI CX435 136 1170 (1 : Int32)
def CX437 : Mem := uI CX436 136 1171 (1 : Int32)
def CX438 : Mem := uI CX437 136 1172 (1 : Int32)
def CX439 : Mem := uI CX438 136 1173 (1 : Int32)
def CX440 : Mem := uI CX439 136 1174 (4 : Int32)
def CX441 : Mem := uI CX440 136 1175 (4 : Int32)
def CX442 : Mem := uI CX441 136 1176 (10 : Int32)
def CX443 : Mem := uI CX442 136 1177 (4 : Int32)
def CX444 : Mem := uI CX443 136 1178 (5 : Int32)
def CX445 : Mem := uI CX444 136 1186 (-1 : Int32)
def CX446 : Mem := uI CX445 136 1187 (-1 : Int32)
def CX447 : Mem := uI CX446 136 1188 (-1 : Int32)
def CX448 : Mem := uI CX447 136 1189 (-1 : Int32)
def CX449 : Mem := uI CX448 136 1190 (-1 : Int32)
def CX450 : Mem := uI CX449 136 1191 (-1 : Int32)
def CX451 : Mem := uI CX450 136 1192 (-1 : Int32)
def CX452 : Mem := uI CX451 136 1193 (-1 : Int32)
def CX453 : Mem := uI CX452 136 1194 (-1 : Int32)
def CX454 : Mem := uI CX453 136 1195 (-1 : Int32)
def CX455 : Mem := uI CX454 136 1196 (-1 : Int32)
def CX456 : Mem := uI CX455 136 1197 (-1 : Int32)
def CX457 : Mem := uI CX456 136 1198 (-1 : Int32)
def CX458 : Mem := uI CX457 136 1199 (-1 : Int32)
def CX459 : Mem := uI CX458 136 1200 (-1 : Int32)
def CX460 : Mem := uI CX459 136 1201 (-1 : Int32)
def CX461 : Mem := uI CX460 136 1226 (1 : Int32)
def CX462 : Mem := uI CX461 136 1227 (1 : Int32)
def CX463 : Mem := uI CX462 136 1228 (1 : Int32)
def CX464 : Mem := uI CX463 136 1229 (1 : Int32)
def CX465 : Mem := uI CX464 136 1230 (1 : Int32)
def CX466 : Mem := uI CX465 136 1231 (1 : Int32)
def CX467 : Mem := uI CX466 136 1232 (1 : Int32)
def CX468 : Mem := uI CX467 136 1233 (1 : Int32)
def CX469 : Mem := uI CX468 136 1234 (4 : Int32)
def CX470 : Mem := uI CX469 136 1235 (4 : Int32)
def CX471 : Mem := uI CX470 136 1236 (10 : Int32)
def CX472 : Mem := uI CX471 136 1237 (4 : Int32)
def CX473 : Mem := uI CX472 136 1238 (5 : Int32)
def CX474 : Mem := uI CX473 136 1246 (-1 : Int32)
def CX475 : Mem := uI CX474 136 1247 (-1 : Int32)
def CX476 : Mem := uI CX475 136 1248 (-1 : Int32)
def CX477 : Mem := uI CX476 136 1249 (-1 : Int32)
def CX478 : Mem := uI CX477 136 1250 (-1 : Int32)
def CX479 : Mem := uI CX478 136 1251 (-1 : Int32)
def CX480 : Mem := uI CX479 136 1252 (-1 : Int32)
def CX481 : Mem := uI CX480 136 1253 (-1 : Int32)
def CX482 : Mem := uI CX481 136 1254 (-1 : Int32)
def CX483 : Mem := uI CX482 136 1255 (-1 : Int32)
def CX484 : Mem := uI CX483 136 1256 (-1 : Int32)
def CX485 : Mem := uI CX484 136 1257 (-1 : Int32)
def CX486 : Mem := uI CX485 136 1258 (-1 : Int32)
def CX487 : Mem := uI CX486 136 1259 (-1 : Int32)
def CX488 : Mem := uI CX487 136 1260 (-1 : Int32)
def CX489 : Mem := uI CX488 136 1261 (-1 : Int32)
def CX490 : Mem := uI CX489 136 1286 (1 : Int32)
def CX491 : Mem := uI CX490 136 1287 (1 : Int32)
def CX492 : Mem := uI CX491 136 1288 (1 : Int32)
def CX493 : Mem := uI CX492 136 1289 (1 : Int32)
def CX494 : Mem := uI CX493 136 1290 (1 : Int32)
def CX495 : Mem := uI CX494 136 1291 (1 : Int32)
def CX496 : Mem := uI CX495 136 1292 (1 : Int32)
def CX497 : Mem := uI CX496 136 1293 (1 : Int32)
def CX498 : Mem := uI CX497 136 1294 (4 : Int32)
def CX499 : Mem := uI CX498 136 1295 (4 : Int32)
def CX500 : Mem := uI CX499 136 1296 (10 : Int32)
def CX501 : Mem := uI CX500 136 1297 (4 : Int32)
def CX502 : Mem := uI CX501 136 1298 (5 : Int32)
def CX503 : Mem := uI CX502 136 1306 (-1 : Int32)
def CX504 : Mem := uI CX503 136 1307 (-1 : Int32)
def CX505 : Mem := uI CX504 136 1308 (-1 : Int32)
def CX506 : Mem := uI CX505 136 1309 (-1 : Int32)
def CX507 : Mem := uI CX506 136 1310 (-1 : Int32)
def CX508 : Mem := uI CX507 136 1311 (-1 : Int32)
def CX509 : Mem := uI CX508 136 1312 (-1 : Int32)
def CX510 : Mem := uI CX509 136 1313 (-1 : Int32)
def CX511 : Mem := uI CX510 136 1314 (-1 : Int32)
def CX512 : Mem := uI CX511 136 1315 (-1 : Int32)
def CX513 : Mem := uI CX512 136 1316 (-1 : Int32)
def CX514 : Mem := uI CX513 136 1317 (-1 : Int32)
def CX515 : Mem := uI CX514 136 1318 (-1 : Int32)
def CX516 : Mem := uI CX515 136 1319 (-1 : Int32)
def CX517 : Mem := uI CX516 136 1320 (-1 : Int32)
def CX518 : Mem := uI CX517 136 1321 (-1 : Int32)
def CX519 : Mem := uI CX518 136 4218 (20 : Int32)
set_option maxRecDepth 100000 in
theorem st_11 {q : Mem → Prop} (h : q CX365) : w_X11_init CX0 q := by
  intro A e; have e : A = CX1 := e; subst e
  intro A e; have e : A = CX2 := e; subst e
  intro A e; have e : A = CX3 := e; subst e
  intro A e; have e : A = CX4 := e; subst e
  intro A e; have e : A = CX5 := e; subst e
  intro A e; have e : A = CX6 := e; subst e
  intro A e; have e : A = CX7 := e; subst e
  intro A e; have e : A = CX8 := e; subst e
  intro A e; have e : A = CX9 := e; subst e
  intro A e; have e : A = CX10 := e; subst e
  intro A e; have e : A = CX11 := e; subst e
  intro A e; have e : A = CX12 := e; subst e
  intro A e; have e : A = CX13 := e; subst e
  intro A e; have e : A = CX14 := e; subst e
  intro A e; have e : A = CX15 := e; subst e
  intro A e; have e : A = CX16 := e; subst e
  intro A e; have e : A = CX17 := e; subst e
  intro A e; have e : A = CX18 := e; subst e
  intro A e; have e : A = CX19 := e; subst e
  intro A e; have e : A = CX20 := e; subst e
  intro A e; have e : A = CX21 := e; subst e
  intro A e; have e : A = CX22 := e; subst e
  intro A e; have e : A = CX23 := e; subst e
  intro A e; have e : A = CX24 := e; subst e
  intro A e; have e : A = CX25 := e; subst e
  intro A e; have e : A = CX26 := e; subst e
  intro A e; have e : A = CX27 := e; subst e
  intro A e; have e : A = CX28 := e; subst e
  intro A e; have e : A = CX29 := e; subst e
  intro A e; have e : A = CX30 := e; subst e
  intro A e; have e : A = CX31 := e; subst e
  intro A e; have e : A = CX32 := e; subst e
  refine ⟨by decide +kernel, ?_⟩
  intro A e; have e : A = CX33 := e; subst e
  intro A e; have e : A = CX34 := e; subst e
  intro A e; have e : A = CX35 := e; subst e
  intro A e; have e : A = CX36 := e; subst e
  intro A e; have e : A = CX37 := e; subst e
  intro A e; have e : A = CX38 := e; subst e
  intro A e; have e : A = CX39 := e; subst e
  intro A e; have e : A = CX40 := e; subst e
  intro A e; have e : A = CX41 := e; subst e
  intro A e; have e : A = CX42 := e; subst e
  intro A e; have e : A = CX43 := e; subst e
  intro A e; have e : A = CX44 := e; subst e
  refine ⟨by decide +kernel, ?_⟩
  intro A e; have e : A = CX45 := e; subst e
  refine ⟨by decide +kernel, ?_⟩
  intro A e; have e : A = CX46 := e; subst e
  intro A e; have e : A = CX47 := e; subst e
  refine ⟨by decide +kernel, ?_⟩
  intro A e; have e : A = CX48 := e; subst e
  intro A e; have e : A = CX49 := e; subst e
  intro A e; have e : A = CX50 := e; subst e
  intro A e; have e : A = CX51 := e; subst e
  intro A e; have e : A = CX52 := e; subst e
  intro A e; have e : A = CX53 := e; subst e
  intro A e; have e : A = CX54 := e; subst e
  intro A e; have e : A = CX55 := e; subst e
  intro A e; have e : A = CX56 := e; subst e
  intro A e; have e : A = CX57 := e; subst e
  intro A e; have e : A = CX58 := e; subst e
  intro A e; have e : A = CX59 := e; subst e
  refine ⟨by decide +kernel, ?_⟩
  intro A e; have e : A = CX60 := e; subst e
  refine ⟨by decide +kernel, ?_⟩
  intro A e; have e : A = CX61 := e; subst e
  intro A e; have e : A = CX62 := e; subst e
  refine ⟨by decide +kernel, ?_⟩
  intro A e; have e : A = CX63 := e; subst e
  intro A e; have e : A = CX64 := e; subst e
  intro A e; have e : A = CX65 := e; subst e
  intro A e; have e : A = CX66 := e; subst e
  intro A e; have e : A = CX67 := e; subst e
  intro A e; have e : A = CX68 := e; subst e
  intro A e; have e : A = CX69 := e; subst e
  intro A e; have e : A = CX70 := e; subst e
  intro A e; have e : A = CX71 := e; subst e
  intro A e; have e : A = CX72 := e; subst e
  intro A e; have e : A = CX73 := e; subst e
  intro A e; have e : A = CX74 := e; subst e
  refine ⟨by decide +kernel, ?_⟩
  intro A e; have e : A = CX75 := e; subst e
  refine ⟨by decide +kernel, ?_⟩
  intro A e; have e : A = CX76 := e; subst e
  intro A e; have e : A = CX77 := e; subst e
  refine ⟨by decide +kernel, ?_⟩
  intro A e; have e : A = CX78 := e; subst e
  intro A e; have e : A = CX79 := e; subst e
  intro A e; have e : A = CX80 := e; subst e
  intro A e; have e : A = CX81 := e; subst e
  intro A e; have e : A = CX82 := e; subst e
  intro A e; have e : A = CX83 := e; subst e
  intro A e; have e : A = CX84 := e; subst e
  intro A e; have e : A = CX85 := e; subst e
  intro A e; have e : A = CX86 := e; subst e
  intro A e; have e : A = CX87 := e; subst e
  intro A e; have e : A = CX88 := e; subst e
  intro A e; have e : A = CX89 := e; subst e
  refine ⟨by decide +kernel, ?_⟩
  intro A e; have e : A = CX90 := e; subst e
  refine ⟨by decide +kernel, ?_⟩
  intro A e; have e : A = CX91 := e; subst e
  intro A e; have e : A = CX92 := e; subst e
  intro A e; have e : A = CX93 := e; subst e
  intro A e; have e : A = CX94 := e; subst e
  intro A e; have e : A = CX95 := e; subst e
  intro A e; have e : A = CX96 := e; subst e
  intro A e; have e : A = CX97 := e; subst e
  intro A e; have e : A = CX98 := e; subst e
  intro A e; have e : A = CX99 := e; subst e
  intro A e; have e : A = CX100 := e; subst e
  intro A e; have e : A = CX101 := e; subst e
  intro A e; have e : A = CX102 := e; subst e
  intro A e; have e : A = CX103 := e; subst e
  intro A e; have e : A = CX104 := e; subst e
  intro A e; have e : A = CX105 := e; subst e
  intro A e; have e : A = CX106 := e; subst e
  intro A e; have e : A = CX107 := e; subst e
  intro A e; have e : A = CX108 := e; subst e
  intro A e; have e : A = CX109 := e; subst e
  intro A e; have e : A = CX110 := e; subst e
  intro A e; have e : A = CX111 := e; subst e
  intro A e; have e : A = CX112 := e; subst e
  intro A e; have e : A = CX113 := e; subst e
  intro A e; have e : A = CX114 := e; subst e
  intro A e; have e : A = CX115 := e; subst e
  intro A e; have e : A = CX116 := e; subst e
  intro A e; have e : A = CX117 := e; subst e
  intro A e; have e : A = CX118 := e; subst e
  intro A e; have e : A = CX119 := e; subst e
  intro A e; have e : A = CX120 := e; subst e
  intro A e; have e : A = CX121 := e; subst e
  intro A e; have e : A = CX122 := e; subst e
  refine ⟨by decide +kernel, ?_⟩
  intro A e; have e : A = CX123 := e; subst e
  refine ⟨by decide +kernel, ?_⟩
  intro A e; have e : A = CX124 := e; subst e
  intro A e; have e : A = CX125 := e; subst e
  refine ⟨by decide +kernel, ?_⟩
  intro A e; have e : A = CX126 := e; subst e
  refine ⟨by decide +kernel, ?_⟩
  intro A e; have e : A = CX127 := e; subst e
  intro A e; have e : A = CX128 := e; subst e
  intro A e; have e : A = CX129 := e; subst e
  intro A e; have e : A = CX130 := e; subst e
  intro A e; have e : A = CX131 := e; subst e
  intro A e; have e : A = CX132 := e; subst e
  intro A e; have e : A = CX133 := e; subst e
  intro A e; have e : A = CX134 := e; subst e
  intro A e; have e : A = CX135 := e; subst e
  intro A e; have e : A = CX136 := e; subst e
  intro A e; have e : A = CX137 := e; subst e
  intro A e; have e : A = CX138 := e; subst e
  intro A e; have e : A = CX139 := e; subst e
  intro A e; have e : A = CX140 := e; subst e
  intro A e; have e : A = CX141 := e; subst e
  intro A e; have e : A = CX142 := e; subst e
  intro A e; have e : A = CX143 := e; subst e
  intro A e; have e : A = CX144 := e; subst e
  intro A e; have e : A = CX145 := e; subst e
  intro A e; have e : A = CX146 := e; subst e
  intro A e; have e : A = CX147 := e; subst e
  intro A e; have e : A = CX148 := e; subst e
  intro A e; have e : A = CX149 := e; subst e
  intro A e; have e : A = CX150 := e; subst e
  intro A e; have e : A = CX151 := e; subst e
  intro A e; have e : A = CX152 := e; subst e
  intro A e; have e : A = CX153 := e; subst e
  intro A e; have e : A = CX154 := e; subst e
  intro A e; have e : A = CX155 := e; subst e
  intro A e; have e : A = CX156 := e; subst e
  intro A e; have e : A = CX157 := e; subst e
  intro A e; have e : A = CX158 := e; subst e
  intro A e; have e : A = CX159 := e; subst e
  intro A e; have e : A = CX160 := e; subst e
  intro A e; have e : A = CX161 := e; subst e
  intro A e; have e : A = CX162 := e; subst e
  intro A e; have e : A = CX163 := e; subst e
  intro A e; have e : A = CX164 := e; subst e
  intro A e; have e : A = CX165 := e; subst e
  intro A e; have e : A = CX166 := e; subst e
  intro A e; have e : A = CX167 := e; subst e
  intro A e; have e : A = CX168 := e; subst e
  intro A e; have e : A = CX169 := e; subst e
  intro A e; have e : A = CX170 := e; subst e
  intro A e; have e : A = CX171 := e; subst e
  intro A e; have e : A = CX172 := e; subst e
  intro A e; have e : A = CX173 := e; subst e
  intro A e; have e : A = CX174 := e; subst e
  intro A e; have e : A = CX175 := e; subst e
  intro A e; have e : A = CX176 := e; subst e
  intro A e; have e : A = CX177 := e; subst e
  intro A e; have e : A = CX178 := e; subst e
  intro A e; have e : A = CX179 := e; subst e
  refine ⟨by decide +kernel, ?_⟩
  intro A e; have e : A = CX180 := e; subst e
  intro A e; have e : A = CX181 := e; subst e
  intro A e; have e : A = CX182 := e; subst e
  intro A e; have e : A = CX183 := e; subst e
  intro A e; have e : A = CX184 := e; subst e
  intro A e; have e : A = CX185 := e; subst e
  intro A e; have e : A = CX186 := e; subst e
  intro A e; have e : A = CX187 := e; subst e
  intro A e; have e : A = CX188 := e; subst e
  intro A e; have e : A = CX189 := e; subst e
  intro A e; have e : A = CX190 := e; subst e
  intro A e; have e : A = CX191 := e; subst e
  intro A e; have e : A = CX192 := e; subst e
  intro A e; have e : A = CX193 := e; subst e
  intro A e; have e : A = CX194 := e; subst e
  intro A e; have e : A = CX195 := e; subst e
  intro A e; have e : A = CX196 := e; subst e
  intro A e; have e : A = CX197 := e; subst e
  intro A e; have e : A = CX198 := e; subst e
  intro A e; have e : A = CX199 := e; subst e
  intro A e; have e : A = CX200 := e; subst e
  intro A e; have e : A = CX201 := e; subst e
  intro A e; have e : A = CX202 := e; subst e
  intro A e; have e : A = CX203 := e; subst e
  intro A e; have e : A = CX204 := e; subst e
  intro A e; have e : A = CX205 := e; subst e
  intro A e; have e : A = CX206 := e; subst e
  intro A e; have e : A = CX207 := e; subst e
  intro A e; have e : A = CX208 := e; subst e
  intro A e; have e : A = CX209 := e; subst e
  intro A e; have e : A = CX210 := e; subst e
  intro A e; have e : A = CX211 := e; subst e
  refine ⟨by decide +kernel, ?_⟩
  intro A e; have e : A = CX212 := e; subst e
  intro A e; have e : A = CX213 := e; subst e
  intro A e; have e : A = CX214 := e; subst e
  intro A e; have e : A = CX215 := e; subst e
  intro A e; have e : A = CX216 := e; subst e
  intro A e; have e : A = CX217 := e; subst e
  intro A e; have e : A = CX218 := e; subst e
  intro A e; have e : A = CX219 := e; subst e
  intro A e; have e : A = CX220 := e; subst e
  intro A e; have e : A = CX221 := e; subst e
  intro A e; have e : A = CX222 := e; subst e
  intro A e; have e : A = CX223 := e; subst e
  refine ⟨by decide +kernel, ?_⟩
  intro A e; have e : A = CX224 := e; subst e
  refine ⟨by decide +kernel, ?_⟩
  intro A e; have e : A = CX225 := e; subst e
  intro A e; have e : A = CX226 := e; subst e
  refine ⟨by decide +kernel, ?_⟩
  intro A e; have e : A = CX227 := e; subst e
  intro A e; have e : A = CX228 := e; subst e
  intro A e; have e : A = CX229 := e; subst e
  intro A e; have e : A = CX230 := e; subst e
  intro A e; have e : A = CX231 := e; subst e
  intro A e; have e : A = CX232 := e; subst e
  intro A e; have e : A = CX233 := e; subst e
  intro A e; have e : A = CX234 := e; subst e
  intro A e; have e : A = CX235 := e; subst e
  intro A e; have e : A = CX236 := e; subst e
  intro A e; have e : A = CX237 := e; subst e
  intro A e; have e : A = CX238 := e; subst e
  refine ⟨by decide +kernel, ?_⟩
  intro A e; have e : A = CX239 := e; subst e
  refine ⟨by decide +kernel, ?_⟩
  intro A e; have e : A = CX240 := e; subst e
  intro A e; have e : A = CX241 := e; subst e
  refine ⟨by decide +kernel, ?_⟩
  intro A e; have e : A = CX242 := e; subst e
  intro A e; have e : A = CX243 := e; subst e
  intro A e; have e : A = CX244 := e; subst e
  intro A e; have e : A = CX245 := e; subst e
  intro A e; have e : A = CX246 := e; subst e
  intro A e; have e : A = CX247 := e; subst e
  intro A e; have e : A = CX248 := e; subst e
  intro A e; have e : A = CX249 := e; subst e
  intro A e; have e : A = CX250 := e; subst e
  intro A e; have e : A = CX251 := e; subst e
  intro A e; have e : A = CX252 := e; subst e
  intro A e; have e : A = CX253 := e; subst e
  refine ⟨by decide +kernel, ?_⟩
  intro A e; have e : A = CX254 := e; subst e
  refine ⟨by decide +kernel, ?_⟩
  intro A e; have e : A = CX255 := e; subst e
  intro A e; have e : A = CX256 := e; subst e
  refine ⟨by decide +kernel, ?_⟩
  intro A e; have e : A = CX257 := e; subst e
  intro A e; have e : A = CX258 := e; subst e
  intro A e; have e : A = CX259 := e; subst e
  intro A e; have e : A = CX260 := e; subst e
  intro A e; have e : A = CX261 := e; subst e
  intro A e; have e : A = CX262 := e; subst e
  intro A e; have e : A = CX263 := e; subst e
  intro A e; have e : A = CX264 := e; subst e
  intro A e; have e : A = CX265 := e; subst e
  intro A e; have e : A = CX266 := e; subst e
  intro A e; have e : A = CX267 := e; subst e
  intro A e; have e : A = CX268 := e; subst e
  refine ⟨by decide +kernel, ?_⟩
  intro A e; have e : A = CX269 := e; subst e
  refine ⟨by decide +kernel, ?_⟩
  intro A e; have e : A = CX270 := e; subst e
  intro A e; have e : A = CX271 := e; subst e
  intro A e; have e : A = CX272 := e; subst e
  refine ⟨by decide +kernel, ?_⟩
  intro A e; have e : A = CX273 := e; subst e
  intro A e; have e : A = CX274 := e; subst e
  intro A e; have e : A = CX275 := e; subst e
  intro A e; have e : A = CX276 := e; subst e
  intro A e; have e : A = CX277 := e; subst e
  intro A e; have e : A = CX278 := e; subst e
  intro A e; have e : A = CX279 := e; subst e
  intro A e; have e : A = CX280 := e; subst e
  intro A e; have e : A = CX281 := e; subst e
  intro A e; have e : A = CX282 := e; subst e
  intro A e; have e : A = CX283 := e; subst e
  intro A e; have e : A = CX284 := e; subst e
  intro A e; have e : A = CX285 := e; subst e
  intro A e; have e : A = CX286 := e; subst e
  intro A e; have e : A = CX287 := e; subst e
  intro A e; have e : A = CX288 := e; subst e
  intro A e; have e : A = CX289 := e; subst e
  intro A e; have e : A = CX290 := e; subst e
  intro A e; have e : A = CX291 := e; subst e
  intro A e; have e : A = CX292 := e; subst e
  intro A e; have e : A = CX293 := e; subst e
  intro A e; have e : A = CX294 := e; subst e
  intro A e; have e : A = CX295 := e; subst e
  intro A e; have e : A = CX296 := e; subst e
  intro A e; have e : A = CX297 := e; subst e
  intro A e; have e : A = CX298 := e; subst e
  intro A e; have e : A = CX299 := e; subst e
  intro A e; have e : A = CX300 := e; subst e
  intro A e; have e : A = CX301 := e; subst e
  intro A e; have e : A = CX302 := e; subst e
  intro A e; have e : A = CX303 := e; subst e
  intro A e; have e : A = CX304 := e; subst e
  refine ⟨by decide +kernel, ?_⟩
  intro A e; have e : A = CX305 := e; subst e
  intro A e; have e : A = CX306 := e; subst e
  intro A e; have e : A = CX307 := e; subst e
  intro A e; have e : A = CX308 := e; subst e
  intro A e; have e : A = CX309 := e; subst e
  intro A e; have e : A = CX310 := e; subst e
  intro A e; have e : A = CX311 := e; subst e
  intro A e; have e : A = CX312 := e; subst e
  intro A e; have e : A = CX313 := e; subst e
  intro A e; have e : A = CX314 := e; subst e
  intro A e; have e : A = CX315 := e; subst e
  intro A e; have e : A = CX316 := e; subst e
  refine ⟨by decide +kernel, ?_⟩
  intro A e; have e : A = CX317 := e; subst e
  refine ⟨by decide +kernel, ?_⟩
  intro A e; have e : A = CX318 := e; subst e
  intro A e; have e : A = CX319 := e; subst e
  refine ⟨by decide +kernel, ?_⟩
  intro A e; have e : A = CX320 := e; subst e
  intro A e; have e : A = CX321 := e; subst e
  intro A e; have e : A = CX322 := e; subst e
  intro A e; have e : A = CX323 := e; subst e
  intro A e; have e : A = CX324 := e; subst e
  intro A e; have e : A = CX325 := e; subst e
  intro A e; have e : A = CX326 := e; subst e
  intro A e; have e : A = CX327 := e; subst e
  intro A e; have e : A = CX328 := e; subst e
  intro A e; have e : A = CX329 := e; subst e
  intro A e; have e : A = CX330 := e; subst e
  intro A e; have e : A = CX331 := e; subst e
  refine ⟨by decide +kernel, ?_⟩
  intro A e; have e : A = CX332 := e; subst e
  refine ⟨by decide +kernel, ?_⟩
  intro A e; have e : A = CX333 := e; subst e
  intro A e; have e : A = CX334 := e; subst e
  refine ⟨by decide +kernel, ?_⟩
  intro A e; have e : A = CX335 := e; subst e
  intro A e; have e : A = CX336 := e; subst e
  intro A e; have e : A = CX337 := e; subst e
  intro A e; have e : A = CX338 := e; subst e
  intro A e; have e : A = CX339 := e; subst e
  intro A e; have e : A = CX340 := e; subst e
  intro A e; have e : A = CX341 := e; subst e
  intro A e; have e : A = CX342 := e; subst e
  intro A e; have e : A = CX343 := e; subst e
  intro A e; have e : A = CX344 := e; subst e
  intro A e; have e : A = CX345 := e; subst e
  intro A e; have e : A = CX346 := e; subst e
  refine ⟨by decide +kernel, ?_⟩
  intro A e; have e : A = CX347 := e; subst e
  refine ⟨by decide +kernel, ?_⟩
  intro A e; have e : A = CX348 := e; subst e
  intro A e; have e : A = CX349 := e; subst e
  refine ⟨by decide +kernel, ?_⟩
  intro A e; have e : A = CX350 := e; subst e
  intro A e; have e : A = CX351 := e; subst e
  intro A e; have e : A = CX352 := e; subst e
  intro A e; have e : A = CX353 := e; subst e
  intro A e; have e : A = CX354 := e; subst e
  intro A e; have e : A = CX355 := e; subst e
  intro A e; have e : A = CX356 := e; subst e
  intro A e; have e : A = CX357 := e; subst e
  intro A e; have e : A = CX358 := e; subst e
  intro A e; have e : A = CX359 := e; subst e
  intro A e; have e : A = CX360 := e; subst e
  intro A e; have e : A = CX361 := e; subst e
  refine ⟨by decide +kernel, ?_⟩
  intro A e; have e : A = CX362 := e; subst e
  refine ⟨by decide +kernel, ?_⟩
  intro A e; have e : A = CX363 := e; subst e
  intro A e; have e : A = CX364 := e; subst e
  intro A e; have e : A = CX365 := e; subst e
  exact h
set_option maxRecDepth 100000 in
theorem st_12 {q : Mem → Prop} (h : q CX519) : w_X12_init CX366 q := by
  intro A e; have e : A = CX367 := e; subst e
  intro A e; have e : A = CX368 := e; subst e
  intro A e; have e : A = CX369 := e; subst e
  intro A e; have e : A = CX370 := e; subst e
  intro A e; have e : A = CX371 := e; subst e
  intro A e; have e : A = CX372 := e; subst e
  intro A e; have e : A = CX373 := e; subst e
  intro A e; have e : A = CX374 := e; subst e
  intro A e; have e : A = CX375 := e; subst e
  intro A e; have e : A = CX376 := e; subst e
  intro A e; have e : A = CX377 := e; subst e
  intro A e; have e : A = CX378 := e; subst e
  intro A e; have e : A = CX379 := e; subst e
  intro A e; have e : A = CX380 := e; subst e
  intro A e; have e : A = CX381 := e; subst e
  intro A e; have e : A = CX382 := e; subst e
  intro A e; have e : A = CX383 := e; subst e
  intro A e; have e : A = CX384 := e; subst e
  intro A e; have e : A = CX385 := e; subst e
  intro A e; have e : A = CX386 := e; subst e
  intro A e; have e : A = CX387 := e; subst e
  intro A e; have e : A = CX388 := e; subst e
  intro A e; have e : A = CX389 := e; subst e
  intro A e; have e : A = CX390 := e; subst e
  intro A e; have e : A = CX391 := e; subst e
  intro A e; have e : A = CX392 := e; subst e
  intro A e; have e : A = CX393 := e; subst e
  intro A e; have e : A = CX394 := e; subst e
  intro A e; have e : A = CX395 := e; subst e
  intro A e; have e : A = CX396 := e; subst e
  intro A e; have e : A = CX397 := e; subst e
  intro A e; have e : A = CX398 := e; subst e
  intro A e; have e : A = CX399 := e; subst e
  intro A e; have e : A = CX400 := e; subst e
  intro A e; have e : A = CX401 := e; subst e
  intro A e; have e : A = CX402 := e; subst e
  refine ⟨by decide +kernel, ?_⟩
  intro A e; have e : A = CX403 := e; subst e
  refine ⟨by decide +kernel, ?_⟩
  intro A e; have e : A = CX404 := e; subst e
  refine ⟨by decide +kernel, ?_⟩
  intro A e; have e : A = CX405 := e; subst e
  refine ⟨by decide +kernel, ?_⟩
  intro A e; have e : A = CX406 := e; subst e
  refine ⟨by decide +kernel, ?_⟩
  intro A e; have e : A = CX407 := e; subst e
  refine ⟨by decide +kernel, ?_⟩
  intro A e; have e : A = CX408 := e; subst e
  refine ⟨by decide +kernel, ?_⟩
  intro A e; have e : A = CX409 := e; subst e
  refine ⟨by decide +kernel, ?_⟩
  intro A e; have e : A = CX410 := e; subst e
  refine ⟨by decide +kernel, ?_⟩
  intro A e; have e : A = CX411 := e; subst e
  refine ⟨by decide +kernel, ?_⟩
  intro A e; have e : A = CX412 := e; subst e
  refine ⟨by decide +kernel, ?_⟩
  intro A e; have e : A = CX413 := e; subst e
  refine ⟨by decide +kernel, ?_⟩
  intro A e; have e : A = CX414 := e; subst e
  refine ⟨by decide +kernel, ?_⟩
  intro A e; have e : A = CX415 := e; subst e
  refine ⟨by decide +kernel, ?_⟩
  intro A e; have e : A = CX416 := e; subst e
  refine ⟨by decide +kernel, ?_⟩
  intro A e; have e : A = CX417 := e; subst e
  refine ⟨by decide +kernel, ?_⟩
  intro A e; have e : A = CX418 := e; subst e
  refine ⟨by decide +kernel, ?_⟩
  intro A e; have e : A = CX419 := e; subst e
  refine ⟨by decide +kernel, ?_⟩
  intro A e; have e : A = CX420 := e; subst e
  refine ⟨by decide +kernel, ?_⟩
  intro A e; have e : A = CX421 := e; subst e
  refine ⟨by decide +kernel, ?_⟩
  intro A e; have e : A = CX422 := e; subst e
  refine ⟨by decide +kernel, ?_⟩
  intro A e; have e : A = CX423 := e; subst e
  refine ⟨by decide +kernel, ?_⟩
  intro A e; have e : A = CX424 := e; subst e
  refine ⟨by decide +kernel, ?_⟩
  intro A e; have e : A = CX425 := e; subst e
  refine ⟨by decide +kernel, ?_⟩
  intro A e; have e : A = CX426 := e; subst e
  refine ⟨by decide +kernel, ?_⟩
  intro A e; have e : A = CX427 := e; subst e
  refine ⟨by decide +kernel, ?_⟩
  intro A e; have e : A = CX428 := e; subst e
  refine ⟨by decide +kernel, ?_⟩
  intro A e; have e : A = CX429 := e; subst e
  refine ⟨by decide +kernel, ?_⟩
  intro A e; have e : A = CX430 := e; subst e
  refine ⟨by decide +kernel, ?_⟩
  intro A e; have e : A = CX431 := e; subst e
  refine ⟨by decide +kernel, ?_⟩
  intro A e; have e : A = CX432 := e; subst e
  refine ⟨by decide +kernel, ?_⟩
  intro A e; have e : A = CX433 := e; subst e
  refine ⟨by decide +kernel, ?_⟩
  intro A e; have e : A = CX434 := e; subst e
  refine ⟨by decide +kernel, ?_⟩
  intro A e; have e : A = CX435 := e; subst e
  refine ⟨by decide +kernel, ?_⟩
  intro A e; have e : A = CX436 := e; subst e
  refine ⟨by decide +kernel, ?_⟩
  intro A e; have e : A = CX437 := e; subst e
  refine ⟨by decide +kernel, ?_⟩
  intro A e; have e : A = CX438 := e; subst e
  refine ⟨by decide +kernel, ?_⟩
  intro A e; have e : A = CX439 := e; subst e
  refine ⟨by decide +kernel, ?_⟩
  intro A e; have e : A = CX440 := e; subst e
  refine ⟨by decide +kernel, ?_⟩
  intro A e; have e : A = CX441 := e; subst e
  refine ⟨by decide +kernel, ?_⟩
  intro A e; have e : A = CX442 := e; subst e
  refine ⟨by decide +kernel, ?_⟩
  intro A e; have e : A = CX443 := e; subst e
  refine ⟨by decide +kernel, ?_⟩
  intro A e; have e : A = CX444 := e; subst e
  refine ⟨by decide +kernel, ?_⟩
  intro A e; have e : A = CX445 := e; subst e
  refine ⟨by decide +kernel, ?_⟩
  intro A e; have e : A = CX446 := e; subst e
  refine ⟨by decide +kernel, ?_⟩
  intro A e; have e : A = CX447 := e; subst e
  refine ⟨by decide +kernel, ?_⟩
  intro A e; have e : A = CX448 := e; subst e
  refine ⟨by decide +kernel, ?_⟩
  intro A e; have e : A = CX449 := e; subst e
  refine ⟨by decide +kernel, ?_⟩
  intro A e; have e : A = CX450 := e; subst e
  refine ⟨by decide +kernel, ?_⟩
  intro A e; have e : A = CX451 := e; subst e
  refine ⟨by decide +kernel, ?_⟩
  intro A e; have e : A = CX452 := e; subst e
  refine ⟨by decide +kernel, ?_⟩
  intro A e; have e : A = CX453 := e; subst e
  refine ⟨by decide +kernel, ?_⟩
  intro A e; have e : A = CX454 := e; subst e
  refine ⟨by decide +kernel, ?_⟩
  intro A e; have e : A = CX455 := e; subst e
  refine ⟨by decide +kernel, ?_⟩
  intro A e; have e : A = CX456 := e; subst e
  refine ⟨by decide +kernel, ?_⟩
  intro A e; have e : A = CX457 := e; subst e
  refine ⟨by decide +kernel, ?_⟩
  intro A e; have e : A = CX458 := e; subst e
  refine ⟨by decide +kernel, ?_⟩
  intro A e; have e : A = CX459 := e; subst e
  refine ⟨by decide +kernel, ?_⟩
  intro A e; have e : A = CX460 := e; subst e
  refine ⟨by decide +kernel, ?_⟩
  intro A e; have e : A = CX461 := e; subst e
  refine ⟨by decide +kernel, ?_⟩
  intro A e; have e : A = CX462 := e; subst e
  refine ⟨by decide +kernel, ?_⟩
  intro A e; have e : A = CX463 := e; subst e
  refine ⟨by decide +kernel, ?_⟩
  intro A e; have e : A = CX464 := e; subst e
  refine ⟨by decide +kernel, ?_⟩
  intro A e; have e : A = CX465 := e; subst e
  refine ⟨by decide +kernel, ?_⟩
  intro A e; have e : A = CX466 := e; subst e
  refine ⟨by decide +kernel, ?_⟩
  intro A e; have e : A = CX467 := e; subst e
  refine ⟨by decide +kernel, ?_⟩
  intro A e; have e : A = CX468 := e; subst e
  refine ⟨by decide +kernel, ?_⟩
  intro A e; have e : A = CX469 := e; subst e
  refine ⟨by decide +kernel, ?_⟩
  intro A e; have e : A = CX470 := e; subst e
  refine ⟨by decide +kernel, ?_⟩
  intro A e; have e : A = CX471 := e; subst e
  refine ⟨by decide +kernel, ?_⟩
  intro A e; have e : A = CX472 := e; subst e
  refine ⟨by decide +kernel, ?_⟩
  intro A e; have e : A = CX473 := e; subst e
  refine ⟨by decide +kernel, ?_⟩
  intro A e; have e : A = CX474 := e; subst e
  refine ⟨by decide +kernel, ?_⟩
  intro A e; have e : A = CX475 := e; subst e
  refine ⟨by decide +kernel, ?_⟩
  intro A e; have e : A = CX476 := e; subst e
  refine ⟨by decide +kernel, ?_⟩
  intro A e; have e : A = CX477 := e; subst e
  refine ⟨by decide +kernel, ?_⟩
  intro A e; have e : A = CX478 := e; subst e
  refine ⟨by decide +kernel, ?_⟩
  intro A e; have e : A = CX479 := e; subst e
  refine ⟨by decide +kernel, ?_⟩
  intro A e; have e : A = CX480 := e; subst e
  refine ⟨by decide +kernel, ?_⟩
  intro A e; have e : A = CX481 := e; subst e
  refine ⟨by decide +kernel, ?_⟩
  intro A e; have e : A = CX482 := e; subst e
  refine ⟨by decide +kernel, ?_⟩
  intro A e; have e : A = CX483 := e; subst e
  refine ⟨by decide +kernel, ?_⟩
  intro A e; have e : A = CX484 := e; subst e
  refine ⟨by decide +kernel, ?_⟩
  intro A e; have e : A = CX485 := e; subst e
  refine ⟨by decide +kernel, ?_⟩
  intro A e; have e : A = CX486 := e; subst e
  refine ⟨by decide +kernel, ?_⟩
  intro A e; have e : A = CX487 := e; subst e
  refine ⟨by decide +kernel, ?_⟩
  intro A e; have e : A = CX488 := e; subst e
  refine ⟨by decide +kernel, ?_⟩
  intro A e; have e : A = CX489 := e; subst e
  refine ⟨by decide +kernel, ?_⟩
  intro A e; have e : A = CX490 := e; subst e
  refine ⟨by decide +kernel, ?_⟩
  intro A e; have e : A = CX491 := e; subst e
  refine ⟨by decide +kernel, ?_⟩
  intro A e; have e : A = CX492 := e; subst e
  refine ⟨by decide +kernel, ?_⟩
  intro A e; have e : A = CX493 := e; subst e
  refine ⟨by decide +kernel, ?_⟩
  intro A e; have e : A = CX494 := e; subst e
  refine ⟨by decide +kernel, ?_⟩
  intro A e; have e : A = CX495 := e; subst e
  refine ⟨by decide +kernel, ?_⟩
  intro A e; have e : A = CX496 := e; subst e
  refine ⟨by decide +kernel, ?_⟩
  intro A e; have e : A = CX497 := e; subst e
  refine ⟨by decide +kernel, ?_⟩
  intro A e; have e : A = CX498 := e; subst e
  refine ⟨by decide +kernel, ?_⟩
  intro A e; have e : A = CX499 := e; subst e
  refine ⟨by decide +kernel, ?_⟩
  intro A e; have e : A = CX500 := e; subst e
  refine ⟨by decide +kernel, ?_⟩
  intro A e; have e : A = CX501 := e; subst e
  refine ⟨by decide +kernel, ?_⟩
  intro A e; have e : A = CX502 := e; subst e
  refine ⟨by decide +kernel, ?_⟩
  intro A e; have e : A = CX503 := e; subst e
  refine ⟨by decide +kernel, ?_⟩
  intro A e; have e : A = CX504 := e; subst e
  refine ⟨by decide +kernel, ?_⟩
  intro A e; have e : A = CX505 := e; subst e
  refine ⟨by decide +kernel, ?_⟩
  intro A e; have e : A = CX506 := e; subst e
  refine ⟨by decide +kernel, ?_⟩
  intro A e; have e : A = CX507 := e; subst e
  refine ⟨by decide +kernel, ?_⟩
  intro A e; have e : A = CX508 := e; subst e
  refine ⟨by decide +kernel, ?_⟩
  intro A e; have e : A = CX509 := e; subst e
  refine ⟨by decide +kernel, ?_⟩
  intro A e; have e : A = CX510 := e; subst e
  refine ⟨by decide +kernel, ?_⟩
  intro A e; have e : A = CX511 := e; subst e
  refine ⟨by decide +kernel, ?_⟩
  intro A e; have e : A = CX512 := e; subst e
  refine ⟨by decide +kernel, ?_⟩
  intro A e; have e : A = CX513 := e; subst e
  refine ⟨by decide +kernel, ?_⟩
  intro A e; have e : A = CX514 := e; subst e
  refine ⟨by decide +kernel, ?_⟩
  intro A e; have e : A = CX515 := e; subst e
  refine ⟨by decide +kernel, ?_⟩
  intro A e; have e : A = CX516 := e; subst e
  refine ⟨by decide +kernel, ?_⟩
  intro A e; have e : A = CX517 := e; subst e
  refine ⟨by decide +kernel, ?_⟩
  intro A e; have e : A = CX518 := e; subst e
  refine ⟨by decide +kernel, ?_⟩
  intro A e; have e : A = CX519 := e; subst e
  exact h
