set_option maxRecDepth 1000000 in
theorem md_k1 : mm_chkM 1 md_L1 = true := by decide +kernel
set_option maxRecDepth 1000000 in
theorem md_k2 : mm_chkM 2 md_L2 = true := by decide +kernel
set_option maxRecDepth 1000000 in
theorem md_k3 : mm_chkM 3 md_L3 = true := by decide +kernel
set_option maxRecDepth 1000000 in
theorem md_k4 : mm_chkM 4 md_L4 = true := by decide +kernel
set_option maxRecDepth 1000000 in
theorem md_k5 : mm_chkM 5 md_L5 = true := by decide +kernel
set_option maxRecDepth 1000000 in
theorem md_k6 : mm_chkM 6 md_L6 = true := by decide +kernel
set_option maxRecDepth 1000000 in
theorem md_k7 : mm_chkM 7 md_L7 = true := by decide +kernel
set_option maxRecDepth 1000000 in
theorem md_k8 : mm_chkM 8 md_L8 = true := by decide +kernel
set_option maxRecDepth 1000000 in
theorem md_k9 : mm_chkM 9 md_L9 = true := by decide +kernel
set_option maxRecDepth 1000000 in
theorem md_k10 : mm_chkM 10 md_L10 = true := by decide +kernel
set_option maxRecDepth 1000000 in
theorem md_k11 : mm_chkM 11 md_L11 = true := by decide +kernel
set_option maxRecDepth 1000000 in
theorem md_k12 : mm_chkM 12 md_L12 = true := by decide +kernel
set_option maxRecDepth 1000000 in
theorem md_k13 : mm_chkM 13 md_L13 = true := by decide +kernel
set_option maxRecDepth 1000000 in
theorem md_k14 : mm_chkM 14 md_L14 = true := by decide +kernel
set_option maxRecDepth 1000000 in
theorem md_k15 : mm_chkM 15 md_L15 = true := by decide +kernel
set_option maxRecDepth 1000000 in
theorem md_k16 : mm_chkM 16 md_L16 = true := by decide +kernel
set_option maxRecDepth 1000000 in
theorem md_k17 : mm_chkM 17 md_L17 = true := by decide +kernel
set_option maxRecDepth 1000000 in
theorem md_k18 : mm_chkM 18 md_L18 = true := by decide +kernel
set_option maxRecDepth 1000000 in
theorem md_k19 : mm_chkM 19 md_L19 = true := by decide +kernel
set_option maxRecDepth 1000000 in
theorem md_k20 : mm_chkM 20 md_L20 = true := by decide +kernel
set_option maxRecDepth 1000000 in
theorem md_k21 : mm_chkM 21 md_L21 = true := by decide +kernel
set_option maxRecDepth 1000000 in
theorem md_k22 : mm_chkM 22 md_L22 = true := by decide +kernel
set_option maxRecDepth 1000000 in
theorem md_k23 : mm_chkM 23 md_L23 = true := by decide +kernel
set_option maxRecDepth 1000000 in
theorem md_k24 : mm_chkM 24 md_L24 = true := by decide +kernel
set_option maxRecDepth 1000000 in
theorem md_k25 : mm_chkM 25 md_L25 = true := by decide +kernel
set_option maxRecDepth 1000000 in
theorem md_k26 : mm_chkM 26 md_L26 = true := by decide +kernel
set_option maxRecDepth 1000000 in
theorem md_k27 : mm_chkM 27 md_L27 = true := by decide +kernel
set_option maxRecDepth 1000000 in
theorem md_k28 : mm_chkM 28 md_L28 = true := by decide +kernel
set_option maxRecDepth 1000000 in
theorem md_k29 : mm_chkM 29 md_L29 = true := by decide +kernel
set_option maxRecDepth 1000000 in
theorem md_k30 : mm_chkM 30 md_L30 = true := by decide +kernel
set_option maxRecDepth 1000000 in
theorem md_k31 : mm_chkM 31 md_L31 = true := by decide +kernel
set_option maxRecDepth 1000000 in
theorem md_k32 : mm_chkM 32 md_L32 = true := by decide +kernel
set_option maxRecDepth 1000000 in
theorem md_k33 : mm_chkM 33 md_L33 = true := by decide +kernel
set_option maxRecDepth 1000000 in
theorem md_k34 : mm_chkM 34 md_L34 = true := by decide +kernel
set_option maxRecDepth 1000000 in
theorem md_k35 : mm_chkM 35 md_L35 = true := by decide +kernel
set_option maxRecDepth 1000000 in
theorem md_k36 : mm_chkM 36 md_L36 = true := by decide +kernel
set_option maxRecDepth 1000000 in
theorem md_k37 : mm_chkM 37 md_L37 = true := by decide +kernel
set_option maxRecDepth 1000000 in
theorem md_k38 : mm_chkM 38 md_L38 = true := by decide +kernel
set_option maxRecDepth 1000000 in
theorem md_k39 : mm_chkM 39 md_L39 = true := by decide +kernel
set_option maxRecDepth 1000000 in
theorem md_k40 : mm_chkM 40 md_L40 = true := by decide +kernel
set_option maxRecDepth 1000000 in
theorem md_k41 : mm_chkM 41 md_L41 = true := by decide +kernel
set_option maxRecDepth 1000000 in
theorem md_k42 : mm_chkM 42 md_L42 = true := by decide +kernel
set_option maxRecDepth 1000000 in
theorem md_k43 : mm_chkM 43 md_L43 = true := by decide +kernel
set_option maxRecDepth 1000000 in
theorem md_k44 : mm_chkM 44 md_L44 = true := by decide +kernel
set_option maxRecDepth 1000000 in
theorem md_k45 : mm_chkM 45 md_L45 = true := by decide +kernel
set_option maxRecDepth 1000000 in
theorem md_k46 : mm_chkM 46 md_L46 = true := by decide +kernel
set_option maxRecDepth 1000000 in
theorem md_k47 : mm_chkM 47 md_L47 = true := by decide +kernel
set_option maxRecDepth 1000000 in
theorem md_k48 : mm_chkM 48 md_L48 = true := by decide +kernel
set_option maxRecDepth 1000000 in
theorem md_k49 : mm_chkM 49 md_L49 = true := by decide +kernel
set_option maxRecDepth 1000000 in
theorem md_k50 : mm_chkM 50 md_L50 = true := by decide +kernel
set_option maxRecDepth 1000000 in
theorem md_k51 : mm_chkM 51 md_L51 = true := by decide +kernel
set_option maxRecDepth 1000000 in
theorem md_k52 : mm_chkM 52 md_L52 = true := by decide +kernel
set_option maxRecDepth 1000000 in
theorem md_k53 : mm_chkM 53 md_L53 = true := by decide +kernel
set_option maxRecDepth 1000000 in
theorem md_k54 : mm_chkM 54 md_L54 = true := by decide +kernel
set_option maxRecDepth 1000000 in
theorem md_k55 : mm_chkM 55 md_L55 = true := by decide +kernel
set_option maxRecDepth 1000000 in
theorem md_k56 : mm_chkM 56 md_L56 = true := by decide +kernel
set_option maxRecDepth 1000000 in
theorem md_k57 : mm_chkM 57 md_L57 = true := by decide +kernel
set_option maxRecDepth 1000000 in
theorem md_k58 : mm_chkM 58 md_L58 = true := by decide +kernel
set_option maxRecDepth 1000000 in
theorem md_k59 : mm_chkM 59 md_L59 = true := by decide +kernel
set_option maxRecDepth 1000000 in
theorem md_k60 : mm_chkM 60 md_L60 = true := by decide +kernel
set_option maxRecDepth 1000000 in
theorem md_k61 : mm_chkM 61 md_L61 = true := by decide +kernel
set_option maxRecDepth 1000000 in
theorem md_k62 : mm_chkM 62 md_L62 = true := by decide +kernel
set_option maxRecDepth 1000000 in
theorem md_k63 : mm_chkM 63 md_L63 = true := by decide +kernel
set_option maxRecDepth 1000000 in
theorem md_k64 : mm_chkM 64 md_L64 = true := by decide +kernel
set_option maxRecDepth 1000000 in
theorem md_k65 : mm_chkM 65 md_L65 = true := by decide +kernel
set_option maxRecDepth 1000000 in
theorem md_k66 : mm_chkM 66 md_L66 = true := by decide +kernel
set_option maxRecDepth 1000000 in
theorem md_k67 : mm_chkM 67 md_L67 = true := by decide +kernel
set_option maxRecDepth 1000000 in
theorem md_k68 : mm_chkM 68 md_L68 = true := by decide +kernel
set_option maxRecDepth 1000000 in
theorem md_k69 : mm_chkM 69 md_L69 = true := by decide +kernel
set_option maxRecDepth 1000000 in
theorem md_k70 : mm_chkM 70 md_L70 = true := by decide +kernel
set_option maxRecDepth 1000000 in
theorem md_k71 : mm_chkM 71 md_L71 = true := by decide +kernel
set_option maxRecDepth 1000000 in
theorem md_k72 : mm_chkM 72 md_L72 = true := by decide +kernel
set_option maxRecDepth 1000000 in
theorem md_k73 : mm_chkM 73 md_L73 = true := by decide +kernel
set_option maxRecDepth 1000000 in
theorem md_k74 : mm_chkM 74 md_L74 = true := by decide +kernel
set_option maxRecDepth 1000000 in
theorem md_k75 : mm_chkM 75 md_L75 = true := by decide +kernel
set_option maxRecDepth 1000000 in
theorem md_k76 : mm_chkM 76 md_L76 = true := by decide +kernel
set_option maxRecDepth 1000000 in
theorem md_k77 : mm_chkM 77 md_L77 = true := by decide +kernel
set_option maxRecDepth 1000000 in
theorem md_k78 : mm_chkM 78 md_L78 = true := by decide +kernel
set_option maxRecDepth 1000000 in
theorem md_k79 : mm_chkM 79 md_L79 = true := by decide +kernel
set_option maxRecDepth 1000000 in
theorem md_k80 : mm_chkM 80 md_L80 = true := by decide +kernel
set_option maxRecDepth 1000000 in
theorem md_k81 : mm_chkM 81 md_L81 = true := by decide +kernel
set_option maxRecDepth 1000000 in
theorem md_k82 : mm_chkM 82 md_L82 = true := by decide +kernel
set_option maxRecDepth 1000000 in
theorem md_k83 : mm_chkM 83 md_L83 = true := by decide +kernel
set_option maxRecDepth 1000000 in
theorem md_k84 : mm_chkM 84 md_L84 = true := by decide +kernel
set_option maxRecDepth 1000000 in
theorem md_k85 : mm_chkM 85 md_L85 = true := by decide +kernel
set_option maxRecDepth 1000000 in
theorem md_k86 : mm_chkM 86 md_L86 = true := by decide +kernel
set_option maxRecDepth 1000000 in
theorem md_k87 : mm_chkM 87 md_L87 = true := by decide +kernel
set_option maxRecDepth 1000000 in
theorem md_k88 : mm_chkM 88 md_L88 = true := by decide +kernel
set_option maxRecDepth 1000000 in
theorem md_k89 : mm_chkM 89 md_L89 = true := by decide +kernel
set_option maxRecDepth 1000000 in
theorem md_k90 : mm_chkM 90 md_L90 = true := by decide +kernel
set_option maxRecDepth 1000000 in
theorem md_k91 : mm_chkM 91 md_L91 = true := by decide +kernel
set_option maxRecDepth 1000000 in
theorem md_k92 : mm_chkM 92 md_L92 = true := by decide +kernel
set_option maxRecDepth 1000000 in
theorem md_k93 : mm_chkM 93 md_L93 = true := by decide +kernel
set_option maxRecDepth 1000000 in
theorem md_k94 : mm_chkM 94 md_L94 = true := by decide +kernel
set_option maxRecDepth 1000000 in
theorem md_k95 : mm_chkM 95 md_L95 = true := by decide +kernel
set_option maxRecDepth 1000000 in
theorem md_k96 : mm_chkM 96 md_L96 = true := by decide +kernel
set_option maxRecDepth 1000000 in
theorem md_k97 : mm_chkM 97 md_L97 = true := by decide +kernel
set_option maxRecDepth 1000000 in
theorem md_k98 : mm_chkM 98 md_L98 = true := by decide +kernel
set_option maxRecDepth 1000000 in
theorem md_k99 : mm_chkM 99 md_L99 = true := by decide +kernel
set_option maxRecDepth 1000000 in
theorem md_k100 : mm_chkM 100 md_L100 = true := by decide +kernel
set_option maxRecDepth 1000000 in
theorem md_k101 : mm_chkM 101 md_L101 = true := by decide +kernel
set_option maxRecDepth 1000000 in
theorem md_k102 : mm_chkM 102 md_L102 = true := by decide +kernel
set_option maxRecDepth 1000000 in
theorem md_k103 : mm_chkM 103 md_L103 = true := by decide +kernel
set_option maxRecDepth 1000000 in
theorem md_k104 : mm_chkM 104 md_L104 = true := by decide +kernel
set_option maxRecDepth 1000000 in
theorem md_k105 : mm_chkM 105 md_L105 = true := by decide +kernel
set_option maxRecDepth 1000000 in
theorem md_k106 : mm_chkM 106 md_L106 = true := by decide +kernel
set_option maxRecDepth 1000000 in
theorem md_k107 : mm_chkM 107 md_L107 = true := by decide +kernel
set_option maxRecDepth 1000000 in
theorem md_k108 : mm_chkM 108 md_L108 = true := by decide +kernel
set_option maxRecDepth 1000000 in
theorem md_k109 : mm_chkM 109 md_L109 = true := by decide +kernel
set_option maxRecDepth 1000000 in
theorem md_k110 : mm_chkM 110 md_L110 = true := by decide +kernel
set_option maxRecDepth 1000000 in
theorem md_k111 : mm_chkM 111 md_L111 = true := by decide +kernel
set_option maxRecDepth 1000000 in
theorem md_k112 : mm_chkM 112 md_L112 = true := by decide +kernel
set_option maxRecDepth 1000000 in
theorem md_k113 : mm_chkM 113 md_L113 = true := by decide +kernel
set_option maxRecDepth 1000000 in
theorem md_k114 : mm_chkM 114 md_L114 = true := by decide +kernel
set_option maxRecDepth 1000000 in
theorem md_k115 : mm_chkM 115 md_L115 = true := by decide +kernel
set_option maxRecDepth 1000000 in
theorem md_k116 : mm_chkM 116 md_L116 = true := by decide +kernel
set_option maxRecDepth 1000000 in
theorem md_k117 : mm_chkM 117 md_L117 = true := by decide +kernel
set_option maxRecDepth 1000000 in
theorem md_k118 : mm_chkM 118 md_L118 = true := by decide +kernel
set_option maxRecDepth 1000000 in
theorem md_k119 : mm_chkM 119 md_L119 = true := by decide +kernel
set_option maxRecDepth 1000000 in
theorem md_k120 : mm_chkM 120 md_L120 = true := by decide +kernel
set_option maxRecDepth 1000000 in
theorem md_k121 : mm_chkM 121 md_L121 = true := by decide +kernel
set_option maxRecDepth 1000000 in
theorem md_k122 : mm_chkM 122 md_L122 = true := by decide +kernel
set_option maxRecDepth 1000000 in
theorem md_k123 : mm_chkM 123 md_L123 = true := by decide +kernel
set_option maxRecDepth 1000000 in
theorem md_k124 : mm_chkM 124 md_L124 = true := by decide +kernel
set_option maxRecDepth 1000000 in
theorem md_k125 : mm_chkM 125 md_L125 = true := by decide +kernel
set_option maxRecDepth 1000000 in
theorem md_k126 : mm_chkM 126 md_L126 = true := by decide +kernel
set_option maxRecDepth 1000000 in
theorem md_k127 : mm_chkM 127 md_L127 = true := by decide +kernel
set_option maxRecDepth 1000000 in
theorem md_k128 : mm_chkM 128 md_L128 = true := by decide +kernel
set_option maxRecDepth 1000000 in
theorem md_k129 : mm_chkM 129 md_L129 = true := by decide +kernel
