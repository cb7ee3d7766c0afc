/**
 * A store whose DISK is nearly full, within 512 calls: 420 KEYS in an order, found by search, that
 * makes as many PAGES as can be (120 LEAVES, 58 INNER PAGES), and 12 PICTURES. A SWEEP of all and a
 * settle CHANGE all INNER PAGES, as LETTERS come into all ROOMS and go.
 */
final class FullDisk {
    static final int LEAVES = 120, INNERS = 58;
    private static final String KEYS =
        "121 84 126 70 413 14 416 123 119 417 124 371 418 364 7 406 415 410 357 419 414 "
        + "120 112 122 368 77 116 369 81 125 4 105 21 336 378 361 411 117 98 109 375 399 "
        + "403 373 376 408 412 407 362 377 372 301 343 366 392 374 404 385 396 370 397 382 401 "
        + "389 390 394 405 380 409 383 398 393 395 384 379 381 387 400 391 365 114 110 91 63 "
        + "2 11 12 102 18 350 287 315 359 322 231 367 294 340 298 1 5 210 308 252 74 "
        + "118 67 363 386 402 388 358 360 82 354 338 16 329 305 341 113 72 342 337 339 347 "
        + "355 345 312 348 19 349 313 352 319 303 344 346 306 356 20 49 15 17 68 42 56 "
        + "333 317 273 60 147 35 291 224 299 65 6 228 140 203 245 280 238 289 292 320 207 "
        + "133 321 144 293 326 316 217 288 290 145 130 137 196 249 229 214 208 296 138 128 318 "
        + "131 142 250 300 295 297 146 141 334 189 324 266 221 235 132 135 127 222 242 212 327 "
        + "129 139 226 0 215 3 230 9 284 46 13 143 200 134 69 136 201 182 8 193 205 "
        + "75 10 209 194 161 186 198 202 187 154 175 216 191 351 259 270 353 204 76 79 71 "
        + "64 47 53 73 28 66 61 39 51 40 25 32 44 83 48 43 78 107 103 88 95 "
        + "96 86 100 89 90 85 104 111 93 87 115 97 195 211 197 190 192 179 184 151 158 "
        + "159 149 152 213 168 180 219 188 223 199 225 206 165 172 227 173 163 177 166 181 153 "
        + "176 148 156 160 178 167 162 150 164 80 92 170 99 174 328 323 331 325 307 302 304 "
        + "310 335 330 314 309 277 271 256 263 243 233 236 247 237 232 285 240 251 244 234 239 "
        + "275 278 155 246 248 54 101 279 274 276 282 264 254 257 286 258 268 253 255 272 261 "
        + "267 269 265 260 262 281 241 283 106 332 55 50 52 33 58 23 45 37 26 27 62 "
        + "22 41 24 36 57 30 34 29 31 59 38 94 108 311 183 169 185 218 171 220 157";

    private FullDisk() {
    }

    static long[] keys() {
        String[] texts = KEYS.split(" ");
        long[] keys = new long[texts.length];
        for (int i = 0; i < keys.length; i++) {
            keys[i] = Long.parseLong(texts[i]);
        }
        return keys;
    }

    /** Behind 458 calls: 12 PICTURES, and a HEAD behind them, have 994 PLACES. */
    static LetterTree made() {
        LetterTree x = new LetterTree();
        for (long key : keys()) {
            x.put(key);
        }
        x.settle();
        x.picture();
        for (int i = 0; i < 11; i++) {
            changeInners(x);
            x.picture();
        }
        changeInners(x);
        x.sync();
        return x;
    }

    /** The first time it CHANGES all LEAVES, too. */
    static void changeInners(LetterTree x) {
        x.sweep(Long.MIN_VALUE, Long.MAX_VALUE);
        x.settle();
    }
}
