import java.util.Arrays;
import java.util.Random;

/**
 * Small houses, where the document's words can be tried out as they stand: every choice of MOVEMENTS, every
 * row of NOTES and MOVEMENTS, every GROUND, every choice of beginnings and every DRONE is made one after the
 * other and looked at. Nothing here knows that choices can be made one by one, as the class does.
 */
public final class PiperHouseBrute {
    private static final int NONE = -1, MANY = 1000001, LOST = -1, GAP = -1;

    private static int wrong = 0;
    private static int asked = 0;
    private static String where = "";

    private static void due(String call, int got, int want) {
        asked++;
        if (got != want) {
            wrong++;
            System.out.println(where + ": " + call + " answered " + got + ", due is " + want);
        }
    }

    public static void main(String[] args) {
        int runs = args.length > 0 ? Integer.parseInt(args[0]) : 150;
        for (int seed = 1; seed <= runs && wrong < 20; seed++) {
            where = "seed " + seed;
            tunes(new Random(seed));
            songs(new Random(seed));
            grounds(new Random(seed));
            bands(new Random(seed));
            drones(new Random(seed));
        }
        System.out.println(wrong == 0 ? asked + " answers are those of trying all" : wrong + " are not as due");
        if (wrong != 0) {
            System.exit(1);
        }
    }

    private static int draw(Random random, int low, int high) {
        return low + random.nextInt(high - low + 1);
    }

    /** Counts a row of digits up by one, the last digit running fastest; false behind the last row. */
    private static boolean next(int[] row, int base) {
        for (int i = row.length - 1; i >= 0; i--) {
            row[i]++;
            if (row[i] < base) {
                return true;
            }
            row[i] = 0;
        }
        return false;
    }

    // ---- movements, tunes

    /** What was told to a house of its MOVEMENTS. */
    private static final class Told {
        final int[][] graces = new int[8][];
        final int[] from = new int[8];
        final int[] to = new int[8];

        Told(PiperHouse x, Random random) {
            for (int m = 0; m < 8; m++) {
                graces[m] = new int[Math.min(draw(random, 0, 4), draw(random, 0, 4))];
                int packed = 0;
                for (int i = 0; i < graces[m].length; i++) {
                    graces[m][i] = draw(random, 0, 8);
                    packed |= graces[m][i] << 4 * i;
                }
                from[m] = draw(random, 0, 511) | draw(random, 0, 511);
                to[m] = draw(random, 0, 511) | draw(random, 0, 511);
                x.movement(m, graces[m].length, packed);
                x.may(m, 0, from[m]);
                x.may(m, 1, to[m]);
            }
        }

        /** Of a (none, if it is -1), the GRACES and b no two side by side are alike, and it may stand there. */
        boolean fits(int m, int a, int b) {
            if (a != -1 && (from[m] & 1 << a) == 0) {
                return false;
            }
            if ((to[m] & 1 << b) == 0) {
                return false;
            }
            int last = a;
            for (int grace : graces[m]) {
                if (grace == last) {
                    return false;
                }
                last = grace;
            }
            return last != b;
        }
    }

    private static void tunes(Random random) {
        PiperHouse x = new PiperHouse();
        Told told = new Told(x, random);
        // Four MOVEMENTS a house: an object is good for 512 calls.
        int low = 4 * draw(random, 0, 1);
        for (int m = low; m < low + 4; m++) {
            for (int a = -1; a < 9; a++) {
                for (int b = 0; b < 9; b++) {
                    due("fits(" + m + ", " + a + ", " + b + ")", x.fits(m, a, b), told.fits(m, a, b) ? 1 : 0);
                }
            }
        }
        // The TUNE gets a house of its own, as few calls are left here.
        PiperHouse y = new PiperHouse();
        Told again = new Told(y, random);
        int beat = draw(random, 1, 3);
        y.beat(beat);
        int n = draw(random, 1, 6);
        int[] notes = new int[n];
        int[] lengths = new int[n];
        int[] movements = new int[n];
        for (int i = 0; i < n; i++) {
            notes[i] = draw(random, 0, 8);
            lengths[i] = draw(random, 1, 9);
            movements[i] = i < 2 || random.nextInt(3) > 0 ? LOST : draw(random, 0, 7);
            y.step(notes[i], lengths[i], movements[i]);
        }
        tuneIsAsTried(y, again, beat, notes, lengths, movements);
    }

    private static boolean holds(Told told, int beat, int[] notes, int[] lengths, int i, int m) {
        return told.fits(m, i == 0 ? -1 : notes[i - 1], notes[i]) && lengths[i] > beat * told.graces[m].length;
    }

    private static void tuneIsAsTried(PiperHouse x, Told told, int beat, int[] notes, int[] lengths, int[] movements) {
        int n = notes.length;
        int lost = 0;
        int firstWrong = NONE;
        for (int i = n - 1; i >= 0; i--) {
            lost += movements[i] == LOST ? 1 : 0;
            if (movements[i] != LOST && !holds(told, beat, notes, lengths, i, movements[i])) {
                firstWrong = i;
            }
        }
        int found = 0;
        int fewest = Integer.MAX_VALUE;
        int[] quickest = new int[n];
        Arrays.fill(quickest, NONE);
        int[] choice = new int[lost];
        do {
            int at = 0;
            int graces = 0;
            boolean all = true;
            int[] filled = new int[n];
            for (int i = 0; i < n; i++) {
                filled[i] = movements[i] == LOST ? choice[at++] : movements[i];
                all &= holds(told, beat, notes, lengths, i, filled[i]);
                graces += told.graces[filled[i]].length;
            }
            found += all ? 1 : 0;
            if (all && graces < fewest) {
                fewest = graces;
                quickest = filled;
            }
        } while (next(choice, 8));
        due("wrong()", x.wrong(), firstWrong);
        due("count(1)", x.count(1), lost);
        due("fillings()", x.fillings(), found);
        due("graces()", x.graces(), found == 0 ? NONE : fewest);
        for (int i = 0; i < n; i++) {
            due("quickest(" + i + ")", x.quickest(i), quickest[i]);
        }
    }

    // ---- syllables

    private static void songs(Random random) {
        PiperHouse x = new PiperHouse();
        Told told = new Told(x, random);
        int[][] heads = new int[3][8];
        int[][] tails = new int[3][9];
        int most = draw(random, 1, 7);
        for (int r = 0; r < 3; r++) {
            for (int m = 0; m < 8; m++) {
                heads[r][m] = draw(random, 0, most);
                x.region(r, 0, m, heads[r][m]);
            }
            for (int n = 0; n < 9; n++) {
                tails[r][n] = draw(random, 0, 3);
                x.region(r, 1, n, tails[r][n]);
            }
        }
        int[] song = new int[draw(random, 1, 3)];
        for (int i = 0; i < song.length; i++) {
            song[i] = 4 * draw(random, 0, most) + draw(random, 0, 3);
            x.syllable(song[i]);
        }
        int home = NONE;
        int fewest = MANY;
        for (int r = 0; r < 3; r++) {
            int found = songIsAsTried(x, told, r, heads[r], tails[r], song);
            if (found > 0 && found < fewest) {
                home = r;
                fewest = found;
            }
        }
        due("home()", x.home(), home);
    }

    private static int songIsAsTried(PiperHouse x, Told told, int r, int[] heads, int[] tails, int[] song) {
        int found = 0;
        int[] first = new int[song.length];
        Arrays.fill(first, NONE);
        // A digit is 8 NOTE and MOVEMENT, so rows come by NOTE, then MOVEMENT, STEP after STEP.
        int[] row = new int[song.length];
        do {
            int before = -1;
            boolean all = true;
            for (int i = 0; i < row.length && all; i++) {
                int note = row[i] / 8;
                int m = row[i] % 8;
                all = 4 * heads[m] + tails[note] == song[i] && told.fits(m, before, note);
                before = note;
            }
            if (all && found == 0) {
                for (int i = 0; i < row.length; i++) {
                    first[i] = 16 * (row[i] / 8) + row[i] % 8;
                }
            }
            found += all ? 1 : 0;
        } while (next(row, 72));
        due("read(" + r + ")", x.read(r), found);
        for (int i = 0; i <= row.length; i++) {
            due("first(" + r + ", " + i + ")", x.first(r, i), i < row.length ? first[i] : NONE);
        }
        return found;
    }

    // ---- grounds

    /** The VARIATION of a GROUND, as the document makes it. */
    private static int[] vary(int[] parts, int[] ground, int cadences) {
        int[] made = new int[4 * ground.length];
        int size = 0;
        for (int i = 0; i < ground.length; i++) {
            int behind = i == ground.length - 1 ? ground[0] : ground[i + 1];
            if ((cadences >> i & 1) == 1) {
                made[size++] = ground[i];
                continue;
            }
            for (int part : parts) {
                made[size++] = part == 9 ? ground[i] : part == 10 ? behind : part;
            }
        }
        return Arrays.copyOf(made, size);
    }

    private static int wrongCells(int[] told, int[] made) {
        int sum = 0;
        for (int c = 0; c < told.length; c++) {
            sum += told[c] != GAP && told[c] != made[c] ? 1 : 0;
        }
        return sum;
    }

    private static void grounds(Random random) {
        PiperHouse x = new PiperHouse();
        int n = draw(random, 1, 4);
        int cadences = draw(random, 0, (1 << n) - 1) & draw(random, 0, (1 << n) - 1);
        int[][] parts = new int[draw(random, 1, 3)][];
        int[][] told = new int[parts.length][];
        int[] hidden = new int[n];
        for (int i = 0; i < n; i++) {
            hidden[i] = draw(random, 0, 8);
            x.note(hidden[i]);
        }
        int errors = draw(random, 0, 3);
        for (int s = 0; s < parts.length; s++) {
            parts[s] = new int[draw(random, 1, 4)];
            int packed = 0;
            for (int i = 0; i < parts[s].length; i++) {
                parts[s][i] = random.nextInt(3) > 0 ? draw(random, 9, 10) : draw(random, 0, 8);
                packed |= parts[s][i] << 4 * i;
            }
            due("rule", x.rule(s, parts[s].length, packed), 1);
            due("sheet", x.sheet(s, n, cadences), s);
            told[s] = vary(parts[s], hidden, cadences);
            due("cells(" + s + ")", x.cells(s), told[s].length);
            for (int c = 0; c < told[s].length; c++) {
                due("varied(" + s + ", " + cadences + ", " + c + ")", x.varied(s, cadences, c), told[s][c]);
            }
            due("varied, behind the last", x.varied(s, cadences, told[s].length), NONE);
            for (int c = 0; c < told[s].length; c++) {
                told[s][c] = random.nextInt(3) == 0 ? GAP
                        : random.nextInt(6) < errors ? draw(random, 0, 8) : told[s][c];
                x.tell(s, c, told[s][c]);
            }
        }
        sheetsAreAsTried(x, n, cadences, parts, told);
    }

    private static void sheetsAreAsTried(PiperHouse x, int n, int cadences, int[][] parts, int[][] told) {
        int agreeing = 0;
        int fewest = Integer.MAX_VALUE;
        int[] least = null;
        int[] ground = new int[n];
        do {
            int sum = 0;
            for (int s = 0; s < parts.length; s++) {
                sum += wrongCells(told[s], vary(parts[s], ground, cadences));
            }
            agreeing += sum == 0 ? 1 : 0;
            if (sum < fewest) {
                fewest = sum;
                least = ground.clone();
            }
        } while (next(ground, 9));
        due("agreeing()", x.agreeing(), agreeing);
        for (int i = 0; i <= n; i++) {
            due("least(" + i + ")", x.least(i), i < n ? least[i] : NONE);
        }
        for (int s = 0; s < parts.length; s++) {
            int[] made = vary(parts[s], least, cadences);
            due("blamed(" + s + ", -1)", x.blamed(s, -1), wrongCells(told[s], made));
            for (int c = 0; c < made.length; c++) {
                due("blamed(" + s + ", " + c + ")", x.blamed(s, c), told[s][c] != GAP && told[s][c] != made[c] ? 1 : 0);
            }
        }
    }

    // ---- pipes

    private static void bands(Random random) {
        PiperHouse x = new PiperHouse();
        int[][] pipers = new int[6][];
        int damp = random.nextBoolean() ? 0 : draw(random, 0, 5);
        x.damp(damp);
        int late = draw(random, 0, 80);
        int t = late + draw(random, 0, 10);
        int wide = draw(random, 0, 30);
        for (int p = 0; p < 6; p++) {
            pipers[p] = new int[] {draw(random, -wide, wide), draw(random, 0, 9), draw(random, 1, 12),
                draw(random, late, t)};
            due("piper", x.piper(p, pipers[p][0], pipers[p][1], pipers[p][2], pipers[p][3]), 1);
        }
        for (int i = 0; i < 6; i++) {
            int set = draw(random, 1, 63);
            while (Integer.bitCount(set) > 4) {
                set &= set - 1;
            }
            bandIsAsTried(x, pipers, damp, set, t);
        }
    }

    private static int pitch(int[] piper, int damp, int s, int t) {
        int rise = piper[1] > damp ? piper[1] - damp : 0;
        int blown = t - s < piper[2] ? t - s : piper[2];
        return piper[0] + rise * blown;
    }

    private static void bandIsAsTried(PiperHouse x, int[][] pipers, int damp, int set, int t) {
        int least = Integer.MAX_VALUE;
        int low = Integer.MAX_VALUE;
        // A digit for each PIPER: the MINUTES by which it begins ahead of t.
        int[] ahead = new int[Integer.bitCount(set)];
        do {
            int at = 0;
            int high = Integer.MIN_VALUE;
            int deep = Integer.MAX_VALUE;
            boolean all = true;
            for (int p = 0; p < 6; p++) {
                if ((set >> p & 1) == 1) {
                    int s = t - ahead[at++];
                    all &= s >= pipers[p][3];
                    int now = pitch(pipers[p], damp, s, t);
                    high = Math.max(high, now);
                    deep = Math.min(deep, now);
                }
            }
            if (all && (high - deep < least || high - deep == least && deep < low)) {
                least = high - deep;
                low = deep;
            }
        } while (next(ahead, 11));
        due("band(" + set + ", " + t + ", 0)", x.band(set, t, 0), least);
        due("band(" + set + ", " + t + ", 1)", x.band(set, t, 1), low + 1000);
        for (int p = 0; p < 6; p++) {
            int begins = NONE;
            int nearest = Integer.MAX_VALUE;
            for (int s = t; s >= pipers[p][3] && (set >> p & 1) == 1; s--) {
                int now = pitch(pipers[p], damp, s, t);
                due("pitch(" + p + ", " + s + ", " + t + ")", x.pitch(p, s, t), now);
                if (now >= low && now < nearest) {
                    nearest = now;
                    begins = s;
                }
            }
            due("begins(" + set + ", " + t + ", " + p + ")", x.begins(set, t, p), begins);
        }
    }

    private static void drones(Random random) {
        PiperHouse x = new PiperHouse();
        int[] tones = new int[9];
        int wide = draw(random, 0, 300);
        for (int n = 0; n < 9; n++) {
            tones[n] = draw(random, -wide, wide);
            x.tone(n, tones[n]);
        }
        for (int i = 0; i < 10; i++) {
            int pitch = i < 2 ? 999 - 1998 * i : draw(random, -999, 999);
            int best = 0;
            int mildest = Integer.MAX_VALUE;
            for (int d = -999; d <= 999; d++) {
                int sum = 0;
                for (int tone : tones) {
                    int off = tone + pitch - d;
                    sum += off < 0 ? -off : off;
                }
                if (sum < mildest) {
                    mildest = sum;
                    best = d;
                }
            }
            due("set(" + pitch + ")", x.set(pitch), best);
            due("harsh(" + best + ", " + pitch + ")", x.harsh(best, pitch), mildest);
        }
    }
}
