import java.math.BigInteger;
import java.util.ArrayList;
import java.util.Arrays;
import java.util.List;
import java.util.Random;

/**
 * Drawn runs of calls, answered by the class and by a slow model that is written otherwise: it walks
 * rows of NOTES with exact numbers, tries all grounds by pairs of NOTES, all beginnings and all drones.
 */
public final class PiperHouseModel {
    private static final int NONE = -1, UNKNOWN = -2, OUTSIDE = -3, NOT = -4, FULL = -5;
    private static final BigInteger MANY = BigInteger.valueOf(1000001);
    private static final String[] CALLS = ("movement 3 may 3 beat 1 fits 3 step 3 put 2 back 0 wrong 0 fillings 0"
            + " quickest 1 graces 0 region 4 sung 2 syllable 1 hush 0 read 1 first 2 home 0 rule 3 note 1 silence 0"
            + " varied 3 sheet 3 tell 3 cells 1 clear 0 agreeing 0 least 1 blamed 2 piper 5 damp 1 pitch 3 band 3"
            + " begins 3 tone 2 harsh 2 set 1 count 1").split(" ");

    private static final class Sheet {
        int rule;
        int n;
        int cadences;
        List<Integer> cells = new ArrayList<>();
    }

    /** The model. */
    private static final class Slow {
        int[][] graces = new int[8][0];
        int[] from = new int[8];
        int[] to = new int[8];
        int beat = 1;
        List<int[]> steps = new ArrayList<>();
        int[][] head = new int[3][8];
        int[][] tail = new int[3][9];
        List<Integer> song = new ArrayList<>();
        int[][] rules = new int[5][];
        List<Integer> ground = new ArrayList<>();
        List<Sheet> sheets = new ArrayList<>();
        int[][] pipers = new int[6][];
        int damp = 0;
        int[] tones = new int[9];

        Slow() {
            from[0] = to[0] = 511;
            for (int r = 0; r < 3; r++) {
                for (int k = 0; k < 9; k++) {
                    tail[r][k] = k / 3;
                    head[r][k % 8] = k % 8;
                }
            }
            for (int r = 0; r < 5; r++) {
                rules[r] = new int[] {9};
            }
            for (int p = 0; p < 6; p++) {
                pipers[p] = new int[] {0, 0, 1, 0};
            }
        }

        static boolean in(int v, int low, int high) {
            return low <= v && v <= high;
        }

        static int capped(BigInteger n) {
            return n.min(MANY).intValue();
        }

        boolean fit(int m, int a, int b) {
            if (a >= 0 && (from[m] & 1 << a) == 0 || (to[m] & 1 << b) == 0) {
                return false;
            }
            List<Integer> row = new ArrayList<>();
            if (a >= 0) {
                row.add(a);
            }
            for (int g : graces[m]) {
                row.add(g);
            }
            row.add(b);
            for (int i = 1; i < row.size(); i++) {
                if (row.get(i).intValue() == row.get(i - 1).intValue()) {
                    return false;
                }
            }
            return true;
        }

        boolean hold(int i, int m) {
            int[] s = steps.get(i);
            return fit(m, i == 0 ? -1 : steps.get(i - 1)[0], s[0]) && s[1] > beat * graces[m].length;
        }

        /** From the last STEP to the first: how many fillings, the fewest graces, the first such row. */
        BigInteger ways;
        int fewest;
        int[] row;

        void fill() {
            int n = steps.size();
            ways = BigInteger.ONE;
            fewest = 0;
            row = new int[n];
            for (int i = n - 1; i >= 0; i--) {
                int told = steps.get(i)[2];
                BigInteger here = BigInteger.ZERO;
                int best = -1;
                for (int m = 7; m >= 0; m--) {
                    if ((told == -1 || told == m) && hold(i, m)) {
                        here = here.add(ways);
                        if (best == -1 || graces[m].length <= graces[best].length) {
                            best = m;
                        }
                    }
                }
                ways = here;
                row[i] = best;
                fewest += best == -1 ? 0 : graces[best].length;
            }
        }

        BigInteger rows(int r, int i, int before, BigInteger[][] known) {
            if (i == song.size()) {
                return BigInteger.ONE;
            }
            if (known[i][before + 1] == null) {
                BigInteger sum = BigInteger.ZERO;
                for (int n = 0; n < 9; n++) {
                    for (int m = 0; m < 8; m++) {
                        if (4 * head[r][m] + tail[r][n] == song.get(i) && fit(m, before, n)) {
                            sum = sum.add(rows(r, i + 1, n, known));
                        }
                    }
                }
                known[i][before + 1] = sum;
            }
            return known[i][before + 1];
        }

        int readBy(int r) {
            return capped(rows(r, 0, -1, new BigInteger[12][10]));
        }

        int firstAt(int r, int i) {
            BigInteger[][] known = new BigInteger[12][10];
            if (i >= song.size() || rows(r, 0, -1, known).signum() == 0) {
                return NONE;
            }
            int before = -1;
            int found = NONE;
            for (int k = 0; k <= i; k++) {
                found = NONE;
                for (int n = 0; n < 9 && found == NONE; n++) {
                    for (int m = 0; m < 8 && found == NONE; m++) {
                        if (4 * head[r][m] + tail[r][n] == song.get(k) && fit(m, before, n)
                                && rows(r, k + 1, n, known).signum() > 0) {
                            found = 16 * n + m;
                        }
                    }
                }
                before = found / 16;
            }
            return found;
        }

        static List<Integer> vary(int[] rule, int[] notes, int cadences) {
            List<Integer> made = new ArrayList<>();
            for (int i = 0; i < notes.length; i++) {
                if ((cadences >> i & 1) == 1) {
                    made.add(notes[i]);
                    continue;
                }
                for (int part : rule) {
                    made.add(part == 9 ? notes[i] : part == 10 ? notes[(i + 1) % notes.length] : part);
                }
            }
            return made;
        }

        int[] groundNotes() {
            int[] notes = new int[ground.size()];
            for (int i = 0; i < notes.length; i++) {
                notes[i] = ground.get(i);
            }
            return notes;
        }

        /** WRONG CELLS that come from NOTE i of a ground, which is a, with b behind it. */
        int wrongHere(int i, int a, int b) {
            int sum = 0;
            for (Sheet s : sheets) {
                int at = 0;
                for (int k = 0; k < i; k++) {
                    at += (s.cadences >> k & 1) == 1 ? 1 : rules[s.rule].length;
                }
                int[] parts = (s.cadences >> i & 1) == 1 ? new int[] {9} : rules[s.rule];
                for (int part : parts) {
                    int due = part == 9 ? a : part == 10 ? b : part;
                    int told = s.cells.get(at++);
                    sum += told != -1 && told != due ? 1 : 0;
                }
            }
            return sum;
        }

        BigInteger agree;
        int[] leastGround;

        /** Round the ground from each first NOTE: ways without wrong cells, and the fewest wrong ones. */
        void weigh() {
            int n = sheets.get(0).n;
            int[][][] cost = new int[n][9][9];
            for (int i = 0; i < n; i++) {
                for (int a = 0; a < 9; a++) {
                    for (int b = 0; b < 9; b++) {
                        cost[i][a][b] = wrongHere(i, a, b);
                    }
                }
            }
            agree = BigInteger.ZERO;
            leastGround = null;
            int fewestWrong = Integer.MAX_VALUE;
            for (int g = 0; g < 9; g++) {
                int[][] left = new int[n + 1][9];
                BigInteger[][] clean = new BigInteger[n + 1][9];
                for (int a = 0; a < 9; a++) {
                    left[n][a] = a == g ? 0 : 100000;
                    clean[n][a] = a == g ? BigInteger.ONE : BigInteger.ZERO;
                }
                for (int i = n - 1; i >= 0; i--) {
                    for (int a = 0; a < 9; a++) {
                        left[i][a] = 100000;
                        clean[i][a] = BigInteger.ZERO;
                        for (int b = 0; b < 9; b++) {
                            left[i][a] = Math.min(left[i][a], cost[i][a][b] + left[i + 1][b]);
                            if (cost[i][a][b] == 0) {
                                clean[i][a] = clean[i][a].add(clean[i + 1][b]);
                            }
                        }
                    }
                }
                agree = agree.add(clean[0][g]);
                if (left[0][g] < fewestWrong) {
                    fewestWrong = left[0][g];
                    leastGround = new int[n];
                    leastGround[0] = g;
                    for (int i = 1; i < n; i++) {
                        int a = leastGround[i - 1];
                        int b = 0;
                        while (cost[i - 1][a][b] + left[i][b] != left[i - 1][a]) {
                            b++;
                        }
                        leastGround[i] = b;
                    }
                }
            }
        }

        int pitchOf(int p, int s, int t) {
            int[] q = pipers[p];
            return q[0] + Math.max(0, q[1] - damp) * Math.min(t - s, q[2]);
        }

        /** The best spread, its least pitch, and when each begins, by all least pitches that are numbers. */
        int[] best(int set, int t) {
            int[] best = null;
            for (int low = -100; low <= 700; low++) {
                int[] now = new int[8];
                Arrays.fill(now, NONE);
                int high = Integer.MIN_VALUE;
                int least = Integer.MAX_VALUE;
                boolean all = true;
                for (int p = 0; p < 6; p++) {
                    if ((set >> p & 1) == 0) {
                        continue;
                    }
                    int near = Integer.MAX_VALUE;
                    for (int s = pipers[p][3]; s <= t; s++) {
                        int at = pitchOf(p, s, t);
                        if (at >= low && at <= near) {
                            near = at;
                            now[2 + p] = s;
                        }
                    }
                    all &= near != Integer.MAX_VALUE;
                    high = Math.max(high, near);
                    least = Math.min(least, near);
                }
                if (all && least == low && (best == null || high - low < best[0])) {
                    now[0] = high - low;
                    now[1] = low;
                    best = now;
                }
            }
            return best;
        }

        int harshOf(int drone, int pitch) {
            int sum = 0;
            for (int tone : tones) {
                sum += Math.abs(tone + pitch - drone);
            }
            return sum;
        }

        int bandRefusal(int set, int t) {
            if (!in(set, 1, 63) || !in(t, 0, 150)) {
                return OUTSIDE;
            }
            for (int p = 0; p < 6; p++) {
                if ((set >> p & 1) == 1 && pipers[p][3] > t) {
                    return NOT;
                }
            }
            return 0;
        }

        static int[] unpack(int n, int packed) {
            int[] made = new int[n];
            for (int i = 0; i < n; i++) {
                made[i] = packed >> 4 * i & 15;
            }
            return made;
        }

        static int most(int[] row) {
            int most = -1;
            for (int v : row) {
                most = Math.max(most, v);
            }
            return most;
        }

        int answer(String call, int[] v) {
            switch (call) {
                case "movement":
                    if (!in(v[0], 0, 7)) {
                        return UNKNOWN;
                    }
                    if (!in(v[1], 0, 4) || most(unpack(v[1], v[2])) > 8) {
                        return OUTSIDE;
                    }
                    graces[v[0]] = unpack(v[1], v[2]);
                    return 1;
                case "may":
                    if (!in(v[0], 0, 7)) {
                        return UNKNOWN;
                    }
                    if (!in(v[1], 0, 1) || !in(v[2], 0, 511)) {
                        return OUTSIDE;
                    }
                    int[] side = v[1] == 0 ? from : to;
                    int had = side[v[0]];
                    side[v[0]] = v[2];
                    return had;
                case "beat":
                    if (!in(v[0], 1, 3)) {
                        return OUTSIDE;
                    }
                    int hadBeat = beat;
                    beat = v[0];
                    return hadBeat;
                case "fits":
                    return !in(v[0], 0, 7) || !in(v[1], -1, 8) || !in(v[2], 0, 8) ? UNKNOWN
                            : fit(v[0], v[1], v[2]) ? 1 : 0;
                case "step":
                    if (!in(v[0], 0, 8) || !in(v[2], -1, 7)) {
                        return UNKNOWN;
                    }
                    if (!in(v[1], 1, 9)) {
                        return OUTSIDE;
                    }
                    if (steps.size() == 24) {
                        return FULL;
                    }
                    steps.add(v.clone());
                    return steps.size();
                case "put":
                    if (!in(v[0], 0, steps.size() - 1) || !in(v[1], -1, 7)) {
                        return UNKNOWN;
                    }
                    int hadMovement = steps.get(v[0])[2];
                    steps.get(v[0])[2] = v[1];
                    return hadMovement;
                case "back":
                    if (steps.isEmpty()) {
                        return NOT;
                    }
                    steps.remove(steps.size() - 1);
                    return steps.size();
                case "wrong":
                    for (int i = 0; i < steps.size(); i++) {
                        if (steps.get(i)[2] != -1 && !hold(i, steps.get(i)[2])) {
                            return i;
                        }
                    }
                    return NONE;
                case "fillings":
                    fill();
                    return capped(ways);
                case "quickest":
                    if (!in(v[0], 0, steps.size() - 1)) {
                        return UNKNOWN;
                    }
                    fill();
                    return ways.signum() == 0 ? NONE : row[v[0]];
                case "graces":
                    fill();
                    return ways.signum() == 0 ? NONE : fewest;
                default:
                    return answerSyllables(call, v);
            }
        }

        int answerSyllables(String call, int[] v) {
            switch (call) {
                case "region":
                    if (!in(v[0], 0, 2) || v[1] == 0 && !in(v[2], 0, 7) || v[1] == 1 && !in(v[2], 0, 8)) {
                        return UNKNOWN;
                    }
                    if (!in(v[1], 0, 1) || !in(v[3], 0, v[1] == 0 ? 7 : 3)) {
                        return OUTSIDE;
                    }
                    int[] sort = v[1] == 0 ? head[v[0]] : tail[v[0]];
                    int had = sort[v[2]];
                    sort[v[2]] = v[3];
                    return had;
                case "sung":
                    if (!in(v[0], 0, 2) || !in(v[1], 0, steps.size() - 1)) {
                        return UNKNOWN;
                    }
                    int[] s = steps.get(v[1]);
                    return s[2] == -1 ? NOT : 4 * head[v[0]][s[2]] + tail[v[0]][s[0]];
                case "syllable":
                    if (!in(v[0], 0, 31)) {
                        return OUTSIDE;
                    }
                    if (song.size() == 12) {
                        return FULL;
                    }
                    song.add(v[0]);
                    return song.size();
                case "hush":
                    int sang = song.size();
                    song.clear();
                    return sang;
                case "read":
                    return !in(v[0], 0, 2) ? UNKNOWN : readBy(v[0]);
                case "first":
                    return !in(v[0], 0, 2) ? UNKNOWN : v[1] < 0 ? OUTSIDE : firstAt(v[0], v[1]);
                case "home":
                    int best = NONE;
                    for (int r = 2; r >= 0; r--) {
                        if (readBy(r) > 0 && (best == NONE || readBy(r) <= readBy(best))) {
                            best = r;
                        }
                    }
                    return best;
                default:
                    return answerGrounds(call, v);
            }
        }

        int answerGrounds(String call, int[] v) {
            switch (call) {
                case "rule":
                    if (!in(v[0], 0, 4)) {
                        return UNKNOWN;
                    }
                    if (!in(v[1], 1, 4) || most(unpack(v[1], v[2])) > 10) {
                        return OUTSIDE;
                    }
                    for (Sheet s : sheets) {
                        if (s.rule == v[0]) {
                            return NOT;
                        }
                    }
                    rules[v[0]] = unpack(v[1], v[2]);
                    return 1;
                case "note":
                    if (!in(v[0], 0, 8)) {
                        return UNKNOWN;
                    }
                    if (ground.size() == 16) {
                        return FULL;
                    }
                    ground.add(v[0]);
                    return ground.size();
                case "silence":
                    int had = ground.size();
                    ground.clear();
                    return had;
                case "varied":
                    if (!in(v[0], 0, 4)) {
                        return UNKNOWN;
                    }
                    if (!in(v[1], 0, 65535) || v[2] < 0) {
                        return OUTSIDE;
                    }
                    List<Integer> made = vary(rules[v[0]], groundNotes(), v[1]);
                    return v[2] < made.size() ? made.get(v[2]) : NONE;
                case "sheet":
                    return makeSheet(v);
                case "clear":
                    int gone = sheets.size();
                    sheets.clear();
                    return gone;
                case "agreeing":
                    if (sheets.isEmpty()) {
                        return NOT;
                    }
                    weigh();
                    return capped(agree);
                case "least":
                    if (sheets.isEmpty()) {
                        return NOT;
                    }
                    weigh();
                    return in(v[0], 0, leastGround.length - 1) ? leastGround[v[0]] : -1;
                case "tell":
                case "cells":
                case "blamed":
                    return in(v[0], 0, sheets.size() - 1) ? answerSheet(call, v, sheets.get(v[0])) : UNKNOWN;
                default:
                    return answerPipes(call, v);
            }
        }

        int makeSheet(int[] v) {
            if (!in(v[0], 0, 4)) {
                return UNKNOWN;
            }
            if (!in(v[1], 1, 16) || !in(v[2], 0, (1 << v[1]) - 1)) {
                return OUTSIDE;
            }
            if (!sheets.isEmpty() && (sheets.get(0).n != v[1] || sheets.get(0).cadences != v[2])) {
                return NOT;
            }
            if (sheets.size() == 3) {
                return FULL;
            }
            Sheet s = new Sheet();
            s.rule = v[0];
            s.n = v[1];
            s.cadences = v[2];
            for (int unused : vary(rules[s.rule], new int[s.n], s.cadences)) {
                s.cells.add(-1);
            }
            sheets.add(s);
            return sheets.size() - 1;
        }

        int answerSheet(String call, int[] v, Sheet s) {
            switch (call) {
                case "tell":
                    return !in(v[1], 0, s.cells.size() - 1) ? UNKNOWN : !in(v[2], -1, 8) ? OUTSIDE
                            : s.cells.set(v[1], v[2]);
                case "cells":
                    return s.cells.size();
                default:
                    if (!in(v[1], -1, s.cells.size() - 1)) {
                        return UNKNOWN;
                    }
                    weigh();
                    List<Integer> made = vary(rules[s.rule], leastGround, s.cadences);
                    int sum = 0;
                    for (int c = 0; c < made.size(); c++) {
                        boolean bad = s.cells.get(c) != -1 && s.cells.get(c).intValue() != made.get(c).intValue();
                        sum += bad && (v[1] == -1 || v[1] == c) ? 1 : 0;
                    }
                    return sum;
            }
        }

        int answerPipes(String call, int[] v) {
            switch (call) {
                case "piper":
                    if (!in(v[0], 0, 5)) {
                        return UNKNOWN;
                    }
                    if (!in(v[1], -99, 99) || !in(v[2], 0, 9) || !in(v[3], 1, 60) || !in(v[4], 0, 90)) {
                        return OUTSIDE;
                    }
                    pipers[v[0]] = new int[] {v[1], v[2], v[3], v[4]};
                    return 1;
                case "damp":
                    if (!in(v[0], 0, 5)) {
                        return OUTSIDE;
                    }
                    int had = damp;
                    damp = v[0];
                    return had;
                case "pitch":
                    return !in(v[0], 0, 5) || !in(v[1], 0, 150) || !in(v[2], 0, 150) || v[1] > v[2]
                            || v[1] < pipers[v[0]][3] ? Integer.MIN_VALUE : pitchOf(v[0], v[1], v[2]);
                case "band":
                    if (!in(v[2], 0, 1)) {
                        return OUTSIDE;
                    }
                    int refusal = bandRefusal(v[0], v[1]);
                    return refusal != 0 ? refusal : v[2] == 0 ? best(v[0], v[1])[0] : best(v[0], v[1])[1] + 1000;
                case "begins":
                    if (!in(v[2], 0, 5)) {
                        return UNKNOWN;
                    }
                    int no = bandRefusal(v[0], v[1]);
                    return no != 0 ? no : best(v[0], v[1])[2 + v[2]];
                case "tone":
                    if (!in(v[0], 0, 8)) {
                        return UNKNOWN;
                    }
                    if (!in(v[1], -300, 300)) {
                        return OUTSIDE;
                    }
                    tones[v[0]] = v[1];
                    return 1;
                case "harsh":
                    return !in(v[0], -999, 999) || !in(v[1], -999, 999) ? OUTSIDE : harshOf(v[0], v[1]);
                case "set":
                    if (!in(v[0], -999, 999)) {
                        return Integer.MIN_VALUE;
                    }
                    int at = -999;
                    for (int d = -999; d <= 999; d++) {
                        at = harshOf(d, v[0]) < harshOf(at, v[0]) ? d : at;
                    }
                    return at;
                default:
                    int lost = 0;
                    for (int[] s : steps) {
                        lost += s[2] == -1 ? 1 : 0;
                    }
                    int[] counts = {steps.size(), lost, song.size(), ground.size(), sheets.size()};
                    return in(v[0], 0, 4) ? counts[v[0]] : OUTSIDE;
            }
        }
    }

    private static int ask(PiperHouse x, String call, int[] v) {
        switch (call) {
            case "movement": return x.movement(v[0], v[1], v[2]);
            case "may": return x.may(v[0], v[1], v[2]);
            case "beat": return x.beat(v[0]);
            case "fits": return x.fits(v[0], v[1], v[2]);
            case "step": return x.step(v[0], v[1], v[2]);
            case "put": return x.put(v[0], v[1]);
            case "back": return x.back();
            case "wrong": return x.wrong();
            case "fillings": return x.fillings();
            case "quickest": return x.quickest(v[0]);
            case "graces": return x.graces();
            case "region": return x.region(v[0], v[1], v[2], v[3]);
            case "sung": return x.sung(v[0], v[1]);
            case "syllable": return x.syllable(v[0]);
            case "hush": return x.hush();
            case "read": return x.read(v[0]);
            case "first": return x.first(v[0], v[1]);
            case "home": return x.home();
            case "rule": return x.rule(v[0], v[1], v[2]);
            case "note": return x.note(v[0]);
            case "silence": return x.silence();
            case "varied": return x.varied(v[0], v[1], v[2]);
            case "sheet": return x.sheet(v[0], v[1], v[2]);
            case "tell": return x.tell(v[0], v[1], v[2]);
            case "cells": return x.cells(v[0]);
            case "clear": return x.clear();
            case "agreeing": return x.agreeing();
            case "least": return x.least(v[0]);
            case "blamed": return x.blamed(v[0], v[1]);
            case "piper": return x.piper(v[0], v[1], v[2], v[3], v[4]);
            case "damp": return x.damp(v[0]);
            case "pitch": return x.pitch(v[0], v[1], v[2]);
            case "band": return x.band(v[0], v[1], v[2]);
            case "begins": return x.begins(v[0], v[1], v[2]);
            case "tone": return x.tone(v[0], v[1]);
            case "harsh": return x.harsh(v[0], v[1]);
            case "set": return x.set(v[0]);
            default: return x.count(v[0]);
        }
    }

    private static int from(Random random, int low, int high) {
        return low + random.nextInt(high - low + 1);
    }

    private static int packed(Random random, int high) {
        int sum = 0;
        for (int i = 0; i < 4; i++) {
            sum |= from(random, 0, high) << 4 * i;
        }
        return random.nextInt(20) == 0 ? random.nextInt() : sum;
    }

    /** Arguments that are mostly as told, and lean towards what lets movements fit and rows agree. */
    private static int[] likely(Random random, String call, Slow model) {
        int steps = model.steps.size() - 1;
        int sheets = model.sheets.size() - 1;
        int sheet = from(random, 0, Math.max(0, sheets));
        int cell = sheets < 0 ? 0 : from(random, -1, model.sheets.get(sheet).cells.size() - 1);
        switch (call) {
            case "movement": return new int[] {from(random, 0, 7),
                Math.min(from(random, 0, 4), from(random, 0, 4)), packed(random, 8)};
            case "may": return new int[] {from(random, 0, 7), from(random, 0, 1),
                random.nextInt(8) > 0 ? 511 : from(random, 0, 511)};
            case "beat": return new int[] {random.nextInt(6) > 0 ? 1 : from(random, 1, 3)};
            case "fits": return new int[] {from(random, 0, 7), from(random, -1, 8), from(random, 0, 8)};
            case "step": return new int[] {from(random, 0, 8), from(random, 1, 9),
                random.nextInt(20) > 0 ? -1 : from(random, -1, 7)};
            case "put": return new int[] {from(random, 0, steps + 1),
                random.nextInt(6) > 0 ? -1 : from(random, 0, 7)};
            case "quickest": return new int[] {from(random, 0, steps + 1)};
            case "region":
                int sort = from(random, 0, 1);
                return new int[] {from(random, 0, 2), sort, from(random, 0, sort == 0 ? 7 : 8),
                    random.nextBoolean() ? from(random, 0, 1) : from(random, 0, sort == 0 ? 7 : 3)};
            case "sung": return new int[] {from(random, 0, 2), from(random, 0, steps + 1)};
            case "syllable": return new int[] {random.nextInt(4) > 0
                    ? 4 * from(random, 0, 1) + from(random, 0, 2) : from(random, 0, 31)};
            case "read": return new int[] {from(random, 0, 2)};
            case "first": return new int[] {from(random, 0, 2), from(random, 0, model.song.size())};
            case "rule": return new int[] {from(random, 0, 4), from(random, 1, 4),
                random.nextBoolean() ? packed(random, 10) : 0x9A9A};
            case "note": return new int[] {from(random, 0, 8)};
            case "varied": return new int[] {from(random, 0, 4), from(random, 0, 65535), from(random, 0, 40)};
            case "sheet":
                if (sheets >= 0 && random.nextInt(4) > 0) {
                    return new int[] {from(random, 0, 4), model.sheets.get(0).n, model.sheets.get(0).cadences};
                }
                int n = from(random, 1, 16);
                return new int[] {from(random, 0, 4), n, from(random, 0, (1 << n) - 1) & from(random, 0, 65535)};
            case "tell": return new int[] {sheet, cell,
                random.nextInt(5) > 0 ? from(random, 0, 2) : from(random, -1, 8)};
            case "cells": return new int[] {from(random, 0, sheets + 1)};
            case "least": return new int[] {from(random, -1, 16)};
            case "blamed": return new int[] {sheet, cell};
            case "piper": return new int[] {from(random, 0, 5), from(random, -99, 99), from(random, 0, 9),
                from(random, 1, 60), from(random, 0, 90)};
            case "damp": return new int[] {from(random, 0, 5)};
            case "pitch": return new int[] {from(random, 0, 5), from(random, 0, 150), from(random, 0, 150)};
            case "band": return new int[] {from(random, 1, 63), from(random, 60, 150), from(random, 0, 1)};
            case "begins": return new int[] {from(random, 1, 63), from(random, 60, 150), from(random, 0, 5)};
            case "tone": return new int[] {from(random, 0, 8), from(random, -300, 300)};
            case "harsh": return new int[] {from(random, -999, 999), from(random, -999, 999)};
            case "set": return new int[] {from(random, -999, 999)};
            case "count": return new int[] {from(random, 0, 4)};
            default: return new int[0];
        }
    }

    private static final int[] ODD = {-1000, -301, -101, -100, -3, -2, -1, 0, 1, 2, 3, 4, 5, 6, 7, 8, 9, 10, 16, 17, 24,
        31, 32, 60, 61, 63, 64, 90, 91, 100, 150, 151, 301, 511, 512, 1000, 65535, 65536, Integer.MIN_VALUE,
        Integer.MAX_VALUE};

    /** Calls that empty something are drawn seldom, so that things grow full. */
    private static boolean seldom(String call) {
        return call.equals("hush") || call.equals("silence") || call.equals("clear") || call.equals("back");
    }

    private static boolean run(int seed) {
        Random random = new Random(seed);
        PiperHouse x = new PiperHouse();
        Slow model = new Slow();
        int low = random.nextInt(5) == 0 ? 0 : from(random, 0, 3);
        int[] ends = {0, 11, 18, 29, 38};
        StringBuilder told = new StringBuilder();
        for (int i = 0; i < 512; i++) {
            // Most runs keep to one group of calls, so that its states are reached.
            int at = random.nextInt(12) == 0 ? from(random, 0, 37) : from(random, ends[low], ends[low + 1] - 1);
            if (low == 1 && random.nextInt(6) == 0) {
                at = from(random, 0, 1);
            }
            String call = CALLS[2 * at];
            if (seldom(call) && random.nextInt(8) > 0) {
                continue;
            }
            int[] v = likely(random, call, model);
            if (v.length > 0 && random.nextInt(15) == 0) {
                v[random.nextInt(v.length)] = ODD[random.nextInt(ODD.length)];
            }
            int due = model.answer(call, v);
            int got = ask(x, call, v);
            told.append(call).append(Arrays.toString(v)).append(" = ").append(got).append('\n');
            if (got != due) {
                System.out.println("seed " + seed + ", due is " + due + " at the end of:\n" + told);
                return false;
            }
        }
        return true;
    }

    public static void main(String[] args) {
        int runs = args.length > 0 ? Integer.parseInt(args[0]) : 400;
        int wrong = 0;
        for (int seed = 1; seed <= runs && wrong < 3; seed++) {
            wrong += run(seed) ? 0 : 1;
        }
        System.out.println(wrong == 0 ? runs + " drawn runs are as due" : wrong + " runs are not as due");
        if (wrong != 0) {
            System.exit(1);
        }
    }
}
