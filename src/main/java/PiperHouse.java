import java.util.Arrays;

/**
 * A house of pipers: movements and tunes, sung syllables, varied grounds, reeds and drones.
 *
 * <p>The public methods look at every number before it is used and answer the refusals, in the
 * order UNKNOWN, OUTSIDE, NOT, FULL; the classes inside hold the state and rely on that.
 */
public final class PiperHouse {
    public static final int NONE = -1, UNKNOWN = -2, OUTSIDE = -3, NOT = -4, FULL = -5, MANY = 1000001;

    private static final int NOTES = 9;
    private static final int ALL_NOTES = 511;
    private static final int MOVEMENTS = 8;
    private static final int MOST_GRACES = 4;
    private static final int MOST_BEAT = 3;
    private static final int MOST_STEPS = 24;
    private static final int MOST_LENGTH = 9;
    private static final int LOST = -1;
    /** Stands for the NOTE before a first one, which has none. */
    private static final int AHEAD = -1;

    private static final int REGIONS = 3;
    private static final int SORT_HEAD = 0;
    private static final int MOST_TAIL = 3;
    private static final int SYLLABLES = 32;
    private static final int MOST_SYLLABLES = 12;

    private static final int RULES = 5;
    private static final int MOST_PARTS = 4;
    private static final int PART_OWN = 9;
    private static final int PART_BEHIND = 10;
    private static final int MOST_GROUND = 16;
    private static final int ALL_CADENCES = 65535;
    private static final int SHEETS = 3;
    private static final int MOST_CELLS = MOST_GROUND * MOST_PARTS;
    private static final int GAP = -1;
    private static final int WHOLE_SHEET = -1;
    /** A CELL's source at or above this is a NOTE of the ground, below it a NOTE that a RULE names. */
    private static final int OF_GROUND = 16;

    private static final int PIPERS = 6;
    private static final int ALL_PIPERS = 63;
    private static final int MOST_REED = 99;
    private static final int MOST_RISE = 9;
    private static final int MOST_WARM = 60;
    private static final int LAST_COMING = 90;
    private static final int LAST_MINUTE = 150;
    private static final int MOST_DAMP = 5;
    private static final int LOW_OFFSET = 1000;
    private static final int MOST_TONE = 300;
    private static final int MOST_PITCH = 999;
    private static final int NO_PITCH = -2147483648;
    /** Above every SPREAD that a BAND can have. */
    private static final int NO_SPREAD = 1000000;

    private final Movements movements;
    private final Tune tune;
    private final Song song;
    private final Rules rules;
    private final Ground ground;
    private final Sheets sheets;
    private final Pipers pipers;
    private final Drone drone;

    public PiperHouse() {
        movements = new Movements();
        tune = new Tune(movements);
        song = new Song(movements);
        rules = new Rules();
        ground = new Ground(rules);
        sheets = new Sheets(rules);
        pipers = new Pipers();
        drone = new Drone();
    }

    // ---- movements, tunes

    public int movement(int movement, int n, int graces) {
        if (!isMovement(movement)) {
            return UNKNOWN;
        }
        if (!within(n, 0, MOST_GRACES) || !nibblesWithin(graces, n, NOTES - 1)) {
            return OUTSIDE;
        }
        movements.become(movement, n, graces);
        return 1;
    }

    public int may(int movement, int what, int notes) {
        if (!isMovement(movement)) {
            return UNKNOWN;
        }
        if (!within(what, 0, 1) || !within(notes, 0, ALL_NOTES)) {
            return OUTSIDE;
        }
        return replace(what == 0 ? movements.from : movements.to, movement, notes);
    }

    public int beat(int v) {
        if (!within(v, 1, MOST_BEAT)) {
            return OUTSIDE;
        }
        int was = movements.beat;
        movements.beat = v;
        return was;
    }

    public int fits(int movement, int a, int b) {
        if (!isMovement(movement) || !isNote(b) || (a != AHEAD && !isNote(a))) {
            return UNKNOWN;
        }
        return movements.joins(movement, a, b) ? 1 : 0;
    }

    public int step(int note, int length, int movement) {
        if (!isNote(note) || !isMovementOrLost(movement)) {
            return UNKNOWN;
        }
        if (!within(length, 1, MOST_LENGTH)) {
            return OUTSIDE;
        }
        if (tune.size >= MOST_STEPS) {
            return FULL;
        }
        return tune.append(note, length, movement);
    }

    public int put(int step, int movement) {
        if (!isStep(step) || !isMovementOrLost(movement)) {
            return UNKNOWN;
        }
        return replace(tune.movement, step, movement);
    }

    public int back() {
        if (tune.size == 0) {
            return NOT;
        }
        tune.size--;
        return tune.size;
    }

    public int wrong() {
        return tune.firstWrong();
    }

    public int fillings() {
        return tune.fillingCount();
    }

    public int quickest(int step) {
        if (!isStep(step)) {
            return UNKNOWN;
        }
        return tune.fillingCount() > 0 ? tune.quickestAt(step) : NONE;
    }

    public int graces() {
        return tune.fillingCount() > 0 ? tune.quickestGraces() : NONE;
    }

    // ---- syllables

    public int region(int region, int sort, int k, int v) {
        if (!isRegion(region)) {
            return UNKNOWN;
        }
        // Without a sort, k names neither a MOVEMENT nor a NOTE that could be unknown.
        if (!within(sort, 0, 1)) {
            return OUTSIDE;
        }
        boolean head = sort == SORT_HEAD;
        if (head ? !isMovement(k) : !isNote(k)) {
            return UNKNOWN;
        }
        if (!within(v, 0, head ? MOVEMENTS - 1 : MOST_TAIL)) {
            return OUTSIDE;
        }
        return replace(head ? song.head[region] : song.tail[region], k, v);
    }

    public int sung(int region, int step) {
        if (!isRegion(region) || !isStep(step)) {
            return UNKNOWN;
        }
        int movement = tune.movement[step];
        if (movement == LOST) {
            return NOT;
        }
        return song.sound(region, tune.note[step], movement);
    }

    public int syllable(int v) {
        if (!within(v, 0, SYLLABLES - 1)) {
            return OUTSIDE;
        }
        if (song.size >= MOST_SYLLABLES) {
            return FULL;
        }
        return song.append(v);
    }

    public int hush() {
        int had = song.size;
        song.size = 0;
        return had;
    }

    public int read(int region) {
        if (!isRegion(region)) {
            return UNKNOWN;
        }
        return song.rows(region);
    }

    public int first(int region, int i) {
        if (!isRegion(region)) {
            return UNKNOWN;
        }
        if (i < 0) {
            return OUTSIDE;
        }
        return song.firstRowAt(region, i);
    }

    public int home() {
        return song.homeRegion();
    }

    // ---- grounds

    public int rule(int rule, int n, int parts) {
        if (!isRule(rule)) {
            return UNKNOWN;
        }
        if (!within(n, 1, MOST_PARTS) || !nibblesWithin(parts, n, PART_BEHIND)) {
            return OUTSIDE;
        }
        if (sheets.useRule(rule)) {
            return NOT;
        }
        rules.become(rule, n, parts);
        return 1;
    }

    public int note(int note) {
        if (!isNote(note)) {
            return UNKNOWN;
        }
        if (ground.size >= MOST_GROUND) {
            return FULL;
        }
        return ground.append(note);
    }

    public int silence() {
        int had = ground.size;
        ground.size = 0;
        return had;
    }

    public int varied(int rule, int cadences, int i) {
        if (!isRule(rule)) {
            return UNKNOWN;
        }
        if (!within(cadences, 0, ALL_CADENCES) || i < 0) {
            return OUTSIDE;
        }
        return ground.variationAt(rule, cadences, i);
    }

    public int sheet(int rule, int n, int cadences) {
        if (!isRule(rule)) {
            return UNKNOWN;
        }
        if (!within(n, 1, MOST_GROUND) || !within(cadences, 0, (1 << n) - 1)) {
            return OUTSIDE;
        }
        if (!sheets.accept(n, cadences)) {
            return NOT;
        }
        if (sheets.size >= SHEETS) {
            return FULL;
        }
        return sheets.append(rule, n, cadences);
    }

    public int tell(int sheet, int cell, int v) {
        if (!isCell(sheet, cell)) {
            return UNKNOWN;
        }
        if (v != GAP && !isNote(v)) {
            return OUTSIDE;
        }
        return replace(sheets.told[sheet], cell, v);
    }

    public int cells(int sheet) {
        if (!isSheet(sheet)) {
            return UNKNOWN;
        }
        return sheets.cellCount[sheet];
    }

    public int clear() {
        int had = sheets.size;
        sheets.size = 0;
        return had;
    }

    public int agreeing() {
        if (sheets.size == 0) {
            return NOT;
        }
        return sheets.agreeingGrounds();
    }

    public int least(int i) {
        if (sheets.size == 0) {
            return NOT;
        }
        if (!within(i, 0, sheets.notes - 1)) {
            return NONE;
        }
        sheets.chooseGround();
        return sheets.chosen[i];
    }

    public int blamed(int sheet, int cell) {
        if (!isSheet(sheet) || (cell != WHOLE_SHEET && !isCell(sheet, cell))) {
            return UNKNOWN;
        }
        sheets.chooseGround();
        if (cell == WHOLE_SHEET) {
            return sheets.wrongCells(sheet);
        }
        return sheets.isWrong(sheet, cell) ? 1 : 0;
    }

    // ---- pipes

    public int piper(int piper, int reed, int rise, int warm, int comes) {
        if (!isPiper(piper)) {
            return UNKNOWN;
        }
        if (!within(reed, -MOST_REED, MOST_REED) || !within(rise, 0, MOST_RISE)
                || !within(warm, 1, MOST_WARM) || !within(comes, 0, LAST_COMING)) {
            return OUTSIDE;
        }
        pipers.become(piper, reed, rise, warm, comes);
        return 1;
    }

    public int damp(int v) {
        if (!within(v, 0, MOST_DAMP)) {
            return OUTSIDE;
        }
        int was = pipers.damp;
        pipers.damp = v;
        return was;
    }

    public int pitch(int piper, int s, int t) {
        if (!isPiper(piper) || !isMinute(s) || !isMinute(t)) {
            return NO_PITCH;
        }
        if (s > t || s < pipers.comes[piper]) {
            return NO_PITCH;
        }
        return pipers.pitchAfter(piper, t - s);
    }

    public int band(int set, int t, int what) {
        if (!isBand(set) || !isMinute(t) || !within(what, 0, 1)) {
            return OUTSIDE;
        }
        if (!pipers.allCome(set, t)) {
            return NOT;
        }
        pipers.tuneBand(set, t);
        return what == 0 ? pipers.bestSpread : pipers.bestLow + LOW_OFFSET;
    }

    public int begins(int set, int t, int piper) {
        if (!isPiper(piper)) {
            return UNKNOWN;
        }
        if (!isBand(set) || !isMinute(t)) {
            return OUTSIDE;
        }
        if (!pipers.allCome(set, t)) {
            return NOT;
        }
        if (!hasBit(set, piper)) {
            return NONE;
        }
        pipers.tuneBand(set, t);
        return t - pipers.minutesToReach(piper, pipers.bestLow, t);
    }

    public int tone(int note, int v) {
        if (!isNote(note)) {
            return UNKNOWN;
        }
        if (!within(v, -MOST_TONE, MOST_TONE)) {
            return OUTSIDE;
        }
        drone.tone[note] = v;
        return 1;
    }

    public int harsh(int drone, int pitch) {
        if (!isPitch(drone) || !isPitch(pitch)) {
            return OUTSIDE;
        }
        return this.drone.harshness(drone, pitch);
    }

    public int set(int pitch) {
        if (!isPitch(pitch)) {
            return NO_PITCH;
        }
        return drone.mildest(pitch);
    }

    public int count(int what) {
        switch (what) {
            case 0:
                return tune.size;
            case 1:
                return tune.lostOnes();
            case 2:
                return song.size;
            case 3:
                return ground.size;
            case 4:
                return sheets.size;
            default:
                return OUTSIDE;
        }
    }

    // ---- what is there

    private static boolean within(int v, int low, int high) {
        return v >= low && v <= high;
    }

    private static boolean hasBit(int bits, int i) {
        return (bits >> i & 1) == 1;
    }

    private static int nibble(int packed, int i) {
        return packed >> 4 * i & 15;
    }

    private static boolean nibblesWithin(int packed, int n, int high) {
        for (int i = 0; i < n; i++) {
            if (nibble(packed, i) > high) {
                return false;
            }
        }
        return true;
    }

    private static int replace(int[] row, int i, int v) {
        int was = row[i];
        row[i] = v;
        return was;
    }

    private static boolean isNote(int note) {
        return within(note, 0, NOTES - 1);
    }

    private static boolean isMovement(int movement) {
        return within(movement, 0, MOVEMENTS - 1);
    }

    private static boolean isMovementOrLost(int movement) {
        return movement == LOST || isMovement(movement);
    }

    private static boolean isRegion(int region) {
        return within(region, 0, REGIONS - 1);
    }

    private static boolean isRule(int rule) {
        return within(rule, 0, RULES - 1);
    }

    private static boolean isPiper(int piper) {
        return within(piper, 0, PIPERS - 1);
    }

    private static boolean isBand(int set) {
        return within(set, 1, ALL_PIPERS);
    }

    private static boolean isMinute(int t) {
        return within(t, 0, LAST_MINUTE);
    }

    private static boolean isPitch(int pitch) {
        return within(pitch, -MOST_PITCH, MOST_PITCH);
    }

    private boolean isStep(int step) {
        return within(step, 0, tune.size - 1);
    }

    private boolean isSheet(int sheet) {
        return within(sheet, 0, sheets.size - 1);
    }

    private boolean isCell(int sheet, int cell) {
        return isSheet(sheet) && within(cell, 0, sheets.cellCount[sheet] - 1);
    }

    // ---- classes inside

    private static final class Movements {
        final int[] size = new int[MOVEMENTS];
        final int[][] grace = new int[MOVEMENTS][MOST_GRACES];
        final int[] from = new int[MOVEMENTS];
        final int[] to = new int[MOVEMENTS];
        int beat = 1;

        Movements() {
            from[0] = ALL_NOTES;
            to[0] = ALL_NOTES;
        }

        void become(int movement, int n, int graces) {
            size[movement] = n;
            for (int i = 0; i < n; i++) {
                grace[movement][i] = nibble(graces, i);
            }
        }

        /** The NOTES (bits) to which a MOVEMENT FITS behind NOTE a, or AHEAD of a first one. */
        int leadsTo(int movement, int a) {
            if (a != AHEAD && !hasBit(from[movement], a)) {
                return 0;
            }
            int n = size[movement];
            if (n == 0) {
                return a == AHEAD ? to[movement] : to[movement] & ~(1 << a);
            }
            if (a == grace[movement][0] || repeatsGrace(movement)) {
                return 0;
            }
            return to[movement] & ~(1 << grace[movement][n - 1]);
        }

        boolean joins(int movement, int a, int b) {
            return hasBit(leadsTo(movement, a), b);
        }

        boolean leavesTime(int movement, int length) {
            return length > beat * size[movement];
        }

        private boolean repeatsGrace(int movement) {
            for (int i = 1; i < size[movement]; i++) {
                if (grace[movement][i] == grace[movement][i - 1]) {
                    return true;
                }
            }
            return false;
        }
    }

    /**
     * A TUNE's NOTES are all known, so whether a STEP HOLDS hangs on its own MOVEMENT alone: LOST
     * ones are filled one by one, and the ways to fill them multiply.
     */
    private static final class Tune {
        private final Movements movements;
        final int[] note = new int[MOST_STEPS];
        final int[] length = new int[MOST_STEPS];
        final int[] movement = new int[MOST_STEPS];
        int size;

        Tune(Movements movements) {
            this.movements = movements;
        }

        int append(int newNote, int newLength, int newMovement) {
            note[size] = newNote;
            length[size] = newLength;
            movement[size] = newMovement;
            size++;
            return size;
        }

        int lostOnes() {
            int lost = 0;
            for (int i = 0; i < size; i++) {
                if (movement[i] == LOST) {
                    lost++;
                }
            }
            return lost;
        }

        int firstWrong() {
            for (int i = 0; i < size; i++) {
                if (movement[i] != LOST && !holdsWith(i, movement[i])) {
                    return i;
                }
            }
            return NONE;
        }

        int fillingCount() {
            int ways = 1;
            for (int i = 0; i < size; i++) {
                ways = Math.min(MANY, ways * waysAt(i));
            }
            return ways;
        }

        /** A told MOVEMENT as it is; for a LOST one that with the fewest GRACES, or NONE. */
        int quickestAt(int step) {
            if (movement[step] != LOST) {
                return movement[step];
            }
            int best = NONE;
            for (int m = 0; m < MOVEMENTS; m++) {
                if (holdsWith(step, m) && (best == NONE || movements.size[m] < movements.size[best])) {
                    best = m;
                }
            }
            return best;
        }

        int quickestGraces() {
            int sum = 0;
            for (int i = 0; i < size; i++) {
                int m = quickestAt(i);
                sum += m == NONE ? 0 : movements.size[m];
            }
            return sum;
        }

        private int waysAt(int step) {
            if (movement[step] != LOST) {
                return holdsWith(step, movement[step]) ? 1 : 0;
            }
            int ways = 0;
            for (int m = 0; m < MOVEMENTS; m++) {
                if (holdsWith(step, m)) {
                    ways++;
                }
            }
            return ways;
        }

        private boolean holdsWith(int step, int m) {
            int before = step == 0 ? AHEAD : note[step - 1];
            return movements.joins(m, before, note[step]) && movements.leavesTime(m, length[step]);
        }
    }

    private static final class Song {
        private final Movements movements;
        final int[][] head = new int[REGIONS][MOVEMENTS];
        final int[][] tail = new int[REGIONS][NOTES];
        private final int[] heard = new int[MOST_SYLLABLES];
        int size;
        /** Rows so far by their last NOTE, at NOTE + 1; at 0 the one row that has no STEP yet. */
        private final int[] rowsTo = new int[NOTES + 1];
        private final int[] rowsOn = new int[NOTES + 1];
        /** Of each STEP the NOTES (bits) from which the rest of the SONG can be READ. */
        private final int[] open = new int[MOST_SYLLABLES];

        Song(Movements movements) {
            this.movements = movements;
            for (int r = 0; r < REGIONS; r++) {
                for (int m = 0; m < MOVEMENTS; m++) {
                    head[r][m] = m;
                }
                for (int n = 0; n < NOTES; n++) {
                    tail[r][n] = n / 3;
                }
            }
        }

        int append(int v) {
            heard[size] = v;
            size++;
            return size;
        }

        int sound(int region, int note, int movement) {
            return 4 * head[region][movement] + tail[region][note];
        }

        int rows(int region) {
            Arrays.fill(rowsTo, 0);
            rowsTo[0] = 1;
            for (int k = 0; k < size; k++) {
                readOn(region, k);
            }
            int sum = 0;
            for (int i = 0; i <= NOTES; i++) {
                sum = Math.min(MANY, sum + rowsTo[i]);
            }
            return sum;
        }

        int firstRowAt(int region, int i) {
            if (i >= size) {
                return NONE;
            }
            markOpen(region);
            int before = AHEAD;
            int found = NONE;
            for (int k = 0; k <= i; k++) {
                found = firstStep(region, k, before);
                if (found == NONE) {
                    return NONE;
                }
                before = found / 16;
            }
            return found;
        }

        /** REGIONS with MANY rows count as alike, as READ counts no further. */
        int homeRegion() {
            int best = NONE;
            int fewest = 0;
            for (int r = 0; r < REGIONS; r++) {
                int rows = rows(r);
                if (rows > 0 && (best == NONE || rows < fewest)) {
                    best = r;
                    fewest = rows;
                }
            }
            return best;
        }

        private void readOn(int region, int k) {
            Arrays.fill(rowsOn, 0);
            int allowed = notesFor(region, k);
            for (int a = AHEAD; a < NOTES; a++) {
                for (int m = 0; m < MOVEMENTS; m++) {
                    if (rowsTo[a + 1] > 0 && hasHead(region, k, m)) {
                        addRows(movements.leadsTo(m, a) & allowed, rowsTo[a + 1]);
                    }
                }
            }
            System.arraycopy(rowsOn, 0, rowsTo, 0, NOTES + 1);
        }

        private void addRows(int notes, int rows) {
            for (int b = 0; b < NOTES; b++) {
                if (hasBit(notes, b)) {
                    rowsOn[b + 1] = Math.min(MANY, rowsOn[b + 1] + rows);
                }
            }
        }

        private boolean hasHead(int region, int k, int movement) {
            return head[region][movement] == heard[k] / 4;
        }

        private int notesFor(int region, int k) {
            int notes = 0;
            for (int n = 0; n < NOTES; n++) {
                if (tail[region][n] == heard[k] % 4) {
                    notes |= 1 << n;
                }
            }
            return notes;
        }

        private void markOpen(int region) {
            for (int k = size - 1; k >= 0; k--) {
                int notes = notesFor(region, k);
                open[k] = k == size - 1 ? notes : openAmong(region, k, notes);
            }
        }

        private int openAmong(int region, int k, int notes) {
            int kept = 0;
            for (int n = 0; n < NOTES; n++) {
                if (hasBit(notes, n) && goesOn(region, k + 1, n)) {
                    kept |= 1 << n;
                }
            }
            return kept;
        }

        private boolean goesOn(int region, int k, int before) {
            for (int m = 0; m < MOVEMENTS; m++) {
                if (hasHead(region, k, m) && (movements.leadsTo(m, before) & open[k]) != 0) {
                    return true;
                }
            }
            return false;
        }

        private int firstStep(int region, int k, int before) {
            for (int n = 0; n < NOTES; n++) {
                for (int m = 0; m < MOVEMENTS; m++) {
                    if (hasBit(open[k], n) && hasHead(region, k, m) && movements.joins(m, before, n)) {
                        return 16 * n + m;
                    }
                }
            }
            return NONE;
        }
    }

    private static final class Rules {
        private final int[] size = new int[RULES];
        private final int[][] part = new int[RULES][MOST_PARTS];

        Rules() {
            for (int r = 0; r < RULES; r++) {
                size[r] = 1;
                part[r][0] = PART_OWN;
            }
        }

        void become(int rule, int n, int parts) {
            size[rule] = n;
            for (int i = 0; i < n; i++) {
                part[rule][i] = nibble(parts, i);
            }
        }

        int variationSize(int rule, int n, int cadences) {
            int alone = Integer.bitCount(cadences);
            return alone + (n - alone) * size[rule];
        }

        /**
         * Where a CELL of the VARIATION of a GROUND of n NOTES comes from: a NOTE that the RULE
         * names, OF_GROUND and the number of a NOTE of the GROUND, or NONE beyond the last CELL.
         */
        int source(int rule, int n, int cadences, int cell) {
            int left = cell;
            for (int i = 0; i < n; i++) {
                boolean alone = hasBit(cadences, i);
                int here = alone ? 1 : size[rule];
                if (left < here) {
                    return sourceOf(alone ? PART_OWN : part[rule][left], i, n);
                }
                left -= here;
            }
            return NONE;
        }

        private static int sourceOf(int part, int i, int n) {
            if (part == PART_OWN) {
                return OF_GROUND + i;
            }
            if (part == PART_BEHIND) {
                return OF_GROUND + (i + 1 < n ? i + 1 : 0);
            }
            return part;
        }
    }

    private static final class Ground {
        private final Rules rules;
        private final int[] note = new int[MOST_GROUND];
        int size;

        Ground(Rules rules) {
            this.rules = rules;
        }

        int append(int newNote) {
            note[size] = newNote;
            size++;
            return size;
        }

        int variationAt(int rule, int cadences, int cell) {
            int source = rules.source(rule, size, cadences, cell);
            return source < OF_GROUND ? source : note[source - OF_GROUND];
        }
    }

    /**
     * Every CELL comes from one NOTE of the ground or from none, so told CELLS are votes for the
     * NOTES of a GROUND, each of which can be chosen by itself.
     */
    private static final class Sheets {
        private final Rules rules;
        private final int[] rule = new int[SHEETS];
        final int[] cellCount = new int[SHEETS];
        final int[][] told = new int[SHEETS][MOST_CELLS];
        int size;
        int notes;
        private int cadences;
        private final int[][] votes = new int[MOST_GROUND][NOTES];
        private final int[] voters = new int[MOST_GROUND];
        /** Told CELLS that are WRONG by every GROUND, as their RULE names another NOTE. */
        private int lostCauses;
        final int[] chosen = new int[MOST_GROUND];

        Sheets(Rules rules) {
            this.rules = rules;
        }

        boolean accept(int n, int newCadences) {
            return size == 0 || (n == notes && newCadences == cadences);
        }

        boolean useRule(int asked) {
            for (int s = 0; s < size; s++) {
                if (rule[s] == asked) {
                    return true;
                }
            }
            return false;
        }

        int append(int newRule, int n, int newCadences) {
            notes = n;
            cadences = newCadences;
            rule[size] = newRule;
            cellCount[size] = rules.variationSize(newRule, n, newCadences);
            Arrays.fill(told[size], GAP);
            size++;
            return size - 1;
        }

        int agreeingGrounds() {
            poll();
            if (lostCauses > 0) {
                return 0;
            }
            int grounds = 1;
            for (int i = 0; i < notes; i++) {
                grounds = Math.min(MANY, grounds * blamelessNotes(i));
            }
            return grounds;
        }

        void chooseGround() {
            poll();
            for (int i = 0; i < notes; i++) {
                chosen[i] = mostVoted(votes[i]);
            }
        }

        int wrongCells(int sheet) {
            int wrong = 0;
            for (int c = 0; c < cellCount[sheet]; c++) {
                if (isWrong(sheet, c)) {
                    wrong++;
                }
            }
            return wrong;
        }

        /** By the chosen ground. */
        boolean isWrong(int sheet, int cell) {
            int source = rules.source(rule[sheet], notes, cadences, cell);
            int due = source < OF_GROUND ? source : chosen[source - OF_GROUND];
            return told[sheet][cell] != GAP && told[sheet][cell] != due;
        }

        private void poll() {
            lostCauses = 0;
            Arrays.fill(voters, 0);
            for (int i = 0; i < MOST_GROUND; i++) {
                Arrays.fill(votes[i], 0);
            }
            for (int s = 0; s < size; s++) {
                for (int c = 0; c < cellCount[s]; c++) {
                    if (told[s][c] != GAP) {
                        vote(rules.source(rule[s], notes, cadences, c), told[s][c]);
                    }
                }
            }
        }

        private void vote(int source, int toldNote) {
            if (source >= OF_GROUND) {
                voters[source - OF_GROUND]++;
                votes[source - OF_GROUND][toldNote]++;
            } else if (source != toldNote) {
                lostCauses++;
            }
        }

        private int blamelessNotes(int i) {
            int blameless = 0;
            for (int n = 0; n < NOTES; n++) {
                if (votes[i][n] == voters[i]) {
                    blameless++;
                }
            }
            return blameless;
        }

        private static int mostVoted(int[] votesByNote) {
            int best = 0;
            for (int n = 1; n < NOTES; n++) {
                if (votesByNote[n] > votesByNote[best]) {
                    best = n;
                }
            }
            return best;
        }
    }

    private static final class Pipers {
        private final int[] reed = new int[PIPERS];
        private final int[] rise = new int[PIPERS];
        private final int[] warm = new int[PIPERS];
        final int[] comes = new int[PIPERS];
        int damp;
        int bestSpread;
        int bestLow;

        Pipers() {
            Arrays.fill(warm, 1);
        }

        void become(int piper, int newReed, int newRise, int newWarm, int newComes) {
            reed[piper] = newReed;
            rise[piper] = newRise;
            warm[piper] = newWarm;
            comes[piper] = newComes;
        }

        int pitchAfter(int piper, int minutes) {
            return reed[piper] + dampRise(piper) * Math.min(minutes, warm[piper]);
        }

        boolean allCome(int set, int t) {
            for (int p = 0; p < PIPERS; p++) {
                if (hasBit(set, p) && comes[p] > t) {
                    return false;
                }
            }
            return true;
        }

        /** Tries every pitch that a PIPER of the set can have at t as the BAND's least one. */
        void tuneBand(int set, int t) {
            bestSpread = NO_SPREAD;
            bestLow = 0;
            for (int p = 0; p < PIPERS; p++) {
                if (hasBit(set, p)) {
                    int longest = longestBlown(p, t);
                    for (int minutes = 0; minutes <= longest; minutes++) {
                        tryLow(set, t, pitchAfter(p, minutes));
                    }
                }
            }
        }

        /** The fewest minutes by which a PIPER's pitch at t is not below low, or NONE. */
        int minutesToReach(int piper, int low, int t) {
            if (low <= reed[piper]) {
                return 0;
            }
            int each = dampRise(piper);
            if (each == 0) {
                return NONE;
            }
            int minutes = (low - reed[piper] + each - 1) / each;
            return minutes <= longestBlown(piper, t) ? minutes : NONE;
        }

        private void tryLow(int set, int t, int low) {
            int high = low;
            for (int p = 0; p < PIPERS; p++) {
                if (hasBit(set, p)) {
                    int minutes = minutesToReach(p, low, t);
                    if (minutes == NONE) {
                        return;
                    }
                    high = Math.max(high, pitchAfter(p, minutes));
                }
            }
            int spread = high - low;
            if (spread < bestSpread || (spread == bestSpread && low < bestLow)) {
                bestSpread = spread;
                bestLow = low;
            }
        }

        private int dampRise(int piper) {
            return Math.max(0, rise[piper] - damp);
        }

        /** A reed that is warm rises no further, so longer blowing reaches no other pitch. */
        private int longestBlown(int piper, int t) {
            return Math.min(t - comes[piper], warm[piper]);
        }
    }

    private static final class Drone {
        final int[] tone = new int[NOTES];

        int harshness(int at, int pitch) {
            int sum = 0;
            for (int n = 0; n < NOTES; n++) {
                sum += Math.abs(tone[n] + pitch - at);
            }
            return sum;
        }

        /**
         * HARSH falls up to the middle one of the nine heights and rises behind it, so the nearest
         * DRONE to that one is the least HARSH, and no other is as good.
         */
        int mildest(int pitch) {
            return Math.max(-MOST_PITCH, Math.min(MOST_PITCH, middleTone() + pitch));
        }

        private int middleTone() {
            for (int n = 0; n < NOTES; n++) {
                int below = 0;
                int upTo = 0;
                for (int k = 0; k < NOTES; k++) {
                    below += tone[k] < tone[n] ? 1 : 0;
                    upTo += tone[k] <= tone[n] ? 1 : 0;
                }
                if (below <= NOTES / 2 && upTo > NOTES / 2) {
                    return tone[n];
                }
            }
            return 0;
        }
    }
}
