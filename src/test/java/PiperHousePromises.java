/** For each promise of the document: ordinary inputs, the edges that it names, and wrong inputs. */
public final class PiperHousePromises {
    private static final int NONE = -1, UNKNOWN = -2, OUTSIDE = -3, NOT = -4, FULL = -5, MANY = 1000001;
    private static final int LEAST_INT = Integer.MIN_VALUE;
    private static final int[] FAR = {Integer.MIN_VALUE, -1000000, 1000000, Integer.MAX_VALUE};

    private static int wrong = 0;
    private static int promise = 0;
    private static int row = 0;

    private static void promise(int number) {
        promise = number;
        row = 0;
    }

    private static void due(int got, int want) {
        row++;
        if (got != want) {
            wrong++;
            StackTraceElement at = new Throwable().getStackTrace()[1];
            System.out.println("promise " + promise + ", row " + row + " (line " + at.getLineNumber() + "): answered "
                    + got + ", due is " + want);
        }
    }

    public static void main(String[] args) {
        newObject();
        movement();
        may();
        beat();
        fits();
        step();
        put();
        back();
        wrongStep();
        fillings();
        quickest();
        graces();
        region();
        sung();
        syllable();
        hush();
        read();
        first();
        home();
        rule();
        note();
        silence();
        varied();
        sheet();
        tell();
        cells();
        clear();
        agreeing();
        least();
        blamed();
        piper();
        damp();
        pitch();
        band();
        begins();
        tone();
        harsh();
        set();
        count();
        System.out.println(wrong == 0 ? "all promises are as due" : wrong + " answers are not as due");
        if (wrong != 0) {
            System.exit(1);
        }
    }

    private static void open(PiperHouse x, int movement, int n, int graces) {
        due(x.movement(movement, n, graces), 1);
        x.may(movement, 0, 511);
        x.may(movement, 1, 511);
    }

    private static void newObject() {
        promise(1);
        PiperHouse x = new PiperHouse();
        for (int what = 0; what <= 4; what++) {
            due(x.count(what), 0);
        }
        for (int m = 0; m < 8; m++) {
            due(x.may(m, 0, 511), m == 0 ? 511 : 0);
            due(x.may(m, 1, 511), m == 0 ? 511 : 0);
            // Without GRACES a MOVEMENT parts unlike NOTES alone.
            due(x.fits(m, 8, 0), 1);
            due(x.fits(m, 8, 8), 0);
        }
        due(x.beat(1), 1);
        due(x.damp(0), 0);
        for (int r = 0; r < 3; r++) {
            for (int m = 0; m < 8; m++) {
                due(x.region(r, 0, m, 0), m);
            }
            for (int n = 0; n < 9; n++) {
                due(x.region(r, 1, n, 0), n / 3);
            }
        }
        for (int p = 0; p < 6; p++) {
            due(x.pitch(p, 0, 150), 0);
            due(x.pitch(p, 0, 0), 0);
        }
        due(x.harsh(0, 0), 0);
        x.note(7);
        for (int r = 0; r < 5; r++) {
            due(x.varied(r, 0, 0), 7);
            due(x.varied(r, 0, 1), NONE);
        }
        // One object does not share with another.
        PiperHouse y = new PiperHouse();
        due(y.count(3), 0);
        due(y.may(1, 0, 0), 0);
        due(y.region(0, 0, 7, 7), 7);
    }

    private static void movement() {
        promise(2);
        PiperHouse x = new PiperHouse();
        open(x, 7, 4, 0x8080);
        due(x.fits(7, 1, 1), 1);
        due(x.fits(7, 0, 1), 0);
        due(x.fits(7, 1, 8), 0);
        due(x.fits(7, 8, 0), 1);
        // GRACES beyond n are not looked at, and the sign bit is not either.
        due(x.movement(7, 1, 0xFFFFFFF3), 1);
        due(x.fits(7, 3, 1), 0);
        due(x.fits(7, 1, 3), 0);
        due(x.fits(7, 1, 1), 1);
        due(x.movement(7, 0, -1), 1);
        due(x.fits(7, 1, 1), 0);
        due(x.fits(7, 3, 1), 1);
        due(x.movement(7, 1, 9), OUTSIDE);
        due(x.movement(7, 4, 0x9000), OUTSIDE);
        due(x.movement(7, 3, 0x9000), 1);
        due(x.movement(7, -1, 0), OUTSIDE);
        due(x.movement(7, 5, 0), OUTSIDE);
        due(x.movement(-1, 5, 0), UNKNOWN);
        due(x.movement(8, 5, 9), UNKNOWN);
        // A refusal changes nothing.
        due(x.movement(7, 1, 2), 1);
        due(x.movement(7, 2, 0xF5), OUTSIDE);
        due(x.fits(7, 2, 5), 0);
        due(x.fits(7, 5, 5), 1);
        // GRACES that are alike are taken, but never FIT.
        due(x.movement(7, 2, 0x22), 1);
        due(x.fits(7, 5, 6), 0);
        due(x.fits(7, -1, 6), 0);
        for (int far : FAR) {
            due(x.movement(far, 0, 0), UNKNOWN);
            due(x.movement(1, far, 0), OUTSIDE);
            due(x.movement(1, 0, far), 1);
        }
    }

    private static void may() {
        promise(3);
        PiperHouse x = new PiperHouse();
        due(x.may(3, 0, 5), 0);
        due(x.may(3, 1, 256), 0);
        due(x.may(3, 0, 511), 5);
        due(x.may(3, 1, 0), 256);
        due(x.may(3, 0, 5), 511);
        due(x.may(3, 1, 258), 0);
        due(x.fits(3, 0, 8), 1);
        due(x.fits(3, 2, 1), 1);
        due(x.fits(3, 1, 8), 0);
        due(x.fits(3, 0, 2), 0);
        due(x.may(0, 0, 1), 511);
        due(x.may(3, 0, -1), OUTSIDE);
        due(x.may(3, 0, 512), OUTSIDE);
        due(x.may(3, 2, 1), OUTSIDE);
        due(x.may(3, -1, 1), OUTSIDE);
        due(x.may(8, 2, 512), UNKNOWN);
        due(x.may(-1, 0, 0), UNKNOWN);
        due(x.may(3, 0, 0), 5);
        for (int far : FAR) {
            due(x.may(far, 0, 0), UNKNOWN);
            due(x.may(0, far, 0), OUTSIDE);
            due(x.may(0, 0, far), OUTSIDE);
        }
    }

    private static void beat() {
        promise(4);
        PiperHouse x = new PiperHouse();
        due(x.beat(3), 1);
        due(x.beat(0), OUTSIDE);
        due(x.beat(4), OUTSIDE);
        due(x.beat(-1), OUTSIDE);
        due(x.beat(2), 3);
        due(x.beat(1), 2);
        open(x, 1, 2, 0x21);
        x.step(0, 3, 1);
        due(x.wrong(), NONE);
        due(x.beat(2), 1);
        due(x.wrong(), 0);
        for (int far : FAR) {
            due(x.beat(far), OUTSIDE);
        }
    }

    private static void fits() {
        promise(5);
        PiperHouse x = new PiperHouse();
        due(x.movement(2, 3, 0x323), 1);
        x.may(2, 0, 0b1_1111_0111);
        x.may(2, 1, 0b1_0111_1111);
        due(x.fits(2, 1, 1), 1);
        due(x.fits(2, 3, 1), 0);
        due(x.fits(2, 1, 3), 0);
        due(x.fits(2, 1, 7), 0);
        // FROM does not matter ahead of the first NOTE, TO does.
        x.may(2, 0, 0);
        due(x.fits(2, 1, 1), 0);
        due(x.fits(2, -1, 1), 1);
        due(x.fits(2, -1, 3), 0);
        due(x.fits(2, -1, 7), 0);
        due(x.fits(0, 8, 8), 0);
        due(x.fits(0, -1, 8), 1);
        due(x.fits(-1, 0, 1), UNKNOWN);
        due(x.fits(8, 0, 1), UNKNOWN);
        due(x.fits(0, -2, 1), UNKNOWN);
        due(x.fits(0, 9, 1), UNKNOWN);
        due(x.fits(0, 0, -1), UNKNOWN);
        due(x.fits(0, 0, 9), UNKNOWN);
        for (int far : FAR) {
            due(x.fits(far, 0, 1), UNKNOWN);
            due(x.fits(0, far, 1), UNKNOWN);
            due(x.fits(0, 0, far), UNKNOWN);
        }
    }

    private static void step() {
        promise(6);
        PiperHouse x = new PiperHouse();
        due(x.step(-1, 0, 0), UNKNOWN);
        due(x.step(9, 0, 0), UNKNOWN);
        due(x.step(0, 0, -2), UNKNOWN);
        due(x.step(0, 0, 8), UNKNOWN);
        due(x.step(0, 0, 7), OUTSIDE);
        due(x.step(0, 10, 7), OUTSIDE);
        due(x.count(0), 0);
        for (int i = 0; i < 24; i++) {
            due(x.step(i % 9, 1 + i % 9, i % 9 - 1), i + 1);
        }
        due(x.step(0, 1, 0), FULL);
        due(x.step(0, 0, 0), OUTSIDE);
        due(x.step(9, 1, 0), UNKNOWN);
        due(x.count(0), 24);
        due(x.count(1), 3);
        due(x.back(), 23);
        due(x.step(8, 9, -1), 24);
        due(x.count(1), 4);
        for (int far : FAR) {
            due(x.step(far, 1, 0), UNKNOWN);
            due(x.step(0, far, 0), OUTSIDE);
            due(x.step(0, 1, far), UNKNOWN);
        }
    }

    private static void put() {
        promise(7);
        PiperHouse x = new PiperHouse();
        due(x.put(0, 0), UNKNOWN);
        x.step(0, 1, 5);
        x.step(1, 1, -1);
        due(x.put(0, 7), 5);
        due(x.put(0, -1), 7);
        due(x.put(1, 3), -1);
        due(x.put(1, 8), UNKNOWN);
        due(x.put(1, -2), UNKNOWN);
        due(x.put(2, 0), UNKNOWN);
        due(x.put(-1, 0), UNKNOWN);
        due(x.put(1, 0), 3);
        due(x.count(1), 1);
        x.back();
        due(x.put(1, 0), UNKNOWN);
        for (int far : FAR) {
            due(x.put(far, 0), UNKNOWN);
            due(x.put(0, far), UNKNOWN);
        }
    }

    private static void back() {
        promise(8);
        PiperHouse x = new PiperHouse();
        due(x.back(), NOT);
        x.step(0, 1, -1);
        x.step(1, 1, 0);
        due(x.back(), 1);
        due(x.count(1), 1);
        due(x.back(), 0);
        due(x.count(1), 0);
        due(x.back(), NOT);
        due(x.count(0), 0);
        due(x.step(4, 1, 0), 1);
        due(x.sung(0, 0), 1);
    }

    private static void wrongStep() {
        promise(9);
        PiperHouse x = new PiperHouse();
        due(x.wrong(), NONE);
        open(x, 1, 3, 0x121);
        x.step(0, 4, 1);
        due(x.wrong(), NONE);
        x.step(0, 9, -1);
        due(x.wrong(), NONE);
        x.step(0, 3, 1);
        due(x.wrong(), 2);
        x.step(0, 9, 0);
        due(x.wrong(), 2);
        x.put(2, -1);
        due(x.wrong(), 3);
        x.put(3, 1);
        due(x.wrong(), NONE);
        x.beat(2);
        due(x.wrong(), 0);
        x.put(0, 0);
        due(x.wrong(), NONE);
        x.beat(3);
        due(x.wrong(), 3);
        // LENGTH 9 is not above 3 times 3 GRACES.
        x.movement(1, 2, 0x21);
        due(x.wrong(), NONE);
    }

    private static void fillings() {
        promise(10);
        PiperHouse x = new PiperHouse();
        due(x.fillings(), 1);
        for (int m = 1; m < 8; m++) {
            open(x, m, 1, m);
        }
        x.step(0, 9, -1);
        due(x.fillings(), 8);
        x.step(8, 1, -1);
        due(x.fillings(), 8);
        x.put(1, 0);
        due(x.fillings(), 8);
        x.put(1, 1);
        due(x.fillings(), 0);
        x.back();
        x.back();
        // 10 to the 6 FILLINGS count, one more does not: 5 ways and 2 ways, six times.
        for (int m = 6; m < 8; m++) {
            x.may(m, 1, 0);
        }
        x.may(0, 1, 0);
        due(x.may(3, 1, 1), 511);
        due(x.may(4, 1, 1), 511);
        due(x.may(5, 1, 1), 511);
        for (int i = 0; i < 6; i++) {
            x.step(0, 9, -1);
            x.step(8, 9, -1);
        }
        due(x.fillings(), 1000000);
        x.step(0, 9, -1);
        due(x.fillings(), MANY);
        due(x.quickest(12), 1);
        for (int i = 0; i < 11; i++) {
            x.step(i % 2 == 0 ? 8 : 0, 9, -1);
        }
        due(x.count(0), 24);
        due(x.fillings(), MANY);
        // One that cannot stand undoes all others.
        x.put(23, 0);
        due(x.fillings(), 0);
        x.put(23, -1);
        x.put(0, 7);
        due(x.fillings(), 0);
    }

    private static void quickest() {
        promise(11);
        PiperHouse x = new PiperHouse();
        open(x, 1, 3, 0x121);
        open(x, 2, 1, 3);
        open(x, 3, 1, 4);
        due(x.quickest(0), UNKNOWN);
        x.step(0, 9, -1);
        x.step(0, 9, -1);
        x.step(3, 9, -1);
        x.step(3, 9, -1);
        x.step(3, 9, 1);
        due(x.quickest(0), 0);
        due(x.quickest(1), 2);
        due(x.quickest(2), 0);
        due(x.quickest(3), 3);
        due(x.quickest(4), 1);
        due(x.quickest(5), UNKNOWN);
        due(x.quickest(-1), UNKNOWN);
        x.movement(3, 4, 0x1212);
        due(x.quickest(3), 1);
        x.put(4, 0);
        for (int i = 0; i < 5; i++) {
            due(x.quickest(i), NONE);
        }
        due(x.quickest(5), UNKNOWN);
        for (int far : FAR) {
            due(x.quickest(far), UNKNOWN);
        }
    }

    private static void graces() {
        promise(12);
        PiperHouse x = new PiperHouse();
        due(x.graces(), 0);
        open(x, 1, 3, 0x121);
        open(x, 2, 2, 0x34);
        x.step(0, 9, -1);
        due(x.graces(), 0);
        x.step(0, 9, -1);
        due(x.graces(), 2);
        x.step(5, 9, 1);
        due(x.graces(), 5);
        x.beat(3);
        due(x.graces(), NONE);
        x.put(2, -1);
        due(x.graces(), 2);
        x.step(5, 6, -1);
        due(x.graces(), NONE);
        // GRACES ahead of the first NOTE count, too.
        PiperHouse y = new PiperHouse();
        open(y, 1, 3, 0x121);
        y.step(0, 9, 1);
        due(y.graces(), 3);
        for (int i = 1; i < 24; i++) {
            y.step(0, 9, -1);
        }
        due(y.graces(), 72);
    }

    private static void region() {
        promise(13);
        PiperHouse x = new PiperHouse();
        x.step(8, 1, 7);
        due(x.region(2, 0, 7, 0), 7);
        due(x.region(2, 0, 7, 6), 0);
        due(x.region(2, 1, 8, 3), 2);
        due(x.sung(2, 0), 27);
        due(x.sung(1, 0), 30);
        due(x.region(0, 0, 0, 8), OUTSIDE);
        due(x.region(0, 0, 0, -1), OUTSIDE);
        due(x.region(0, 1, 0, 4), OUTSIDE);
        due(x.region(0, 1, 0, -1), OUTSIDE);
        due(x.region(0, -1, 0, 0), OUTSIDE);
        due(x.region(0, 2, 0, 0), OUTSIDE);
        due(x.region(0, 0, 8, 9), UNKNOWN);
        due(x.region(0, 0, -1, 9), UNKNOWN);
        due(x.region(0, 1, 9, 9), UNKNOWN);
        due(x.region(0, 1, -1, 9), UNKNOWN);
        due(x.region(-1, 2, 0, 0), UNKNOWN);
        due(x.region(3, 2, 0, 0), UNKNOWN);
        due(x.region(0, 0, 0, 7), 0);
        due(x.region(0, 1, 0, 3), 0);
        for (int far : FAR) {
            due(x.region(far, 0, 0, 0), UNKNOWN);
            due(x.region(0, far, 0, 0), OUTSIDE);
            due(x.region(0, 0, far, 0), UNKNOWN);
            due(x.region(0, 1, far, 0), UNKNOWN);
            due(x.region(0, 0, 0, far), OUTSIDE);
        }
    }

    private static void sung() {
        promise(14);
        PiperHouse x = new PiperHouse();
        due(x.sung(0, 0), UNKNOWN);
        // Whether a STEP HOLDS does not matter.
        x.step(5, 1, 3);
        x.step(5, 1, -1);
        due(x.sung(0, 0), 13);
        due(x.sung(0, 1), NOT);
        due(x.sung(3, 1), UNKNOWN);
        due(x.sung(-1, 0), UNKNOWN);
        due(x.sung(0, 2), UNKNOWN);
        due(x.sung(0, -1), UNKNOWN);
        x.region(0, 0, 3, 7);
        x.region(0, 1, 5, 3);
        due(x.sung(0, 0), 31);
        due(x.sung(1, 0), 13);
        x.put(1, 0);
        due(x.sung(0, 1), 3);
        for (int far : FAR) {
            due(x.sung(far, 0), UNKNOWN);
            due(x.sung(0, far), UNKNOWN);
        }
    }

    private static void syllable() {
        promise(15);
        PiperHouse x = new PiperHouse();
        due(x.syllable(-1), OUTSIDE);
        due(x.syllable(32), OUTSIDE);
        for (int i = 0; i < 12; i++) {
            due(x.syllable(i == 0 ? 31 : i), i + 1);
        }
        due(x.syllable(0), FULL);
        due(x.syllable(32), OUTSIDE);
        due(x.count(2), 12);
        for (int far : FAR) {
            due(x.syllable(far), OUTSIDE);
        }
    }

    private static void hush() {
        promise(16);
        PiperHouse x = new PiperHouse();
        due(x.hush(), 0);
        x.syllable(7);
        x.syllable(0);
        due(x.hush(), 2);
        due(x.count(2), 0);
        due(x.read(0), 1);
        due(x.hush(), 0);
    }

    private static void read() {
        promise(17);
        PiperHouse x = new PiperHouse();
        due(x.read(2), 1);
        x.syllable(3);
        due(x.read(0), 0);
        x.region(0, 1, 4, 3);
        due(x.read(0), 1);
        due(x.read(1), 0);
        x.syllable(3);
        due(x.read(0), 0);
        open(x, 1, 1, 0);
        due(x.read(0), 0);
        x.region(0, 0, 1, 0);
        // 0 or 1 ahead of the first 4, then 1 alone parts two of them.
        due(x.read(0), 2);
        due(x.read(-1), UNKNOWN);
        due(x.read(3), UNKNOWN);
        x.region(1, 1, 8, 3);
        x.hush();
        x.syllable(3);
        due(x.read(1), 1);
        // Ten ways a STEP: five NOTES (0 .. 4), each by two MOVEMENTS whose GRACE is another NOTE.
        x.hush();
        PiperHouse y = new PiperHouse();
        y.may(0, 1, 0);
        open(y, 1, 1, 7);
        open(y, 2, 1, 8);
        for (int n = 0; n < 9; n++) {
            y.region(0, 1, n, n < 5 ? 0 : 1);
        }
        y.region(0, 0, 1, 0);
        y.region(0, 0, 2, 0);
        int ways = 1;
        for (int i = 0; i < 6; i++) {
            y.syllable(0);
            ways *= 10;
            due(y.read(0), ways);
        }
        y.syllable(0);
        due(y.read(0), MANY);
        for (int i = 0; i < 5; i++) {
            y.syllable(0);
        }
        due(y.read(0), MANY);
        y.hush();
        for (int i = 0; i < 11; i++) {
            y.syllable(0);
        }
        y.syllable(31);
        due(y.read(0), 0);
        for (int far : FAR) {
            due(y.read(far), UNKNOWN);
        }
    }

    private static void first() {
        promise(18);
        PiperHouse x = new PiperHouse();
        due(x.first(0, 0), NONE);
        x.syllable(0);
        x.syllable(0);
        x.syllable(0);
        due(x.first(0, 0), 0);
        due(x.first(0, 1), 16);
        due(x.first(0, 2), 0);
        due(x.first(0, 3), NONE);
        due(x.first(0, -1), OUTSIDE);
        due(x.first(3, -1), UNKNOWN);
        due(x.first(-1, 0), UNKNOWN);
        // The lesser NOTE goes ahead of the lesser MOVEMENT.
        open(x, 1, 1, 8);
        x.region(0, 0, 1, 0);
        due(x.first(0, 1), 1);
        due(x.first(0, 0), 0);
        // The first STEP must leave a way on: only behind NOTE 2 can one go on.
        x.hush();
        x.syllable(0);
        x.syllable(8);
        due(x.first(0, 0), NONE);
        x.may(2, 0, 4);
        x.may(2, 1, 2);
        due(x.first(0, 0), 32);
        due(x.first(0, 1), 18);
        due(x.first(1, 1), 18);
        x.syllable(31);
        due(x.first(0, 0), NONE);
        // What was READ of a longer SONG does not linger.
        x.hush();
        for (int i = 0; i < 12; i++) {
            x.syllable(0);
        }
        due(x.first(0, 11), 1);
        due(x.first(0, 12), NONE);
        x.hush();
        x.syllable(0);
        due(x.first(0, 0), 0);
        due(x.first(0, 1), NONE);
        for (int far : FAR) {
            due(x.first(far, 0), UNKNOWN);
            due(x.first(0, far), far < 0 ? OUTSIDE : NONE);
        }
    }

    private static void home() {
        promise(19);
        PiperHouse x = new PiperHouse();
        due(x.home(), 0);
        x.syllable(0);
        due(x.home(), 0);
        x.region(1, 1, 0, 1);
        due(x.home(), 1);
        x.region(2, 1, 0, 1);
        due(x.home(), 1);
        x.region(2, 1, 1, 1);
        due(x.home(), 2);
        // No row at all is not few rows.
        x.region(2, 1, 2, 1);
        due(x.home(), 1);
        x.may(0, 1, 0);
        due(x.home(), NONE);
        x.hush();
        due(x.home(), 0);
        // MANY rows are alike, however many: the least REGION.
        PiperHouse y = new PiperHouse();
        for (int n = 0; n < 9; n++) {
            y.region(0, 1, n, 0);
            y.region(1, 1, n, n < 7 ? 0 : 1);
            y.region(2, 1, n, 1);
        }
        for (int i = 0; i < 12; i++) {
            y.syllable(0);
        }
        due(y.read(0), MANY);
        due(y.read(1), MANY);
        due(y.read(2), 0);
        due(y.home(), 0);
    }

    private static void rule() {
        promise(20);
        PiperHouse x = new PiperHouse();
        x.note(1);
        x.note(2);
        due(x.rule(4, 4, 0x89A9), 1);
        int[] cells = {1, 2, 1, 8, 2, 1, 2, 8};
        for (int i = 0; i < cells.length; i++) {
            due(x.varied(4, 0, i), cells[i]);
        }
        due(x.rule(4, 0, 0), OUTSIDE);
        due(x.rule(4, 5, 0), OUTSIDE);
        due(x.rule(4, 4, 0xB000), OUTSIDE);
        due(x.rule(4, 1, 11), OUTSIDE);
        due(x.rule(5, 0, 0), UNKNOWN);
        due(x.rule(-1, 1, 0), UNKNOWN);
        due(x.varied(4, 0, 3), 8);
        // PARTS beyond n are not looked at.
        due(x.rule(4, 3, 0xFFFFF000), 1);
        due(x.varied(4, 0, 3), 0);
        due(x.sheet(4, 2, 0), 0);
        due(x.rule(4, 1, 9), NOT);
        due(x.rule(4, 1, 11), OUTSIDE);
        due(x.rule(3, 1, 9), 1);
        due(x.sheet(3, 2, 0), 1);
        due(x.rule(3, 1, 9), NOT);
        due(x.cells(0), 6);
        x.clear();
        due(x.rule(4, 1, 9), 1);
        for (int far : FAR) {
            due(x.rule(far, 1, 0), UNKNOWN);
            due(x.rule(0, far, 0), OUTSIDE);
        }
        due(x.rule(0, 4, -1), OUTSIDE);
    }

    private static void note() {
        promise(21);
        PiperHouse x = new PiperHouse();
        due(x.note(-1), UNKNOWN);
        due(x.note(9), UNKNOWN);
        for (int i = 0; i < 16; i++) {
            due(x.note(i % 9), i + 1);
        }
        due(x.note(0), FULL);
        due(x.note(9), UNKNOWN);
        due(x.varied(0, 0, 15), 6);
        due(x.varied(0, 0, 16), NONE);
        for (int far : FAR) {
            due(x.note(far), UNKNOWN);
        }
    }

    private static void silence() {
        promise(22);
        PiperHouse x = new PiperHouse();
        due(x.silence(), 0);
        x.note(3);
        x.note(4);
        due(x.silence(), 2);
        due(x.varied(0, 0, 0), NONE);
        due(x.count(3), 0);
        due(x.note(5), 1);
        due(x.varied(0, 0, 0), 5);
        due(x.silence(), 1);
    }

    private static void varied() {
        promise(23);
        PiperHouse x = new PiperHouse();
        due(x.varied(0, 0, 0), NONE);
        x.rule(1, 3, 0x7A9);
        x.note(4);
        // The one behind an only NOTE is itself.
        due(x.varied(1, 0, 0), 4);
        due(x.varied(1, 0, 1), 4);
        due(x.varied(1, 0, 2), 7);
        due(x.varied(1, 0, 3), NONE);
        due(x.varied(1, 1, 0), 4);
        due(x.varied(1, 1, 1), NONE);
        x.note(5);
        x.note(6);
        int[] cells = {4, 5, 7, 5, 6, 4, 7};
        for (int i = 0; i < cells.length; i++) {
            due(x.varied(1, 2, i), cells[i]);
        }
        due(x.varied(1, 2, 7), NONE);
        // CADENCES behind the last NOTE do not matter.
        due(x.varied(1, 65535 - 5, 6), 7);
        due(x.varied(1, 65535, 2), 6);
        due(x.varied(1, 65535, 3), NONE);
        due(x.varied(1, 65536, 0), OUTSIDE);
        due(x.varied(1, -1, 0), OUTSIDE);
        due(x.varied(1, 0, -1), OUTSIDE);
        due(x.varied(5, -1, -1), UNKNOWN);
        due(x.varied(-1, 0, 0), UNKNOWN);
        for (int far : FAR) {
            due(x.varied(far, 0, 0), UNKNOWN);
            due(x.varied(0, far, 0), OUTSIDE);
            due(x.varied(0, 0, far), far < 0 ? OUTSIDE : NONE);
        }
    }

    private static void sheet() {
        promise(24);
        PiperHouse x = new PiperHouse();
        x.rule(1, 4, 0x1234);
        due(x.sheet(1, 0, 0), OUTSIDE);
        due(x.sheet(1, 17, 0), OUTSIDE);
        due(x.sheet(1, 1, 2), OUTSIDE);
        due(x.sheet(1, 1, -1), OUTSIDE);
        due(x.sheet(1, 16, 65536), OUTSIDE);
        due(x.sheet(5, 0, 0), UNKNOWN);
        due(x.sheet(-1, 1, 0), UNKNOWN);
        due(x.count(4), 0);
        due(x.sheet(1, 16, 0), 0);
        due(x.cells(0), 64);
        due(x.tell(0, 63, 8), -1);
        due(x.tell(0, 64, 8), UNKNOWN);
        due(x.sheet(1, 15, 0), NOT);
        due(x.sheet(1, 16, 1), NOT);
        due(x.sheet(1, 16, 65536), OUTSIDE);
        due(x.sheet(1, 16, 0), 1);
        due(x.sheet(0, 16, 0), 2);
        due(x.sheet(0, 16, 0), FULL);
        due(x.sheet(0, 16, 1), NOT);
        due(x.clear(), 3);
        due(x.sheet(0, 2, 3), 0);
        due(x.sheet(1, 2, 2), NOT);
        due(x.sheet(1, 2, 3), 1);
        due(x.cells(1), 2);
        // CELLS of a new SHEET are GAPS, whatever stood there.
        x.clear();
        due(x.sheet(1, 16, 0), 0);
        due(x.tell(0, 63, -1), -1);
        for (int far : FAR) {
            due(x.sheet(far, 16, 0), UNKNOWN);
            due(x.sheet(0, far, 0), OUTSIDE);
            due(x.sheet(0, 16, far), OUTSIDE);
        }
    }

    private static void tell() {
        promise(25);
        PiperHouse x = new PiperHouse();
        due(x.tell(0, 0, 0), UNKNOWN);
        due(x.sheet(0, 2, 0), 0);
        due(x.tell(0, 0, 8), -1);
        due(x.tell(0, 0, -2), OUTSIDE);
        due(x.tell(0, 0, 9), OUTSIDE);
        due(x.tell(0, 0, 0), 8);
        due(x.tell(0, 0, -1), 0);
        due(x.tell(0, 1, 4), -1);
        due(x.tell(0, 0, -1), -1);
        due(x.tell(0, 2, 9), UNKNOWN);
        due(x.tell(0, -1, 0), UNKNOWN);
        due(x.tell(1, 0, 0), UNKNOWN);
        due(x.tell(-1, 0, 0), UNKNOWN);
        due(x.tell(0, 1, 4), 4);
        for (int far : FAR) {
            due(x.tell(far, 0, 0), UNKNOWN);
            due(x.tell(0, far, 0), UNKNOWN);
            due(x.tell(0, 0, far), OUTSIDE);
        }
    }

    private static void cells() {
        promise(26);
        PiperHouse x = new PiperHouse();
        due(x.cells(0), UNKNOWN);
        x.rule(1, 4, 0);
        x.rule(2, 3, 0);
        due(x.sheet(1, 5, 0b10010), 0);
        due(x.sheet(2, 5, 0b10010), 1);
        due(x.sheet(0, 5, 0b10010), 2);
        due(x.cells(0), 14);
        due(x.cells(1), 11);
        due(x.cells(2), 5);
        due(x.cells(3), UNKNOWN);
        due(x.cells(-1), UNKNOWN);
        x.clear();
        due(x.cells(0), UNKNOWN);
        for (int far : FAR) {
            due(x.cells(far), UNKNOWN);
        }
    }

    private static void clear() {
        promise(27);
        PiperHouse x = new PiperHouse();
        due(x.clear(), 0);
        x.sheet(0, 1, 0);
        x.sheet(0, 1, 0);
        due(x.clear(), 2);
        due(x.clear(), 0);
        due(x.count(4), 0);
        due(x.agreeing(), NOT);
        due(x.sheet(0, 16, 9), 0);
    }

    private static void agreeing() {
        promise(28);
        PiperHouse x = new PiperHouse();
        due(x.agreeing(), NOT);
        due(x.sheet(0, 1, 0), 0);
        due(x.agreeing(), 9);
        x.clear();
        due(x.sheet(0, 6, 0), 0);
        due(x.agreeing(), 531441);
        x.clear();
        due(x.sheet(0, 7, 0), 0);
        due(x.agreeing(), MANY);
        due(x.tell(0, 3, 2), -1);
        due(x.agreeing(), 531441);
        due(x.sheet(0, 7, 0), 1);
        due(x.tell(1, 3, 2), -1);
        due(x.agreeing(), 531441);
        due(x.tell(1, 3, 1), 2);
        due(x.agreeing(), 0);
        x.clear();
        // One that cannot agree undoes MANY, also at the end.
        x.rule(1, 2, 0xA5);
        due(x.sheet(1, 16, 0), 0);
        due(x.agreeing(), MANY);
        due(x.tell(0, 30, 5), -1);
        due(x.agreeing(), MANY);
        due(x.tell(0, 30, 4), 5);
        due(x.agreeing(), 0);
        due(x.tell(0, 30, -1), 4);
        // The one behind the last is the first.
        for (int i = 0; i < 9; i++) {
            due(x.tell(0, 2 * i + 15, 1), -1);
        }
        due(x.agreeing(), MANY);
        due(x.sheet(0, 16, 0), 1);
        due(x.tell(1, 0, 1), -1);
        due(x.agreeing(), MANY);
        due(x.tell(1, 0, 2), 1);
        due(x.agreeing(), 0);
    }

    private static void least() {
        promise(29);
        PiperHouse x = new PiperHouse();
        due(x.least(0), NOT);
        due(x.least(-1), NOT);
        x.rule(1, 2, 0xA9);
        due(x.sheet(1, 3, 2), 0);
        due(x.cells(0), 5);
        // CELLS: ground 0, ground 1; ground 1; ground 2, ground 0.
        due(x.tell(0, 0, 7), -1);
        due(x.tell(0, 4, 3), -1);
        due(x.least(0), 3);
        due(x.least(1), 0);
        due(x.least(2), 0);
        due(x.least(3), -1);
        due(x.least(-1), -1);
        due(x.sheet(0, 3, 2), 1);
        due(x.tell(1, 0, 7), -1);
        due(x.least(0), 7);
        due(x.tell(0, 1, 8), -1);
        due(x.least(1), 8);
        due(x.tell(0, 2, 6), -1);
        due(x.least(1), 6);
        due(x.tell(1, 1, 8), -1);
        due(x.least(1), 8);
        due(x.tell(1, 2, 1), -1);
        due(x.least(2), 1);
        for (int far : FAR) {
            due(x.least(far), -1);
        }
        x.clear();
        due(x.least(0), NOT);
    }

    private static void blamed() {
        promise(30);
        PiperHouse x = new PiperHouse();
        due(x.blamed(0, -1), UNKNOWN);
        x.rule(1, 3, 0x59A);
        due(x.sheet(1, 2, 2), 0);
        due(x.sheet(0, 2, 2), 1);
        // CELLS of 0: ground 1, ground 0, 5; ground 1.
        due(x.tell(0, 0, 4), -1);
        due(x.tell(0, 2, 5), -1);
        due(x.blamed(0, -1), 0);
        due(x.tell(0, 2, 6), 5);
        due(x.tell(0, 3, 2), -1);
        due(x.blamed(0, -1), 2);
        due(x.blamed(0, 0), 1);
        due(x.blamed(0, 1), 0);
        due(x.blamed(0, 2), 1);
        due(x.blamed(0, 3), 0);
        due(x.blamed(0, 4), UNKNOWN);
        due(x.blamed(0, -2), UNKNOWN);
        due(x.blamed(2, -1), UNKNOWN);
        due(x.blamed(-1, -1), UNKNOWN);
        due(x.blamed(1, -1), 0);
        due(x.tell(1, 1, 4), -1);
        due(x.blamed(0, 0), 0);
        due(x.blamed(0, 3), 1);
        due(x.blamed(1, 1), 0);
        due(x.blamed(1, 2), UNKNOWN);
        due(x.tell(1, 0, 3), -1);
        due(x.blamed(1, 0), 0);
        due(x.tell(0, 1, 2), -1);
        due(x.blamed(1, 0), 1);
        due(x.blamed(0, 1), 0);
        // A SHEET as long as can be, all of it WRONG.
        PiperHouse y = new PiperHouse();
        y.rule(2, 4, 0x1111);
        due(y.sheet(2, 16, 0), 0);
        for (int c = 0; c < 64; c++) {
            due(y.tell(0, c, 2), -1);
        }
        due(y.blamed(0, -1), 64);
        due(y.blamed(0, 63), 1);
        due(y.blamed(0, 64), UNKNOWN);
        due(y.agreeing(), 0);
        for (int far : FAR) {
            due(x.blamed(far, -1), UNKNOWN);
            due(x.blamed(0, far), UNKNOWN);
        }
    }

    private static void piper() {
        promise(31);
        PiperHouse x = new PiperHouse();
        due(x.piper(5, -99, 9, 60, 90), 1);
        due(x.pitch(5, 90, 150), -99 + 540);
        due(x.pitch(5, 90, 91), -90);
        due(x.pitch(5, 89, 91), LEAST_INT);
        due(x.piper(5, 99, 0, 1, 0), 1);
        due(x.pitch(5, 0, 150), 99);
        due(x.piper(5, 100, 0, 1, 0), OUTSIDE);
        due(x.piper(5, -100, 0, 1, 0), OUTSIDE);
        due(x.piper(5, 0, -1, 1, 0), OUTSIDE);
        due(x.piper(5, 0, 10, 1, 0), OUTSIDE);
        due(x.piper(5, 0, 0, 0, 0), OUTSIDE);
        due(x.piper(5, 0, 0, 61, 0), OUTSIDE);
        due(x.piper(5, 0, 0, 1, -1), OUTSIDE);
        due(x.piper(5, 0, 0, 1, 91), OUTSIDE);
        due(x.piper(6, 100, 0, 1, 0), UNKNOWN);
        due(x.piper(-1, 0, 0, 1, 0), UNKNOWN);
        due(x.pitch(5, 0, 150), 99);
        for (int far : FAR) {
            due(x.piper(far, 0, 0, 1, 0), UNKNOWN);
            due(x.piper(0, far, 0, 1, 0), OUTSIDE);
            due(x.piper(0, 0, far, 1, 0), OUTSIDE);
            due(x.piper(0, 0, 0, far, 0), OUTSIDE);
            due(x.piper(0, 0, 0, 1, far), OUTSIDE);
        }
    }

    private static void damp() {
        promise(32);
        PiperHouse x = new PiperHouse();
        x.piper(0, 0, 3, 60, 0);
        due(x.damp(2), 0);
        due(x.pitch(0, 0, 10), 10);
        due(x.damp(5), 2);
        due(x.pitch(0, 0, 10), 0);
        due(x.damp(6), OUTSIDE);
        due(x.damp(-1), OUTSIDE);
        due(x.damp(0), 5);
        due(x.pitch(0, 0, 10), 30);
        for (int far : FAR) {
            due(x.damp(far), OUTSIDE);
        }
    }

    private static void pitch() {
        promise(33);
        PiperHouse x = new PiperHouse();
        x.piper(0, 5, 2, 7, 10);
        due(x.pitch(0, 10, 10), 5);
        due(x.pitch(0, 10, 16), 17);
        due(x.pitch(0, 10, 17), 19);
        due(x.pitch(0, 10, 18), 19);
        due(x.pitch(0, 150, 150), 5);
        due(x.pitch(0, 9, 20), LEAST_INT);
        due(x.pitch(0, 21, 20), LEAST_INT);
        due(x.pitch(0, 20, 151), LEAST_INT);
        due(x.pitch(0, -1, 20), LEAST_INT);
        due(x.pitch(1, -1, 20), LEAST_INT);
        due(x.pitch(1, 0, 20), 0);
        due(x.pitch(6, 0, 20), LEAST_INT);
        due(x.pitch(-1, 0, 20), LEAST_INT);
        for (int far : FAR) {
            due(x.pitch(far, 0, 20), LEAST_INT);
            due(x.pitch(1, far, 20), LEAST_INT);
            due(x.pitch(1, 0, far), LEAST_INT);
        }
    }

    private static void band() {
        promise(34);
        PiperHouse x = new PiperHouse();
        due(x.band(1, 0, 0), 0);
        due(x.band(63, 150, 1), 1000);
        x.piper(0, -99, 9, 60, 90);
        due(x.band(1, 89, 0), NOT);
        due(x.band(1, 90, 1), 901);
        // One alone stays as low as can be.
        due(x.band(1, 150, 1), 901);
        due(x.band(3, 150, 0), 0);
        due(x.band(3, 150, 1), 1000);
        x.piper(1, 5, 0, 1, 0);
        due(x.band(3, 150, 0), 4);
        due(x.band(3, 150, 1), 1005);
        x.piper(1, 4, 0, 1, 0);
        due(x.band(3, 150, 0), 4);
        due(x.band(3, 150, 1), 1000);
        x.piper(1, 0, 4, 1, 0);
        // 0 with 0: nothing lower is as good, though 4 lies near 9, too.
        due(x.band(3, 150, 1), 1000);
        // Not warm long enough to reach the other: it is behind by what is left.
        x.piper(1, 50, 0, 1, 0);
        due(x.band(3, 95, 0), 104);
        due(x.band(3, 95, 1), 946);
        // Two SPREADS alike: the lower one. 0 or 6, 3 or 9 with 1, 4 ..: 0 and 1, 3 and 4.
        x.piper(2, 0, 3, 9, 0);
        x.piper(3, 1, 3, 9, 0);
        due(x.band(12, 100, 0), 1);
        due(x.band(12, 100, 1), 1000);
        x.piper(2, 3, 3, 9, 0);
        due(x.band(12, 100, 0), 1);
        due(x.band(12, 100, 1), 1003);
        due(x.band(0, 0, 0), OUTSIDE);
        due(x.band(64, 0, 0), OUTSIDE);
        due(x.band(-1, 0, 0), OUTSIDE);
        due(x.band(1, -1, 0), OUTSIDE);
        due(x.band(1, 151, 0), OUTSIDE);
        due(x.band(1, 0, 2), OUTSIDE);
        due(x.band(1, 0, -1), OUTSIDE);
        due(x.band(1, 0, 0), NOT);
        due(x.band(2, 0, 0), 0);
        for (int far : FAR) {
            due(x.band(far, 0, 0), OUTSIDE);
            due(x.band(1, far, 0), OUTSIDE);
            due(x.band(1, 0, far), OUTSIDE);
        }
    }

    private static void begins() {
        promise(35);
        PiperHouse x = new PiperHouse();
        x.piper(0, 0, 3, 10, 5);
        x.piper(1, 30, 0, 60, 0);
        x.piper(2, 0, 9, 60, 90);
        // Warm at the latest MINUTE, though it might have begun before.
        due(x.begins(3, 60, 0), 50);
        due(x.begins(3, 60, 1), 60);
        due(x.begins(1, 60, 0), 60);
        due(x.begins(3, 10, 0), 5);
        due(x.begins(3, 10, 2), NONE);
        due(x.begins(7, 89, 0), NOT);
        // 27 with 27 and 30 lies nearer together than 30 with 36 and 30.
        due(x.band(7, 100, 0), 3);
        due(x.begins(7, 100, 2), 97);
        due(x.begins(7, 100, 0), 91);
        due(x.begins(7, 100, 1), 100);
        due(x.begins(7, 100, 6), UNKNOWN);
        due(x.begins(0, 100, 6), UNKNOWN);
        due(x.begins(7, 100, -1), UNKNOWN);
        due(x.begins(0, 100, 0), OUTSIDE);
        due(x.begins(64, 100, 0), OUTSIDE);
        due(x.begins(7, 151, 0), OUTSIDE);
        due(x.begins(7, -1, 0), OUTSIDE);
        // Refused even for one who is not in it.
        due(x.begins(7, 89, 5), NOT);
        due(x.damp(5), 0);
        due(x.begins(7, 100, 0), 100);
        for (int far : FAR) {
            due(x.begins(far, 0, 0), OUTSIDE);
            due(x.begins(1, far, 0), OUTSIDE);
            due(x.begins(1, 0, far), UNKNOWN);
        }
    }

    private static void tone() {
        promise(36);
        PiperHouse x = new PiperHouse();
        due(x.tone(8, 300), 1);
        due(x.harsh(0, 0), 300);
        due(x.tone(8, -300), 1);
        due(x.harsh(0, 0), 300);
        due(x.harsh(-300, 0), 2400);
        due(x.tone(8, 301), OUTSIDE);
        due(x.tone(8, -301), OUTSIDE);
        due(x.tone(9, 301), UNKNOWN);
        due(x.tone(-1, 0), UNKNOWN);
        due(x.harsh(-300, 0), 2400);
        for (int far : FAR) {
            due(x.tone(far, 0), UNKNOWN);
            due(x.tone(0, far), OUTSIDE);
        }
    }

    private static void harsh() {
        promise(37);
        PiperHouse x = new PiperHouse();
        due(x.harsh(999, -999), 9 * 1998);
        due(x.harsh(-999, 999), 9 * 1998);
        due(x.harsh(7, 7), 0);
        x.tone(0, 5);
        x.tone(1, -5);
        due(x.harsh(7, 7), 10);
        due(x.harsh(8, 7), 4 + 6 + 7);
        due(x.harsh(1000, 0), OUTSIDE);
        due(x.harsh(-1000, 0), OUTSIDE);
        due(x.harsh(0, 1000), OUTSIDE);
        due(x.harsh(0, -1000), OUTSIDE);
        for (int far : FAR) {
            due(x.harsh(far, 0), OUTSIDE);
            due(x.harsh(0, far), OUTSIDE);
        }
    }

    private static void set() {
        promise(38);
        PiperHouse x = new PiperHouse();
        due(x.set(17), 17);
        for (int n = 0; n < 9; n++) {
            x.tone(n, n * n);
        }
        due(x.set(0), 16);
        due(x.set(-20), -4);
        due(x.set(999), 999);
        due(x.set(983), 999);
        due(x.set(982), 998);
        x.tone(4, 0);
        x.tone(0, 16);
        due(x.set(0), 16);
        for (int n = 0; n < 9; n++) {
            x.tone(n, -300);
        }
        due(x.set(-999), -999);
        due(x.set(-600), -900);
        due(x.set(-1000), LEAST_INT);
        due(x.set(1000), LEAST_INT);
        for (int far : FAR) {
            due(x.set(far), LEAST_INT);
        }
    }

    private static void count() {
        promise(39);
        PiperHouse x = new PiperHouse();
        x.step(0, 1, -1);
        for (int i = 0; i < 2; i++) {
            x.step(0, 1, 0);
        }
        for (int i = 0; i < 4; i++) {
            x.syllable(0);
        }
        for (int i = 0; i < 5; i++) {
            x.note(0);
        }
        x.sheet(0, 1, 0);
        x.sheet(0, 1, 0);
        due(x.count(0), 3);
        due(x.count(1), 1);
        due(x.count(2), 4);
        due(x.count(3), 5);
        due(x.count(4), 2);
        due(x.count(5), OUTSIDE);
        due(x.count(-1), OUTSIDE);
        for (int far : FAR) {
            due(x.count(far), OUTSIDE);
        }
    }
}
