import java.lang.annotation.Retention;
import java.lang.annotation.RetentionPolicy;
import java.lang.reflect.InvocationTargetException;
import java.lang.reflect.Method;
import java.nio.file.Files;
import java.nio.file.Path;
import java.util.ArrayList;
import java.util.Comparator;
import java.util.List;

/**
 * One test for each sentence of the document that names a boundary case: the ends of a range, what is
 * so at first, what is empty or full, a wrap-around, a count that goes no further, one of several.
 * Refused calls have tests of their own in PiperHouseRefusals.
 *
 * <p>Each test bears the sentence's words and the number of its promise (0: the section Terms), and gets
 * a new object.
 */
public final class PiperHouseEdges {
    private static final int NONE = -1, UNKNOWN = -2, OUTSIDE = -3, NOT = -4, FULL = -5, MANY = 1000001;
    private static final int LEAST_INT = Integer.MIN_VALUE;
    private static final int LOST = -1, GAP = -1, ALL = 511;
    private static final Path DOCUMENT = Path.of("../shared/DOC.md");

    @Retention(RetentionPolicy.RUNTIME)
    private @interface Says {
        int promise() default 0;

        String value();
    }

    private static int wrong = 0;
    private static int asked = 0;
    private static Method current;

    private static void due(int got, int want) {
        asked++;
        if (got != want) {
            StackTraceElement at = new Throwable().getStackTrace()[1];
            complain("line " + at.getLineNumber() + " answered " + got + ", due is " + want);
        }
    }

    private static void complain(String what) {
        wrong++;
        Says says = current.getAnnotation(Says.class);
        System.out.println("promise " + says.promise() + ", \"" + says.value() + "\", " + current.getName() + ": "
                + what);
    }

    public static void main(String[] args) throws Exception {
        List<Method> tests = tests();
        for (Method test : tests) {
            run(test);
        }
        for (int p = 0; p <= 39; p++) {
            int promise = p;
            if (tests.stream().noneMatch(t -> t.getAnnotation(Says.class).promise() == promise)) {
                wrong++;
                System.out.println("no test for promise " + p);
            }
        }
        System.out.println(wrong == 0 ? tests.size() + " sentences hold at their edges" : wrong + " are not as due");
        if (wrong != 0) {
            System.exit(1);
        }
    }

    private static List<Method> tests() {
        List<Method> found = new ArrayList<>();
        for (Method m : PiperHouseEdges.class.getDeclaredMethods()) {
            if (m.isAnnotationPresent(Says.class)) {
                found.add(m);
            }
        }
        found.sort(Comparator.comparing((Method m) -> m.getAnnotation(Says.class).promise())
                .thenComparing(Method::getName));
        return found;
    }

    private static void run(Method test) throws Exception {
        current = test;
        asked = 0;
        try {
            test.invoke(null, new PiperHouse());
        } catch (InvocationTargetException thrown) {
            complain("threw " + thrown.getCause());
        }
        if (asked == 0) {
            complain("asks nothing");
        }
        if (Files.exists(DOCUMENT) && !section(test.getAnnotation(Says.class).promise())
                .contains(test.getAnnotation(Says.class).value())) {
            complain("the document does not say so");
        }
    }

    /** The document's text under a promise, or under Terms, in one line. */
    private static String section(int promise) throws Exception {
        String text = Files.readString(DOCUMENT);
        String title = promise == 0 ? "## Terms" : "## Promise " + promise + ":";
        int start = text.indexOf(title);
        int end = start < 0 ? -1 : text.indexOf("\n## ", start + 1);
        return start < 0 ? "" : text.substring(start, end < 0 ? text.length() : end).replaceAll("\\s+", " ");
    }

    // ---- what many tests need

    /** A MOVEMENT with GRACES that may stand FROM all TO all. */
    private static void open(PiperHouse x, int movement, int n, int graces) {
        due(x.movement(movement, n, graces), 1);
        x.may(movement, 0, ALL);
        x.may(movement, 1, ALL);
    }

    private static void steps(PiperHouse x, int count, int note) {
        for (int i = 0; i < count; i++) {
            x.step(note, 9, LOST);
        }
    }

    private static void syllables(PiperHouse x, int count, int v) {
        for (int i = 0; i < count; i++) {
            x.syllable(v);
        }
    }

    private static void notes(PiperHouse x, int... notes) {
        for (int note : notes) {
            x.note(note);
        }
    }

    private static void tellAll(PiperHouse x, int sheet, int... told) {
        for (int c = 0; c < told.length; c++) {
            x.tell(sheet, c, told[c]);
        }
    }

    private static void varies(PiperHouse x, int rule, int cadences, int... cells) {
        for (int i = 0; i < cells.length; i++) {
            due(x.varied(rule, cadences, i), cells[i]);
        }
        due(x.varied(rule, cadences, cells.length), NONE);
    }

    /** All eight MOVEMENTS have the one GRACE 8; as many as told may stand TO NOTES 0, 1, 2 and so on. */
    private static void ways(PiperHouse x, int... waysTo) {
        for (int m = 0; m < 8; m++) {
            x.movement(m, 1, 8);
            x.may(m, 0, ALL);
            int to = 0;
            for (int n = 0; n < waysTo.length; n++) {
                to |= m < waysTo[n] ? 1 << n : 0;
            }
            x.may(m, 1, to);
        }
    }

    /** A SONG of SYLLABLE 0 has in REGION 0 ten ways a STEP: NOTES 0 .. 4, each by MOVEMENT 1 or 2. */
    private static void tenWays(PiperHouse x) {
        for (int m = 0; m < 8; m++) {
            x.region(0, 0, m, m == 1 || m == 2 ? 0 : 1);
        }
        for (int n = 0; n < 9; n++) {
            x.region(0, 1, n, n < 5 ? 0 : 1);
        }
        for (int m = 1; m <= 2; m++) {
            x.movement(m, 1, 6 + m);
            x.may(m, 0, 31);
            x.may(m, 1, 31);
        }
    }

    private static void tones(PiperHouse x, int... tones) {
        for (int n = 0; n < tones.length; n++) {
            due(x.tone(n, tones[n]), 1);
        }
    }

    // ---- Terms: movements, tunes

    @Says("MOVEMENTS are 0 .. 7")
    private static void movementsAreEight(PiperHouse x) {
        due(x.movement(0, 0, 0), 1);
        due(x.movement(7, 0, 0), 1);
        due(x.movement(-1, 0, 0), UNKNOWN);
        due(x.movement(8, 0, 0), UNKNOWN);
    }

    @Says("of NOTES 0 .. 8 together")
    private static void notesAreNine(PiperHouse x) {
        due(x.tone(0, 100), 1);
        due(x.tone(8, 10), 1);
        due(x.tone(-1, 1), UNKNOWN);
        due(x.tone(9, 1), UNKNOWN);
        due(x.harsh(0, 0), 110);
        due(x.harsh(0, 1), 101 + 11 + 7);
    }

    @Says("each has GRACES (0 .. 4 NOTES, one after the other)")
    private static void gracesStandInTheirOrder(PiperHouse x) {
        open(x, 1, 4, 0x3210);
        due(x.fits(1, 0, 5), 0);
        due(x.fits(1, 5, 3), 0);
        due(x.fits(1, 3, 0), 1);
        due(x.movement(1, 0, 0), 1);
        due(x.fits(1, 0, 3), 1);
        due(x.fits(1, 3, 3), 0);
        due(x.movement(1, 5, 0), OUTSIDE);
        due(x.movement(1, -1, 0), OUTSIDE);
    }

    @Says("may stand FROM some NOTES (bits) and TO some (bits)")
    private static void fromAndToAtTheEndsOfTheirBits(PiperHouse x) {
        x.may(2, 0, 1);
        x.may(2, 1, 256);
        due(x.fits(2, 0, 8), 1);
        due(x.fits(2, 8, 0), 0);
        due(x.fits(2, 1, 8), 0);
        due(x.fits(2, 0, 7), 0);
        due(x.may(2, 0, 256), 1);
        due(x.may(2, 1, 1), 256);
        due(x.fits(2, 8, 0), 1);
        due(x.fits(2, 0, 8), 0);
    }

    @Says("MOVEMENT 0 has none")
    private static void movementZeroHasNoGracesAtFirst(PiperHouse x) {
        x.step(8, 1, 0);
        due(x.wrong(), NONE);
        due(x.graces(), 0);
    }

    @Says("all others none FROM and TO, at first")
    private static void otherMovementsMayStandNowhereAtFirst(PiperHouse x) {
        for (int m = 1; m < 8; m++) {
            due(x.fits(m, 0, 8), 0);
            due(x.fits(m, -1, 8), 0);
            due(x.may(m, 0, ALL), 0);
            due(x.fits(m, 0, 8), 0);
            due(x.may(m, 1, ALL), 0);
            due(x.fits(m, 0, 8), 1);
            due(x.fits(m, 8, 8), 0);
        }
    }

    @Says("0 may stand FROM all TO all at first.")
    private static void movementZeroMayStandAnywhereAtFirst(PiperHouse x) {
        for (int a = 0; a < 9; a++) {
            for (int b = 0; b < 9; b++) {
                due(x.fits(0, a, b), a == b ? 0 : 1);
            }
            due(x.fits(0, -1, a), 1);
        }
        due(x.may(0, 0, 0), ALL);
        due(x.may(0, 1, 0), ALL);
    }

    @Says("of a, its GRACES, b no two side by side are alike.")
    private static void alikeSideBySideAtEachPlace(PiperHouse x) {
        open(x, 1, 4, 0x2121);
        due(x.fits(1, 0, 0), 1);
        due(x.fits(1, 1, 0), 0);
        due(x.fits(1, 2, 0), 1);
        due(x.fits(1, 0, 2), 0);
        due(x.fits(1, 0, 1), 1);
        due(x.movement(1, 4, 0x2122), 1);
        due(x.fits(1, 0, 0), 0);
        due(x.movement(1, 4, 0x2112), 1);
        due(x.fits(1, 0, 0), 0);
        due(x.movement(1, 4, 0x1121), 1);
        due(x.fits(1, 0, 0), 0);
        due(x.movement(1, 2, 0x1121), 1);
        due(x.fits(1, 0, 0), 1);
        due(x.movement(1, 1, 0x1121), 1);
        due(x.fits(1, 0, 0), 1);
        due(x.fits(1, 1, 0), 0);
        due(x.fits(1, 0, 1), 0);
        due(x.movement(1, 0, 0), 1);
        due(x.fits(1, 0, 0), 0);
        due(x.fits(1, 1, 0), 1);
    }

    @Says("A MOVEMENT FITS between two NOTES a and b, if it may stand FROM a and TO b")
    private static void fromAndToAreBothAsked(PiperHouse x) {
        open(x, 3, 1, 4);
        due(x.fits(3, 5, 6), 1);
        x.may(3, 0, ALL - (1 << 5));
        due(x.fits(3, 5, 6), 0);
        due(x.fits(3, 6, 5), 1);
        x.may(3, 0, ALL);
        x.may(3, 1, ALL - (1 << 6));
        due(x.fits(3, 5, 6), 0);
        due(x.fits(3, 6, 5), 1);
    }

    @Says("BEAT (1 .. 3; 1 at first)")
    private static void beatAtFirstAndAtItsEnds(PiperHouse x) {
        due(x.beat(0), OUTSIDE);
        due(x.beat(3), 1);
        due(x.beat(4), OUTSIDE);
        due(x.beat(1), 3);
        due(x.beat(1), 1);
    }

    @Says("A TUNE has STEPS (24 at most)")
    private static void tuneIsFullAtTwentyFour(PiperHouse x) {
        for (int i = 1; i <= 24; i++) {
            due(x.step(i % 9, 1, 0), i);
        }
        due(x.step(0, 1, 0), FULL);
        due(x.count(0), 24);
        due(x.back(), 23);
        due(x.step(0, 1, 0), 24);
        due(x.step(0, 1, 0), FULL);
    }

    @Says("its LENGTH (1 .. 9)")
    private static void lengthAtItsEnds(PiperHouse x) {
        due(x.step(0, 0, 0), OUTSIDE);
        due(x.step(0, 1, 0), 1);
        due(x.step(0, 10, 0), OUTSIDE);
        due(x.step(0, 9, 0), 2);
    }

    @Says("Ahead of the first NOTE any MOVEMENT FITS that may stand TO it and of whose GRACES and that NOTE no two"
            + " side by side are alike.")
    private static void aheadOfTheFirstNote(PiperHouse x) {
        x.movement(1, 2, 0x21);
        x.may(1, 1, 1 << 1 | 1 << 2);
        x.step(1, 9, 1);
        due(x.wrong(), NONE);
        due(x.fits(1, -1, 1), 1);
        due(x.fits(1, -1, 2), 0);
        due(x.fits(1, -1, 0), 0);
        x.movement(1, 2, 0x22);
        due(x.wrong(), 0);
        due(x.fits(1, -1, 1), 0);
        x.movement(1, 0, 0);
        due(x.wrong(), NONE);
        x.may(1, 1, 1 << 2);
        due(x.wrong(), 0);
        // The second NOTE has one before it.
        x.put(0, 0);
        x.step(2, 9, 1);
        due(x.wrong(), 1);
        x.may(1, 0, 1 << 1);
        due(x.wrong(), NONE);
    }

    @Says("LENGTH is above BEAT times how many GRACES it has.")
    private static void lengthMustBeAbove(PiperHouse x) {
        int[] graces = {0, 3, 0x23, 0x323, 0x2323};
        x.may(1, 1, ALL);
        for (int beat = 1; beat <= 3; beat++) {
            x.beat(beat);
            for (int n = 0; n <= 4; n++) {
                x.movement(1, n, graces[n]);
                int taken = beat * n;
                for (int length = Math.max(1, taken); length <= Math.min(9, taken + 1); length++) {
                    x.step(0, length, 1);
                    due(x.wrong(), length > taken ? NONE : 0);
                    due(x.fillings(), length > taken ? 1 : 0);
                    x.back();
                }
            }
        }
        // Four GRACES of three take more than the longest NOTE has.
        x.step(0, 9, 1);
        due(x.wrong(), 0);
    }

    @Says("MOVEMENTS for all LOST ones, so that all STEPS HOLD")
    private static void toldStepsMustHoldToo(PiperHouse x) {
        open(x, 1, 1, 8);
        x.step(0, 9, LOST);
        x.step(0, 9, 1);
        due(x.fillings(), 2);
        x.put(1, 0);
        due(x.fillings(), 0);
        due(x.graces(), NONE);
    }

    @Says("their number counts up to 1000000, then MANY.")
    private static void fillingsAtAMillion(PiperHouse x) {
        ways(x, 5, 8, 1, 0);
        steps(x, 6, 0);
        due(x.fillings(), 15625);
        steps(x, 2, 1);
        due(x.fillings(), 1000000);
        steps(x, 1, 2);
        due(x.fillings(), 1000000);
        steps(x, 1, 0);
        due(x.fillings(), MANY);
        steps(x, 1, 3);
        due(x.fillings(), 0);
    }

    @Says("their number counts up to 1000000, then MANY.")
    private static void fillingsJustAboveAMillion(PiperHouse x) {
        // 2 to the 2, 3 to the 6 and 7 to the 3 make 1000188, the least product above 1000000.
        ways(x, 2, 3, 7);
        steps(x, 2, 0);
        steps(x, 3, 2);
        steps(x, 5, 1);
        due(x.fillings(), 333396);
        steps(x, 1, 1);
        due(x.fillings(), MANY);
    }

    @Says("their number counts up to 1000000, then MANY.")
    private static void fillingsDoNotWrapAround(PiperHouse x) {
        ways(x, 8);
        int count = 1;
        for (int i = 0; i < 24; i++) {
            steps(x, 1, 0);
            count = Math.min(MANY, count * 8);
            due(x.fillings(), count);
        }
    }

    @Says("QUICKEST: that with the fewest GRACES in all; of several the first (by LOST ones, one after the other,"
            + " lesser MOVEMENTS ahead).")
    private static void quickestOfSeveralIsTheFirst(PiperHouse x) {
        open(x, 1, 2, 0x78);
        open(x, 5, 1, 8);
        open(x, 6, 1, 7);
        open(x, 7, 1, 6);
        x.may(0, 1, 0);
        x.step(0, 9, LOST);
        x.step(0, 9, LOST);
        x.step(8, 9, LOST);
        due(x.quickest(0), 5);
        due(x.quickest(1), 5);
        due(x.quickest(2), 6);
        due(x.graces(), 3);
        x.movement(6, 2, 0x56);
        x.may(7, 1, 1);
        due(x.quickest(0), 5);
        // Now 1 and 6 have two GRACES each.
        due(x.quickest(2), 1);
        due(x.graces(), 4);
        x.movement(1, 2, 0x87);
        due(x.quickest(2), 6);
        due(x.graces(), 4);
    }

    // ---- Terms: syllables

    @Says("REGIONS are 0 .. 2.")
    private static void regionsAreThree(PiperHouse x) {
        due(x.read(0), 1);
        due(x.read(2), 1);
        due(x.read(-1), UNKNOWN);
        due(x.read(3), UNKNOWN);
    }

    @Says("every MOVEMENT has a HEAD (0 .. 7; its own number at first)")
    private static void headsAtFirstAndAtTheirEnds(PiperHouse x) {
        for (int r = 0; r < 3; r++) {
            for (int m = 0; m < 8; m++) {
                due(x.region(r, 0, m, 7 - m), m);
                due(x.region(r, 0, m, -1), OUTSIDE);
                due(x.region(r, 0, m, 8), OUTSIDE);
                due(x.region(r, 0, m, 0), 7 - m);
            }
        }
    }

    @Says("every NOTE a TAIL (0 .. 3; NOTE by 3, cut, at first).")
    private static void tailsAtFirstAndAtTheirEnds(PiperHouse x) {
        for (int r = 0; r < 3; r++) {
            for (int n = 0; n < 9; n++) {
                due(x.region(r, 1, n, 3), n / 3);
                due(x.region(r, 1, n, -1), OUTSIDE);
                due(x.region(r, 1, n, 4), OUTSIDE);
                due(x.region(r, 1, n, 0), 3);
            }
        }
    }

    @Says("SUNG a STEP is 4 HEAD and TAIL.")
    private static void sungAtTheEndsOfHeadAndTail(PiperHouse x) {
        x.step(0, 1, 0);
        due(x.sung(0, 0), 0);
        x.region(0, 1, 0, 3);
        due(x.sung(0, 0), 3);
        x.region(0, 0, 0, 7);
        due(x.sung(0, 0), 31);
        x.region(0, 1, 0, 0);
        due(x.sung(0, 0), 28);
        due(x.sung(1, 0), 0);
    }

    @Says("A SONG is a row of SYLLABLES (0 .. 31; 12 at most).")
    private static void songIsFullAtTwelve(PiperHouse x) {
        due(x.syllable(-1), OUTSIDE);
        due(x.syllable(32), OUTSIDE);
        for (int i = 1; i <= 12; i++) {
            due(x.syllable(i % 2 == 0 ? 0 : 31), i);
        }
        due(x.syllable(0), FULL);
        due(x.count(2), 12);
    }

    @Says("each MOVEMENT FITTING (LENGTHS do not matter)")
    private static void readDoesNotAskForLengths(PiperHouse x) {
        x.beat(3);
        open(x, 7, 4, 0x7878);
        x.syllable(28);
        x.syllable(28);
        due(x.read(0), 9);
        due(x.first(0, 0), 7);
        due(x.first(0, 1), 7);
    }

    @Says("how many (up to 1000000, then MANY)")
    private static void readAtAMillion(PiperHouse x) {
        tenWays(x);
        int rows = 1;
        for (int i = 0; i < 6; i++) {
            x.syllable(0);
            rows *= 10;
            due(x.read(0), rows);
        }
        // MOVEMENT 3 adds one row (NOTE 5 all along), 4 another first STEP of it, 5 a third one.
        x.region(0, 1, 5, 0);
        x.movement(3, 1, 8);
        x.may(3, 0, 1 << 5);
        x.may(3, 1, 1 << 5);
        x.region(0, 0, 3, 0);
        due(x.read(0), 1000001);
        x.may(4, 1, 1 << 5);
        x.region(0, 0, 4, 0);
        due(x.read(0), MANY);
        x.may(5, 1, 1 << 5);
        x.region(0, 0, 5, 0);
        due(x.read(0), MANY);
        // Without one of the ten ways of the first STEP it is less than that again.
        x.may(1, 1, 30);
        due(x.read(0), 9 * 59049 + 3);
    }

    @Says("how many (up to 1000000, then MANY)")
    private static void readDoesNotWrapAround(PiperHouse x) {
        for (int m = 0; m < 8; m++) {
            open(x, m, 1, 8);
            x.region(0, 0, m, 0);
        }
        for (int n = 0; n < 9; n++) {
            x.region(0, 1, n, 0);
        }
        // Eight MOVEMENTS to each of eight NOTES, as the GRACE is the ninth.
        int rows = 1;
        for (int i = 0; i < 12; i++) {
            x.syllable(0);
            rows = Math.min(MANY, rows * 64);
            due(x.read(0), rows);
        }
        due(x.first(0, 11), 0);
    }

    @Says("the first (by NOTE, then MOVEMENT, of the first STEP, then the second, and so on).")
    private static void firstRowOfSeveral(PiperHouse x) {
        x.region(0, 0, 1, 0);
        open(x, 1, 1, 8);
        x.syllable(0);
        x.syllable(0);
        due(x.first(0, 0), 0);
        due(x.first(0, 1), 1);
        // NOTE 0 by the greater MOVEMENT goes ahead of NOTE 1 by the lesser one.
        x.may(0, 1, ALL - 1);
        due(x.first(0, 0), 1);
        due(x.first(0, 1), 1);
        // A lesser first STEP goes ahead, however great the second one becomes.
        x.may(1, 0, 0);
        x.may(0, 0, 1);
        x.may(0, 1, 1 << 2);
        due(x.first(0, 0), 1);
        due(x.first(0, 1), 32);
        // But not one from which no row goes on.
        x.may(0, 0, 1 << 1);
        due(x.first(0, 0), 17);
        due(x.first(0, 1), 32);
    }

    @Says("HOME: the REGION in which it is READ by fewest rows, but some; of several the least.")
    private static void homeAmongAlikeAndEmptyOnes(PiperHouse x) {
        x.syllable(0);
        due(x.home(), 0);
        x.region(0, 1, 5, 0);
        due(x.home(), 1);
        x.region(1, 1, 5, 0);
        due(x.home(), 2);
        x.region(2, 1, 5, 0);
        due(x.home(), 0);
        x.region(0, 0, 0, 1);
        due(x.read(0), 0);
        due(x.home(), 1);
        x.region(1, 0, 0, 1);
        due(x.home(), 2);
        x.region(2, 0, 0, 1);
        due(x.home(), NONE);
    }

    // ---- Terms: grounds

    @Says("A GROUND has NOTES (16 at most; with numbers from 0)")
    private static void groundIsFullAtSixteen(PiperHouse x) {
        for (int i = 1; i <= 16; i++) {
            due(x.note(i % 9), i);
        }
        due(x.note(0), FULL);
        due(x.varied(0, 0, 0), 1);
        due(x.varied(0, 0, 15), 7);
        due(x.varied(0, 0, 16), NONE);
        x.rule(1, 2, 0x29);
        due(x.varied(1, 1 << 15, 30), 7);
        due(x.varied(1, 1 << 15, 31), NONE);
    }

    @Says("RULES are 0 .. 4")
    private static void rulesAreFive(PiperHouse x) {
        due(x.rule(0, 1, 1), 1);
        due(x.rule(4, 1, 2), 1);
        due(x.rule(-1, 1, 1), UNKNOWN);
        due(x.rule(5, 1, 1), UNKNOWN);
        x.note(0);
        varies(x, 0, 0, 1);
        varies(x, 1, 0, 0);
        varies(x, 4, 0, 2);
    }

    @Says("rows of 1 .. 4 PARTS")
    private static void rulesAtTheEndsOfTheirSize(PiperHouse x) {
        x.note(0);
        due(x.rule(2, 0, 0), OUTSIDE);
        due(x.rule(2, 5, 0), OUTSIDE);
        due(x.rule(2, 4, 0x4321), 1);
        varies(x, 2, 0, 1, 2, 3, 4);
        due(x.rule(2, 1, 5), 1);
        varies(x, 2, 0, 5);
    }

    @Says("each is a NOTE (0 .. 8), 9: the ground's NOTE, or 10: the one behind it")
    private static void partsAtTheirEnds(PiperHouse x) {
        notes(x, 3, 4);
        due(x.rule(0, 4, 0xA980), 1);
        varies(x, 0, 0, 0, 8, 3, 4, 0, 8, 4, 3);
        due(x.rule(0, 1, 11), OUTSIDE);
        due(x.rule(0, 1, 15), OUTSIDE);
    }

    @Says("the one behind it (of the last one the first)")
    private static void behindTheLastIsTheFirst(PiperHouse x) {
        x.rule(1, 1, 10);
        notes(x, 6);
        varies(x, 1, 0, 6);
        notes(x, 7);
        varies(x, 1, 0, 7, 6);
        notes(x, 8, 0, 1, 2, 3, 4, 5, 6, 7, 8, 0, 1, 2, 3);
        varies(x, 1, 0, 7, 8, 0, 1, 2, 3, 4, 5, 6, 7, 8, 0, 1, 2, 3, 6);
        // So it is in SHEETS.
        due(x.sheet(1, 16, 0), 0);
        x.tell(0, 15, 5);
        due(x.least(0), 5);
        due(x.least(15), 0);
    }

    @Says("for a CADENCE that NOTE alone.")
    private static void cadencesAtTheEnds(PiperHouse x) {
        x.rule(1, 2, 0x8A);
        notes(x, 1, 2, 3);
        varies(x, 1, 0, 2, 8, 3, 8, 1, 8);
        varies(x, 1, 1, 1, 3, 8, 1, 8);
        varies(x, 1, 4, 2, 8, 3, 8, 3);
        varies(x, 1, 7, 1, 2, 3);
    }

    @Says("(RULES have the one PART 9 at first.)")
    private static void rulesAtFirst(PiperHouse x) {
        notes(x, 5, 0);
        for (int r = 0; r < 5; r++) {
            varies(x, r, 0, 5, 0);
        }
    }

    @Says("A SHEET (3 at most) is of a RULE")
    private static void sheetsAreFullAtThree(PiperHouse x) {
        due(x.sheet(0, 1, 0), 0);
        due(x.sheet(0, 1, 0), 1);
        due(x.sheet(4, 1, 0), 2);
        due(x.sheet(1, 1, 0), FULL);
        due(x.count(4), 3);
        due(x.cells(2), 1);
        due(x.cells(3), UNKNOWN);
    }

    @Says("for a GROUND of n NOTES (1 .. 16) with CADENCES (bits)")
    private static void sheetAtTheEndsOfN(PiperHouse x) {
        due(x.sheet(0, 0, 0), OUTSIDE);
        due(x.sheet(0, 17, 0), OUTSIDE);
        due(x.sheet(0, 1, 1), 0);
        due(x.cells(0), 1);
        due(x.least(0), 0);
        due(x.least(1), -1);
        x.clear();
        due(x.sheet(0, 16, 65535), 0);
        due(x.cells(0), 16);
        due(x.least(15), 0);
        due(x.least(16), -1);
    }

    @Says("as many CELLS as that VARIATION has")
    private static void fewestAndMostCells(PiperHouse x) {
        x.rule(3, 4, 0x9999);
        due(x.sheet(3, 1, 1), 0);
        due(x.cells(0), 1);
        x.clear();
        due(x.sheet(3, 1, 0), 0);
        due(x.cells(0), 4);
        x.clear();
        due(x.sheet(3, 16, 0), 0);
        due(x.cells(0), 64);
        due(x.tell(0, 63, 8), GAP);
        due(x.least(15), 8);
        x.clear();
        due(x.sheet(3, 16, 1 << 15), 0);
        due(x.cells(0), 61);
        x.clear();
        due(x.sheet(3, 16, 65535), 0);
        due(x.cells(0), 16);
    }

    @Says("each a NOTE told, or a GAP (at first).")
    private static void cellsAreGapsAtFirst(PiperHouse x) {
        x.rule(3, 4, 0x9999);
        due(x.sheet(3, 16, 0), 0);
        for (int c = 0; c < 64; c++) {
            due(x.tell(0, c, c % 9), GAP);
        }
        x.clear();
        due(x.sheet(3, 16, 0), 0);
        due(x.sheet(3, 16, 0), 1);
        for (int c = 0; c < 64; c++) {
            due(x.tell(0, c, GAP), GAP);
            due(x.tell(1, c, GAP), GAP);
        }
    }

    @Says("WRONG are CELLS told otherwise than by a GROUND.")
    private static void gapsAreNeverWrong(PiperHouse x) {
        x.rule(0, 1, 4);
        x.sheet(0, 2, 0);
        due(x.blamed(0, -1), 0);
        due(x.agreeing(), 81);
        x.tell(0, 0, 4);
        due(x.blamed(0, -1), 0);
        x.tell(0, 1, 0);
        due(x.blamed(0, -1), 1);
        due(x.blamed(0, 0), 0);
        due(x.blamed(0, 1), 1);
        due(x.agreeing(), 0);
        x.tell(0, 1, GAP);
        due(x.blamed(0, 1), 0);
        due(x.agreeing(), 81);
    }

    @Says("All SHEETS are of the same n and CADENCES (those of the first one).")
    private static void laterSheetsFollowTheFirst(PiperHouse x) {
        due(x.sheet(0, 4, 8), 0);
        due(x.sheet(1, 4, 0), NOT);
        due(x.sheet(1, 5, 8), NOT);
        due(x.sheet(1, 4, 8), 1);
        due(x.count(4), 2);
        x.clear();
        due(x.sheet(1, 5, 8), 0);
        due(x.sheet(0, 4, 8), NOT);
        due(x.sheet(0, 5, 8), 1);
    }

    @Says("AGREEING with all SHEETS: GROUNDS by which none is WRONG")
    private static void agreeingWithEachSheet(PiperHouse x) {
        x.rule(1, 1, 10);
        x.sheet(0, 2, 0);
        x.sheet(1, 2, 0);
        x.tell(0, 0, 3);
        due(x.agreeing(), 9);
        x.tell(1, 1, 3);
        due(x.agreeing(), 9);
        x.tell(1, 0, 8);
        due(x.agreeing(), 1);
        x.tell(0, 1, 7);
        due(x.agreeing(), 0);
    }

    @Says("LEAST WRONG: those by which the fewest CELLS are WRONG; of these the first (by NOTES).")
    private static void leastWrongOfSeveralIsTheFirst(PiperHouse x) {
        x.rule(1, 4, 0x9999);
        x.sheet(1, 2, 0);
        due(x.least(0), 0);
        tellAll(x, 0, 8, 7, 8, 7, 8, 8, 0, 0);
        due(x.least(0), 7);
        due(x.least(1), 0);
        due(x.blamed(0, -1), 4);
        x.tell(0, 3, 8);
        due(x.least(0), 8);
        due(x.blamed(0, -1), 3);
        // Where nothing is told the least NOTE, though another one is told beside it.
        x.tell(0, 4, GAP);
        x.tell(0, 5, GAP);
        x.tell(0, 6, GAP);
        x.tell(0, 7, GAP);
        due(x.least(1), 0);
    }

    // ---- Terms: pipes

    @Says("PIPERS are 0 .. 5")
    private static void pipersAreSix(PiperHouse x) {
        due(x.piper(0, 1, 0, 1, 0), 1);
        due(x.piper(5, 2, 0, 1, 0), 1);
        due(x.piper(-1, 0, 0, 1, 0), UNKNOWN);
        due(x.piper(6, 0, 0, 1, 0), UNKNOWN);
        due(x.band(1, 0, 1), 1001);
        due(x.band(32, 0, 1), 1002);
        due(x.band(33, 0, 0), 1);
    }

    @Says("a REED (its pitch when cold, -99 .. 99)")
    private static void reedAtItsEnds(PiperHouse x) {
        due(x.piper(0, -99, 0, 1, 0), 1);
        due(x.piper(0, -100, 0, 1, 0), OUTSIDE);
        due(x.pitch(0, 0, 150), -99);
        due(x.piper(0, 99, 0, 1, 0), 1);
        due(x.piper(0, 100, 0, 1, 0), OUTSIDE);
        due(x.pitch(0, 0, 150), 99);
    }

    @Says("a RISE (0 .. 9 a MINUTE)")
    private static void riseAtItsEnds(PiperHouse x) {
        due(x.piper(0, 0, 9, 60, 0), 1);
        due(x.piper(0, 0, 10, 60, 0), OUTSIDE);
        due(x.pitch(0, 0, 1), 9);
        due(x.piper(0, 0, 0, 60, 0), 1);
        due(x.piper(0, 0, -1, 60, 0), OUTSIDE);
        due(x.pitch(0, 0, 1), 0);
    }

    @Says("a WARM time (1 .. 60 MINUTES)")
    private static void warmAtItsEnds(PiperHouse x) {
        due(x.piper(0, 0, 1, 60, 0), 1);
        due(x.piper(0, 0, 1, 61, 0), OUTSIDE);
        due(x.pitch(0, 0, 59), 59);
        due(x.pitch(0, 0, 60), 60);
        due(x.pitch(0, 0, 61), 60);
        due(x.piper(0, 0, 1, 1, 0), 1);
        due(x.piper(0, 0, 1, 0, 0), OUTSIDE);
        due(x.pitch(0, 0, 0), 0);
        due(x.pitch(0, 0, 1), 1);
        due(x.pitch(0, 0, 2), 1);
    }

    @Says("when it COMES (MINUTE 0 .. 90)")
    private static void comesAtItsEnds(PiperHouse x) {
        due(x.piper(0, 7, 0, 1, 90), 1);
        due(x.piper(0, 7, 0, 1, 91), OUTSIDE);
        due(x.pitch(0, 90, 90), 7);
        due(x.pitch(0, 89, 90), LEAST_INT);
        due(x.piper(0, 7, 0, 1, 0), 1);
        due(x.piper(0, 7, 0, 1, -1), OUTSIDE);
        due(x.pitch(0, 0, 0), 7);
    }

    @Says("all 0, WARM 1 at first.")
    private static void pipersAtFirst(PiperHouse x) {
        for (int p = 0; p < 6; p++) {
            due(x.pitch(p, 0, 0), 0);
            due(x.pitch(p, 0, 150), 0);
            due(x.begins(63, 150, p), 150);
        }
        due(x.band(63, 0, 0), 0);
        due(x.band(63, 0, 1), 1000);
    }

    @Says("DAMP (0 .. 5; 0 at first)")
    private static void dampAtFirstAndAtItsEnds(PiperHouse x) {
        due(x.damp(-1), OUTSIDE);
        due(x.damp(6), OUTSIDE);
        due(x.damp(5), 0);
        due(x.damp(0), 5);
        due(x.damp(0), 0);
    }

    @Says("takes as much from each RISE (not below 0).")
    private static void dampTakesNoMoreThanTheRise(PiperHouse x) {
        for (int p = 0; p < 6; p++) {
            x.piper(p, 50, 2 + p, 10, 0);
        }
        x.damp(5);
        int[] pitches = {50, 50, 50, 50, 60, 70};
        for (int p = 0; p < 6; p++) {
            due(x.pitch(p, 0, 10), pitches[p]);
        }
        due(x.band(15, 10, 0), 0);
        due(x.begins(63, 10, 5), 10);
        // The RISE itself stays as it was told.
        x.damp(0);
        due(x.pitch(0, 0, 10), 70);
    }

    @Says("the pitch REED and RISE (less DAMP) times the lesser of t less s and WARM.")
    private static void pitchAsFarAsItGoes(PiperHouse x) {
        x.piper(0, 99, 9, 60, 0);
        due(x.pitch(0, 0, 150), 639);
        due(x.pitch(0, 90, 150), 639);
        due(x.pitch(0, 91, 150), 630);
        due(x.pitch(0, 150, 150), 99);
        x.damp(5);
        due(x.pitch(0, 90, 150), 339);
    }

    @Says("A BAND of a set of PIPERS starts at MINUTE t (0 .. 150)")
    private static void bandAtTheEndsOfT(PiperHouse x) {
        x.piper(0, 0, 1, 60, 0);
        x.piper(1, 60, 0, 1, 0);
        due(x.band(3, 0, 0), 60);
        due(x.band(3, -1, 0), OUTSIDE);
        due(x.band(3, 150, 0), 0);
        due(x.band(3, 151, 0), OUTSIDE);
        due(x.begins(3, 0, 0), 0);
        due(x.begins(3, 150, 0), 90);
    }

    @Says("each of them begins at a MINUTE from COMES to t")
    private static void beginsBetweenComesAndT(PiperHouse x) {
        x.piper(0, 0, 2, 60, 30);
        x.piper(1, 20, 0, 1, 0);
        due(x.band(3, 30, 0), 20);
        due(x.begins(3, 30, 0), 30);
        due(x.band(3, 39, 0), 2);
        due(x.begins(3, 39, 0), 30);
        due(x.band(3, 40, 0), 0);
        due(x.begins(3, 40, 0), 30);
        due(x.band(3, 41, 0), 0);
        due(x.begins(3, 41, 0), 31);
        due(x.band(3, 29, 0), NOT);
    }

    @Says("SPREAD is the greatest pitch less the least at t.")
    private static void spreadAsWideAsItGoes(PiperHouse x) {
        x.piper(0, -99, 0, 60, 0);
        x.piper(5, 99, 9, 60, 0);
        due(x.band(33, 150, 0), 198);
        due(x.band(33, 150, 1), 901);
        due(x.band(63, 150, 0), 198);
        due(x.band(1, 150, 0), 0);
        due(x.band(32, 150, 0), 0);
        due(x.band(32, 150, 1), 1099);
    }

    @Says("BEST: least SPREAD; of several that with the least pitch as low as can be")
    private static void bestOfSeveralIsTheLowest(PiperHouse x) {
        // 98 and 9 times 4, 99 and 7 times 5 are the first to be alike: 134.
        x.piper(0, 98, 9, 60, 0);
        x.piper(1, 99, 7, 60, 0);
        due(x.band(3, 150, 0), 0);
        due(x.band(3, 150, 1), 1134);
        due(x.begins(3, 150, 0), 146);
        due(x.begins(3, 150, 1), 145);
        due(x.band(3, 5, 0), 0);
        due(x.begins(3, 5, 1), 0);
        due(x.begins(3, 5, 0), 1);
        // Begun too late for that they start as they came, one apart.
        due(x.band(3, 4, 0), 1);
        due(x.band(3, 4, 1), 1098);
        due(x.begins(3, 4, 0), 4);
        due(x.begins(3, 4, 1), 4);
        // So too, if one is warm before.
        x.piper(0, 98, 9, 3, 0);
        due(x.band(3, 150, 0), 1);
        due(x.band(3, 150, 1), 1098);
    }

    @Says("each then begins at the latest MINUTE by which its pitch is not below that and as near to it as can be.")
    private static void latestMinuteNotBelow(PiperHouse x) {
        x.piper(0, 0, 3, 10, 0);
        x.piper(1, 10, 0, 60, 0);
        x.piper(2, 0, 2, 60, 0);
        due(x.band(7, 100, 0), 1);
        due(x.band(7, 100, 1), 1009);
        due(x.begins(7, 100, 0), 97);
        due(x.begins(7, 100, 1), 100);
        due(x.begins(7, 100, 2), 95);
        // Warm and no further: the latest of many beginnings that sound alike.
        x.piper(1, 30, 0, 60, 0);
        due(x.band(3, 100, 0), 0);
        due(x.begins(3, 100, 0), 90);
    }

    @Says("The TONE of a NOTE is -300 .. 300 off what is just (0 at first).")
    private static void toneAtFirstAndAtItsEnds(PiperHouse x) {
        due(x.harsh(0, 0), 0);
        due(x.harsh(1, 0), 9);
        due(x.tone(4, 300), 1);
        due(x.harsh(0, 0), 300);
        due(x.tone(4, 301), OUTSIDE);
        due(x.tone(4, -300), 1);
        due(x.harsh(300, 0), 2400 + 600);
        due(x.tone(4, -301), OUTSIDE);
        due(x.harsh(300, 0), 2400 + 600);
    }

    @Says("how far TONE and p are from it (without sign).")
    private static void harshOnBothSides(PiperHouse x) {
        tones(x, 300, 300, 300, 300, 300, 300, 300, 300, 300);
        due(x.harsh(-999, 999), 9 * 2298);
        due(x.harsh(999, 699), 0);
        tones(x, -300, -300, -300, -300, -300, -300, -300, -300, -300);
        due(x.harsh(999, -999), 9 * 2298);
        due(x.harsh(-999, -699), 0);
        tones(x, 1, -1, 2, -2, 0, 0, 0, 0, 0);
        due(x.harsh(50, 50), 6);
    }

    @Says("SET: the DRONE -999 .. 999 with the least HARSH")
    private static void setStopsAtItsEnds(PiperHouse x) {
        tones(x, 300, 300, 300, 300, 300, 300, 300, 300, 300);
        due(x.set(698), 998);
        due(x.set(699), 999);
        due(x.set(700), 999);
        due(x.set(999), 999);
        due(x.set(-999), -699);
        tones(x, -300, -300, -300, -300, -300, -300, -300, -300, -300);
        due(x.set(-698), -998);
        due(x.set(-699), -999);
        due(x.set(-700), -999);
        due(x.set(-999), -999);
        due(x.set(999), 699);
    }

    @Says("with the least HARSH; of several the least.")
    private static void setHasNoOtherAsGood(PiperHouse x) {
        // Four TONES on each side of a middle one, which may stand anywhere among the NOTES.
        for (int middle = 0; middle < 9; middle++) {
            for (int n = 0; n < 9; n++) {
                x.tone(n, n == middle ? 7 : (n + 9 - middle) % 9 < 5 ? 300 : -300);
            }
            due(x.set(0), 7);
            due(x.harsh(6, 0) > x.harsh(7, 0) ? 1 : 0, 1);
            due(x.harsh(8, 0) > x.harsh(7, 0) ? 1 : 0, 1);
        }
        // Five alike outweigh four, on either side.
        tones(x, 5, 5, 5, 5, 5, 9, 9, 9, 9);
        due(x.set(0), 5);
        tones(x, 5, 5, 5, 5, 9, 9, 9, 9, 9);
        due(x.set(0), 9);
    }

    // ---- promises 1 to 12

    @Says(promise = 1, value = "All as at first: no STEPS, no SHEETS.")
    private static void nothingIsThereYet(PiperHouse x) {
        for (int what = 0; what <= 4; what++) {
            due(x.count(what), 0);
        }
        due(x.back(), NOT);
        due(x.agreeing(), NOT);
        due(x.put(0, 0), UNKNOWN);
        due(x.cells(0), UNKNOWN);
        due(x.varied(0, 0, 0), NONE);
        due(x.first(0, 0), NONE);
        due(x.wrong(), NONE);
        due(x.fillings(), 1);
        due(x.graces(), 0);
        due(x.read(0), 1);
        due(x.home(), 0);
    }

    @Says(promise = 2, value = "A MOVEMENT gets n GRACES (GRACE i graces >> 4 i & 15): 1.")
    private static void gracesBeyondNAreNotLookedAt(PiperHouse x) {
        open(x, 1, 1, 0xFFFFFF3);
        due(x.fits(1, 3, 0), 0);
        due(x.fits(1, 0, 3), 0);
        due(x.fits(1, 0, 0), 1);
        due(x.movement(1, 0, -1), 1);
        due(x.fits(1, 3, 0), 1);
        due(x.fits(1, 0, 0), 0);
        due(x.movement(1, 4, 0xFFFF8080), 1);
        due(x.fits(1, 8, 0), 1);
        due(x.fits(1, 0, 8), 0);
        // Fewer than before: the later ones are gone.
        due(x.movement(1, 3, 0x080), 1);
        due(x.fits(1, 1, 8), 1);
        due(x.fits(1, 1, 0), 0);
        x.step(1, 9, 1);
        due(x.graces(), 3);
    }

    @Says(promise = 2, value = "OUTSIDE: n (0 .. 4), a GRACE is no NOTE.")
    private static void graceAtItsEnds(PiperHouse x) {
        for (int n = 1; n <= 4; n++) {
            for (int i = 0; i < n; i++) {
                due(x.movement(1, n, 8 << 4 * i), 1);
                due(x.movement(1, n, 9 << 4 * i), OUTSIDE);
            }
            due(x.movement(1, n, 9 << 4 * n), 1);
        }
        due(x.movement(1, 0, 9), 1);
    }

    @Says(promise = 3, value = "FROM (what 0), TO (1) of a MOVEMENT (bits of NOTES): those that it was.")
    private static void mayFromNoneToAll(PiperHouse x) {
        due(x.may(7, 0, ALL), 0);
        due(x.may(7, 0, 0), ALL);
        due(x.may(7, 0, ALL), 0);
        due(x.may(7, 1, ALL), 0);
        due(x.may(7, 1, 0), ALL);
        due(x.may(7, 1, 256), 0);
        due(x.may(7, 0, 1), ALL);
        due(x.may(7, 1, 256), 256);
        due(x.may(6, 0, 0), 0);
    }

    @Says(promise = 4, value = "BEAT: that which it was.")
    private static void beatAnswersTheOneBefore(PiperHouse x) {
        due(x.beat(2), 1);
        due(x.beat(2), 2);
        due(x.beat(3), 2);
        due(x.beat(1), 3);
    }

    @Says(promise = 5, value = "Whether a MOVEMENT FITS between two NOTES (a -1: ahead of the first one): 1, 0.")
    private static void fitsAtTheEndsOfNotes(PiperHouse x) {
        due(x.fits(0, 0, 8), 1);
        due(x.fits(0, 8, 0), 1);
        due(x.fits(0, 0, 0), 0);
        due(x.fits(0, 8, 8), 0);
        due(x.fits(0, -1, 0), 1);
        due(x.fits(0, -1, 8), 1);
        x.may(0, 0, 0);
        due(x.fits(0, 0, 8), 0);
        due(x.fits(0, -1, 0), 1);
        x.may(0, 1, 0);
        due(x.fits(0, -1, 0), 0);
    }

    @Says(promise = 6, value = "A STEP more (movement -1: LOST): how many.")
    private static void stepsFromNoneToFull(PiperHouse x) {
        due(x.step(0, 1, LOST), 1);
        due(x.count(1), 1);
        due(x.step(8, 9, 7), 2);
        due(x.step(8, 9, 0), 3);
        due(x.count(1), 1);
        for (int i = 4; i <= 24; i++) {
            due(x.step(0, 1, LOST), i);
        }
        due(x.count(1), 22);
        due(x.step(0, 1, LOST), FULL);
        due(x.count(1), 22);
    }

    @Says(promise = 7, value = "The MOVEMENT of a STEP becomes so (-1: LOST): that which it was (-1).")
    private static void putAtTheFirstAndTheLastStep(PiperHouse x) {
        for (int i = 0; i < 24; i++) {
            x.step(i % 2, 1, i % 8);
        }
        due(x.put(0, LOST), 0);
        due(x.put(0, 7), LOST);
        due(x.put(0, 0), 7);
        due(x.put(23, LOST), 7);
        due(x.put(23, LOST), LOST);
        due(x.put(24, LOST), UNKNOWN);
        due(x.count(1), 1);
        x.back();
        due(x.put(23, 0), UNKNOWN);
        due(x.put(22, 0), 6);
    }

    @Says(promise = 8, value = "The last STEP goes: how many are left.")
    private static void backFromFullToNone(PiperHouse x) {
        for (int i = 0; i < 24; i++) {
            x.step(0, 1, LOST);
        }
        for (int left = 23; left >= 0; left--) {
            due(x.back(), left);
            due(x.count(1), left);
        }
        due(x.back(), NOT);
    }

    @Says(promise = 8, value = "The last STEP goes")
    private static void whatWentIsForgotten(PiperHouse x) {
        open(x, 1, 1, 8);
        x.step(5, 9, 1);
        x.step(5, 9, 1);
        x.back();
        x.back();
        due(x.fillings(), 1);
        due(x.graces(), 0);
        x.step(3, 1, 0);
        x.step(4, 1, 0);
        due(x.wrong(), NONE);
        due(x.sung(0, 1), 1);
    }

    @Says(promise = 9, value = "The first STEP (not LOST) that does not HOLD; NONE.")
    private static void wrongAtTheFirstAndTheLastStep(PiperHouse x) {
        due(x.wrong(), NONE);
        for (int i = 0; i < 24; i++) {
            x.step(i % 2, 1, 0);
        }
        due(x.wrong(), NONE);
        x.put(23, 1);
        due(x.wrong(), 23);
        x.put(0, 1);
        due(x.wrong(), 0);
        x.put(0, LOST);
        due(x.wrong(), 23);
        x.put(23, LOST);
        due(x.wrong(), NONE);
        // A LOST one is not wrong, though nothing could stand there.
        x.may(0, 1, 0);
        due(x.wrong(), 1);
        for (int i = 1; i < 23; i++) {
            x.put(i, LOST);
        }
        due(x.wrong(), NONE);
        due(x.fillings(), 0);
    }

    @Says(promise = 10, value = "How many FILLINGS (MANY).")
    private static void fillingsOfNothing(PiperHouse x) {
        due(x.fillings(), 1);
        x.step(0, 1, LOST);
        due(x.fillings(), 1);
        x.step(0, 1, LOST);
        due(x.fillings(), 0);
        x.put(1, 0);
        due(x.fillings(), 0);
        x.back();
        x.put(0, 0);
        due(x.fillings(), 1);
    }

    @Says(promise = 11, value = "the MOVEMENT of a STEP (a told one as it is); NONE: there is no FILLING.")
    private static void quickestWithoutAFilling(PiperHouse x) {
        open(x, 1, 4, 0x7878);
        x.step(0, 9, 1);
        x.step(1, 9, LOST);
        due(x.quickest(0), 1);
        due(x.quickest(1), 0);
        due(x.quickest(2), UNKNOWN);
        x.step(1, 9, 0);
        due(x.quickest(0), NONE);
        due(x.quickest(1), NONE);
        due(x.quickest(2), NONE);
        due(x.quickest(3), UNKNOWN);
        due(x.quickest(-1), UNKNOWN);
    }

    @Says(promise = 11, value = "the MOVEMENT of a STEP (a told one as it is)")
    private static void quickestOfTheOnlyFilling(PiperHouse x) {
        open(x, 1, 4, 0x7878);
        x.step(0, 9, 1);
        due(x.fillings(), 1);
        due(x.quickest(0), 1);
        due(x.graces(), 4);
        x.step(0, 9, LOST);
        due(x.fillings(), 1);
        due(x.quickest(1), 1);
        due(x.graces(), 8);
    }

    @Says(promise = 11, value = "Of QUICKEST: the MOVEMENT of a STEP")
    private static void quickestOfMany(PiperHouse x) {
        ways(x, 8);
        steps(x, 24, 0);
        x.movement(7, 0, 0);
        due(x.fillings(), MANY);
        due(x.quickest(0), 7);
        due(x.quickest(1), 0);
        due(x.quickest(23), 0);
        due(x.graces(), 23);
    }

    @Says(promise = 12, value = "GRACES of QUICKEST in all (told ones, too); NONE.")
    private static void fewestAndMostGraces(PiperHouse x) {
        due(x.graces(), 0);
        open(x, 1, 4, 0x7878);
        for (int i = 0; i < 24; i++) {
            x.step(0, 9, i % 2 == 0 ? 1 : LOST);
        }
        due(x.graces(), 96);
        x.beat(2);
        due(x.graces(), 96);
        x.beat(3);
        due(x.graces(), NONE);
    }

    // ---- promises 13 to 19

    @Says(promise = 13, value = "HEAD of a MOVEMENT (sort 0) or TAIL of a NOTE (1) in a REGION: that which it was.")
    private static void regionAtItsEnds(PiperHouse x) {
        due(x.region(0, 0, 0, 7), 0);
        due(x.region(0, 0, 0, 0), 7);
        due(x.region(2, 0, 7, 0), 7);
        due(x.region(2, 1, 8, 3), 2);
        due(x.region(2, 1, 8, 0), 3);
        due(x.region(2, 1, 7, 0), 2);
        due(x.region(0, 1, 0, 3), 0);
        due(x.region(1, 1, 0, 3), 0);
        due(x.region(1, 0, 0, 3), 0);
    }

    @Says(promise = 14, value = "The SYLLABLE of a STEP of the TUNE in a REGION.")
    private static void sungAtTheFirstAndTheLastStep(PiperHouse x) {
        for (int i = 0; i < 24; i++) {
            x.step(i % 9, 1, i % 8);
        }
        due(x.sung(0, 0), 0);
        due(x.sung(2, 23), 4 * 7 + 1);
        due(x.sung(2, 24), UNKNOWN);
        x.put(23, LOST);
        due(x.sung(2, 23), NOT);
        due(x.sung(3, 23), UNKNOWN);
    }

    @Says(promise = 15, value = "A SYLLABLE more of the SONG: how many.")
    private static void syllablesAtTheirEnds(PiperHouse x) {
        due(x.syllable(0), 1);
        due(x.syllable(31), 2);
        due(x.read(0), 0);
        open(x, 7, 0, 0);
        x.region(0, 1, 8, 3);
        due(x.read(0), 3);
        due(x.first(0, 0), 0);
        due(x.first(0, 1), 16 * 8 + 7);
    }

    @Says(promise = 16, value = "The SONG is empty: how many it had.")
    private static void hushFromFull(PiperHouse x) {
        due(x.hush(), 0);
        syllables(x, 12, 31);
        due(x.read(0), 0);
        due(x.hush(), 12);
        due(x.hush(), 0);
        due(x.count(2), 0);
        due(x.read(0), 1);
        due(x.syllable(0), 1);
        due(x.read(0), 3);
    }

    @Says(promise = 17, value = "By how many rows the SONG is READ in a REGION (MANY).")
    private static void readOfNothingAndOfTheLongest(PiperHouse x) {
        for (int r = 0; r < 3; r++) {
            due(x.read(r), 1);
        }
        syllables(x, 12, 0);
        // Three NOTES at first, then two others each time.
        due(x.read(0), 3 * 2048);
        x.region(2, 1, 0, 3);
        due(x.read(2), 2);
        x.region(2, 1, 1, 3);
        due(x.read(2), 0);
        due(x.read(0), 3 * 2048);
    }

    @Says(promise = 18, value = "STEP i of the first row: 16 NOTE and MOVEMENT; NONE: there is no row, or no such STEP.")
    private static void firstAtTheEndsOfTheSong(PiperHouse x) {
        due(x.first(0, 0), NONE);
        open(x, 7, 1, 0);
        syllables(x, 11, 30);
        due(x.first(0, 0), 16 * 6 + 7);
        due(x.first(0, 10), 16 * 6 + 7);
        due(x.first(0, 11), NONE);
        syllables(x, 1, 30);
        due(x.first(0, 11), 16 * 6 + 7);
        due(x.first(0, 12), NONE);
        due(x.first(0, Integer.MAX_VALUE), NONE);
        // The greatest that it can be.
        for (int n = 0; n < 8; n++) {
            x.region(1, 1, n, 0);
        }
        due(x.first(1, 11), 16 * 8 + 7);
        x.region(0, 0, 7, 0);
        due(x.first(0, 0), NONE);
        due(x.first(0, 12), NONE);
        due(x.first(0, -1), OUTSIDE);
    }

    @Says(promise = 18, value = "STEP i of the first row")
    private static void eachStepFollowsTheOneBefore(PiperHouse x) {
        syllables(x, 12, 2);
        // NOTES 6 and 7 in turn, as no NOTE may follow itself.
        for (int i = 0; i < 12; i++) {
            due(x.first(2, i), 16 * (6 + i % 2));
        }
        x.region(2, 1, 6, 0);
        for (int i = 0; i < 12; i++) {
            due(x.first(2, i), 16 * (7 + i % 2));
        }
        for (int i = 0; i < 12; i++) {
            due(x.first(0, i), 16 * (6 + i % 2));
        }
    }

    @Says(promise = 18, value = "NONE: there is no row")
    private static void noRowAsTheLastSyllableFails(PiperHouse x) {
        syllables(x, 11, 0);
        due(x.first(0, 0), 0);
        x.syllable(31);
        for (int i = 0; i <= 12; i++) {
            due(x.first(0, i), NONE);
        }
    }

    @Says(promise = 19, value = "HOME; NONE.")
    private static void homeOfNothingAndOfMany(PiperHouse x) {
        due(x.home(), 0);
        syllables(x, 12, 0);
        for (int n = 0; n < 9; n++) {
            x.region(0, 1, n, 0);
            x.region(1, 1, n, 0);
        }
        due(x.read(0), MANY);
        due(x.home(), 2);
        x.region(2, 0, 0, 7);
        due(x.home(), 0);
        x.may(0, 0, 0);
        due(x.home(), NONE);
    }

    // ---- promises 20 to 30

    @Says(promise = 20, value = "A RULE of n (1 .. 4) PARTS (PART i parts >> 4 i & 15): 1.")
    private static void partsBeyondNAreNotLookedAt(PiperHouse x) {
        x.note(0);
        due(x.rule(0, 1, 0xFFFFFFF5), 1);
        varies(x, 0, 0, 5);
        due(x.rule(0, 4, 0xFFFF4321), 1);
        varies(x, 0, 0, 1, 2, 3, 4);
        due(x.rule(0, 3, 0xB678), 1);
        varies(x, 0, 0, 8, 7, 6);
        for (int n = 1; n <= 4; n++) {
            for (int i = 0; i < n; i++) {
                due(x.rule(1, n, 10 << 4 * i), 1);
                due(x.rule(1, n, 11 << 4 * i), OUTSIDE);
            }
            due(x.rule(1, n, 11 << 4 * n), 1);
        }
    }

    @Says(promise = 20, value = "NOT: a SHEET is of it.")
    private static void ruleOfASheetStays(PiperHouse x) {
        x.sheet(0, 2, 0);
        x.sheet(1, 2, 0);
        x.sheet(4, 2, 0);
        due(x.rule(0, 2, 0), NOT);
        due(x.rule(1, 2, 0), NOT);
        due(x.rule(4, 2, 0), NOT);
        due(x.rule(2, 2, 0), 1);
        due(x.rule(3, 2, 0), 1);
        x.note(7);
        varies(x, 0, 0, 7);
        varies(x, 4, 0, 7);
        x.clear();
        due(x.rule(0, 2, 0), 1);
        due(x.rule(1, 2, 0), 1);
        due(x.rule(4, 2, 0), 1);
    }

    @Says(promise = 21, value = "A NOTE more of THE GROUND at hand: how many.")
    private static void groundFromNoneToFull(PiperHouse x) {
        due(x.note(8), 1);
        due(x.note(0), 2);
        for (int i = 3; i <= 16; i++) {
            due(x.note(8), i);
        }
        due(x.note(8), FULL);
        due(x.note(9), UNKNOWN);
        due(x.count(3), 16);
        due(x.silence(), 16);
        due(x.note(8), 1);
    }

    @Says(promise = 22, value = "THE GROUND at hand has no NOTES: how many it had.")
    private static void silenceFromFull(PiperHouse x) {
        due(x.silence(), 0);
        notes(x, 1, 2, 3, 4, 5, 6, 7, 8, 1, 2, 3, 4, 5, 6, 7, 8);
        due(x.silence(), 16);
        due(x.silence(), 0);
        due(x.varied(0, 0, 0), NONE);
        // The one behind the only one is not what stood there before.
        x.rule(1, 1, 10);
        x.note(6);
        varies(x, 1, 0, 6);
    }

    @Says(promise = 23, value = "with CADENCES (bits below 2 to the 16); NONE: it has not so many.")
    private static void variedAtTheEnds(PiperHouse x) {
        due(x.varied(0, 0, 0), NONE);
        due(x.varied(0, 65535, 0), NONE);
        x.rule(4, 4, 0x9A90);
        notes(x, 1, 2, 3, 4, 5, 6, 7, 8, 1, 2, 3, 4, 5, 6, 7, 8);
        due(x.varied(4, 0, 0), 0);
        due(x.varied(4, 0, 63), 8);
        due(x.varied(4, 0, 62), 1);
        due(x.varied(4, 0, 64), NONE);
        due(x.varied(4, 65535, 15), 8);
        due(x.varied(4, 65535, 16), NONE);
        due(x.varied(4, 32768, 60), 8);
        due(x.varied(4, 32768, 61), NONE);
        due(x.varied(4, 65536, 0), OUTSIDE);
        due(x.varied(4, 0, Integer.MAX_VALUE), NONE);
        due(x.varied(4, 0, -1), OUTSIDE);
    }

    @Says(promise = 23, value = "CADENCES (bits below 2 to the 16)")
    private static void cadencesBehindTheGroundDoNotMatter(PiperHouse x) {
        x.rule(1, 2, 0x89);
        notes(x, 1, 2);
        varies(x, 1, 65535 - 3, 1, 8, 2, 8);
        varies(x, 1, 65535 - 1, 1, 8, 2);
    }

    @Says(promise = 24, value = "A SHEET: its number.")
    private static void sheetNumbersBeginAnew(PiperHouse x) {
        for (int round = 0; round < 2; round++) {
            due(x.sheet(0, 16, 0), 0);
            due(x.sheet(4, 16, 0), 1);
            due(x.sheet(4, 16, 0), 2);
            due(x.sheet(4, 16, 0), FULL);
            due(x.clear(), 3);
        }
    }

    @Says(promise = 24, value = "OUTSIDE: n, cadences (below 2 to the n)")
    private static void cadencesBelowTwoToTheN(PiperHouse x) {
        for (int n = 1; n <= 16; n++) {
            due(x.sheet(0, n, 1 << n), OUTSIDE);
            due(x.sheet(0, n, -1), OUTSIDE);
            due(x.sheet(0, n, (1 << n) - 1), 0);
            due(x.cells(0), n);
            due(x.clear(), 1);
        }
    }

    @Says(promise = 24, value = "NOT: others are of another n or other CADENCES; FULL.")
    private static void sheetOfAnotherKindWhileFull(PiperHouse x) {
        x.sheet(0, 3, 1);
        due(x.sheet(0, 3, 3), NOT);
        due(x.sheet(0, 2, 1), NOT);
        x.sheet(0, 3, 1);
        x.sheet(0, 3, 1);
        due(x.sheet(0, 3, 3), NOT);
        due(x.sheet(0, 4, 1), NOT);
        due(x.sheet(0, 3, 1), FULL);
        due(x.sheet(0, 3, 8), OUTSIDE);
        due(x.sheet(5, 3, 1), UNKNOWN);
    }

    @Says(promise = 25, value = "A CELL of a SHEET is told (-1: a GAP): that which it was (-1).")
    private static void tellAtTheFirstAndTheLastCell(PiperHouse x) {
        x.rule(1, 4, 0x9999);
        x.sheet(1, 16, 0);
        x.sheet(1, 16, 0);
        x.sheet(1, 16, 0);
        due(x.tell(0, 0, 0), GAP);
        due(x.tell(0, 0, 8), 0);
        due(x.tell(0, 0, GAP), 8);
        due(x.tell(0, 0, GAP), GAP);
        due(x.tell(2, 63, 8), GAP);
        due(x.tell(2, 63, 0), 8);
        due(x.tell(1, 63, 1), GAP);
        due(x.tell(2, 64, 0), UNKNOWN);
        due(x.tell(3, 0, 0), UNKNOWN);
        due(x.tell(2, 63, GAP), 0);
    }

    @Says(promise = 26, value = "How many CELLS a SHEET has.")
    private static void cellsOfEachSheet(PiperHouse x) {
        due(x.cells(0), UNKNOWN);
        x.rule(1, 4, 0);
        x.sheet(0, 16, 0);
        due(x.cells(1), UNKNOWN);
        x.sheet(1, 16, 0);
        x.sheet(1, 16, 0);
        due(x.cells(0), 16);
        due(x.cells(1), 64);
        due(x.cells(2), 64);
        due(x.cells(3), UNKNOWN);
        x.clear();
        due(x.cells(0), UNKNOWN);
        // Its RULE may become another one only when it is gone.
        x.rule(1, 1, 0);
        x.sheet(1, 16, 0);
        due(x.cells(0), 16);
    }

    @Says(promise = 27, value = "There are no SHEETS any more: how many there were.")
    private static void clearFromFull(PiperHouse x) {
        due(x.clear(), 0);
        x.sheet(0, 1, 0);
        due(x.clear(), 1);
        x.sheet(0, 2, 0);
        x.sheet(0, 2, 0);
        x.sheet(0, 2, 0);
        due(x.clear(), 3);
        due(x.clear(), 0);
        due(x.count(4), 0);
        due(x.agreeing(), NOT);
        due(x.least(0), NOT);
        due(x.blamed(0, -1), UNKNOWN);
        due(x.tell(0, 0, 0), UNKNOWN);
    }

    @Says(promise = 28, value = "How many GROUNDS are AGREEING (MANY).")
    private static void agreeingFromOneToMany(PiperHouse x) {
        int grounds = 1;
        for (int n = 1; n <= 16; n++) {
            due(x.sheet(0, n, 0), 0);
            grounds = Math.min(MANY, grounds * 9);
            due(x.agreeing(), n == 6 ? 531441 : n > 6 ? MANY : grounds);
            x.clear();
        }
        x.sheet(0, 16, 0);
        for (int c = 0; c < 10; c++) {
            due(x.agreeing(), MANY);
            x.tell(0, c, 8);
        }
        due(x.agreeing(), 531441);
        for (int c = 10; c < 16; c++) {
            x.tell(0, c, 0);
        }
        due(x.agreeing(), 1);
        x.sheet(0, 16, 0);
        due(x.agreeing(), 1);
        x.tell(1, 15, 1);
        due(x.agreeing(), 0);
    }

    @Says(promise = 29, value = "NOTE i of LEAST WRONG's first; -1: i is none.")
    private static void leastAtTheEndsOfTheGround(PiperHouse x) {
        x.sheet(0, 16, 0);
        x.tell(0, 0, 8);
        x.tell(0, 15, 7);
        due(x.least(0), 8);
        due(x.least(1), 0);
        due(x.least(15), 7);
        due(x.least(16), -1);
        due(x.least(-1), -1);
        due(x.least(Integer.MAX_VALUE), -1);
        due(x.least(LEAST_INT), -1);
        x.clear();
        x.sheet(0, 1, 0);
        due(x.least(0), 0);
        due(x.least(1), -1);
    }

    @Says(promise = 29, value = "NOTE i of LEAST WRONG's first")
    private static void leastMayBeEachNote(PiperHouse x) {
        x.sheet(0, 9, 0);
        x.sheet(0, 9, 0);
        for (int n = 0; n < 9; n++) {
            x.tell(0, n, n);
        }
        for (int n = 0; n < 9; n++) {
            due(x.least(n), n);
            x.tell(1, n, 8 - n);
            due(x.least(n), Math.min(n, 8 - n));
        }
    }

    @Says(promise = 30, value = "By LEAST WRONG's first")
    private static void blamedFollowsEachTelling(PiperHouse x) {
        x.sheet(0, 2, 0);
        x.sheet(0, 2, 0);
        x.tell(0, 0, 5);
        x.tell(0, 1, 8);
        due(x.blamed(0, 0), 0);
        due(x.blamed(0, -1), 0);
        // Two that differ: the lesser NOTE is taken as the right one.
        x.tell(1, 0, 6);
        due(x.blamed(1, 0), 1);
        due(x.blamed(0, 0), 0);
        x.tell(1, 0, 4);
        due(x.blamed(1, 0), 0);
        due(x.blamed(0, -1), 1);
    }

    @Says(promise = 30, value = "how many CELLS of a SHEET are WRONG (cell -1), or whether that CELL is (1, 0).")
    private static void blamedFromNoneToAll(PiperHouse x) {
        x.rule(1, 4, 0x0000);
        x.sheet(1, 16, 0);
        due(x.blamed(0, -1), 0);
        for (int c = 0; c < 64; c++) {
            due(x.blamed(0, c), 0);
            x.tell(0, c, 1 + c % 8);
            due(x.blamed(0, c), 1);
            due(x.blamed(0, -1), c + 1);
        }
        due(x.blamed(0, 64), UNKNOWN);
        due(x.blamed(0, -2), UNKNOWN);
        due(x.blamed(1, -1), UNKNOWN);
    }

    // ---- promises 31 to 39

    @Says(promise = 31, value = "A PIPER becomes so: 1.")
    private static void piperAtAllEnds(PiperHouse x) {
        due(x.piper(0, -99, 0, 1, 0), 1);
        due(x.pitch(0, 0, 150), -99);
        due(x.piper(5, 99, 9, 60, 90), 1);
        due(x.pitch(5, 90, 150), 639);
        due(x.pitch(5, 90, 149), 630);
        due(x.pitch(5, 89, 150), LEAST_INT);
        due(x.piper(5, 0, 0, 1, 0), 1);
        due(x.pitch(5, 0, 150), 0);
        due(x.pitch(0, 0, 150), -99);
    }

    @Says(promise = 32, value = "DAMP: that which it was.")
    private static void dampAnswersTheOneBefore(PiperHouse x) {
        for (int v = 1; v <= 5; v++) {
            due(x.damp(v), v - 1);
        }
        due(x.damp(5), 5);
        due(x.damp(0), 5);
    }

    @Says(promise = 33, value = "Pitch of a PIPER at MINUTE t, begun at s (0 .. 150 both).")
    private static void pitchAtTheEndsOfTime(PiperHouse x) {
        x.piper(0, 3, 2, 60, 0);
        due(x.pitch(0, 0, 0), 3);
        due(x.pitch(0, 0, 150), 123);
        due(x.pitch(0, 150, 150), 3);
        due(x.pitch(0, 149, 150), 5);
        due(x.pitch(0, 150, 151), LEAST_INT);
        due(x.pitch(0, 151, 151), LEAST_INT);
        due(x.pitch(0, -1, 0), LEAST_INT);
        due(x.pitch(0, -1, -1), LEAST_INT);
    }

    @Says(promise = 33, value = "OUTSIDE (also s above t, or before it COMES).")
    private static void pitchAboveTAndBeforeItComes(PiperHouse x) {
        x.piper(0, 3, 2, 60, 45);
        due(x.pitch(0, 44, 50), LEAST_INT);
        due(x.pitch(0, 45, 50), 13);
        due(x.pitch(0, 50, 50), 3);
        due(x.pitch(0, 51, 50), LEAST_INT);
        due(x.pitch(0, 44, 44), LEAST_INT);
        due(x.pitch(0, 45, 45), 3);
    }

    @Says(promise = 34, value = "BEST of a BAND (bits, at least one): SPREAD (what 0).")
    private static void bandFromOneToAll(PiperHouse x) {
        for (int p = 0; p < 6; p++) {
            x.piper(p, p, 0, 1, 0);
        }
        for (int p = 0; p < 6; p++) {
            due(x.band(1 << p, 0, 0), 0);
            due(x.band(1 << p, 0, 1), 1000 + p);
        }
        due(x.band(63, 0, 0), 5);
        due(x.band(0, 0, 0), OUTSIDE);
        due(x.band(64, 0, 0), OUTSIDE);
        due(x.band(65, 0, 0), OUTSIDE);
    }

    @Says(promise = 34, value = "NOT: one COMES behind t")
    private static void bandAsTheLastOneComes(PiperHouse x) {
        x.piper(5, 0, 0, 1, 90);
        due(x.band(63, 89, 0), NOT);
        due(x.band(63, 90, 0), 0);
        due(x.band(31, 89, 0), 0);
        due(x.band(32, 0, 0), NOT);
        due(x.band(32, 0, 2), OUTSIDE);
        due(x.band(32, 151, 0), OUTSIDE);
    }

    @Says(promise = 34, value = "what 1: the least pitch then and 1000.")
    private static void leastPitchAtItsEnds(PiperHouse x) {
        x.piper(0, -99, 0, 1, 0);
        due(x.band(1, 150, 1), 901);
        due(x.band(3, 150, 1), 901);
        x.piper(0, 99, 9, 60, 0);
        due(x.band(1, 150, 1), 1099);
        // The one comes up to where the other is when cold.
        x.piper(0, 99, 1, 60, 0);
        x.piper(1, -99, 9, 60, 0);
        due(x.band(3, 150, 0), 0);
        due(x.band(3, 150, 1), 1099);
        due(x.begins(3, 150, 1), 128);
    }

    @Says(promise = 35, value = "When a PIPER begins in BEST of a BAND; NONE: it is not in it.")
    private static void beginsOnlyInTheBand(PiperHouse x) {
        for (int p = 0; p < 6; p++) {
            due(x.begins(1 << p, 0, p), 0);
            due(x.begins(1 << p, 150, p), 150);
            due(x.begins(63 - (1 << p), 150, p), NONE);
        }
        due(x.begins(63, 150, 6), UNKNOWN);
        due(x.begins(63, 150, -1), UNKNOWN);
    }

    @Says(promise = 35, value = "OUTSIDE, NOT as band().")
    private static void beginsIsRefusedAsBand(PiperHouse x) {
        x.piper(0, 0, 0, 1, 90);
        due(x.begins(3, 89, 0), NOT);
        due(x.begins(3, 89, 1), NOT);
        due(x.begins(3, 89, 2), NOT);
        due(x.begins(3, 90, 0), 90);
        due(x.begins(3, 90, 2), NONE);
        due(x.begins(0, 90, 0), OUTSIDE);
        due(x.begins(64, 90, 0), OUTSIDE);
        due(x.begins(3, 151, 2), OUTSIDE);
        due(x.begins(3, -1, 2), OUTSIDE);
    }

    @Says(promise = 36, value = "TONE of a NOTE: 1.")
    private static void toneOfTheFirstAndTheLastNote(PiperHouse x) {
        due(x.tone(0, -300), 1);
        due(x.tone(8, 300), 1);
        due(x.harsh(0, 0), 600);
        due(x.tone(0, 0), 1);
        due(x.harsh(0, 0), 300);
        due(x.tone(8, 0), 1);
        due(x.harsh(0, 0), 0);
    }

    @Says(promise = 37, value = "HARSH of a DRONE (-999 .. 999) with a pitch (-999 .. 999).")
    private static void harshAtTheEnds(PiperHouse x) {
        due(x.harsh(-999, -999), 0);
        due(x.harsh(999, 999), 0);
        due(x.harsh(999, -999), 17982);
        due(x.harsh(-999, 999), 17982);
        due(x.harsh(1000, 999), OUTSIDE);
        due(x.harsh(-1000, -999), OUTSIDE);
        due(x.harsh(999, 1000), OUTSIDE);
        due(x.harsh(-999, -1000), OUTSIDE);
    }

    @Says(promise = 38, value = "SET with a pitch (-999 .. 999): the DRONE.")
    private static void setAtTheEndsOfPitch(PiperHouse x) {
        due(x.set(-999), -999);
        due(x.set(999), 999);
        due(x.set(-1000), LEAST_INT);
        due(x.set(1000), LEAST_INT);
        tones(x, -300, -300, -300, -300, 1, 300, 300, 300, 300);
        due(x.set(999), 999);
        due(x.set(-999), -998);
    }

    @Says(promise = 39, value = "0 STEPS, 1 LOST ones, 2 SYLLABLES, 3 NOTES of THE GROUND, 4 SHEETS.")
    private static void countsFromNoneToFull(PiperHouse x) {
        int[] most = {24, 24, 12, 16, 3};
        for (int i = 0; i < 25; i++) {
            for (int what = 0; what <= 4; what++) {
                due(x.count(what), Math.min(i, most[what]));
            }
            x.step(0, 1, LOST);
            x.syllable(0);
            x.note(0);
            x.sheet(0, 1, 0);
        }
        due(x.count(-1), OUTSIDE);
        due(x.count(5), OUTSIDE);
        for (int i = 0; i < 24; i++) {
            x.put(i, 0);
        }
        due(x.count(0), 24);
        due(x.count(1), 0);
        x.back();
        x.hush();
        x.silence();
        x.clear();
        due(x.count(0), 23);
        for (int what = 1; what <= 4; what++) {
            due(x.count(what), 0);
        }
    }
}
