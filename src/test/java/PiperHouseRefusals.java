import java.lang.annotation.Retention;
import java.lang.annotation.RetentionPolicy;
import java.lang.reflect.InvocationTargetException;
import java.lang.reflect.Method;
import java.nio.file.Files;
import java.nio.file.Path;
import java.util.ArrayList;
import java.util.Arrays;
import java.util.Comparator;
import java.util.HashMap;
import java.util.List;
import java.util.Map;

/**
 * One test for each sentence of the document that names a refusal: the call answers the first refusal
 * that fits, and nothing changes.
 *
 * <p>Whether something changed is seen by nine rows of questions over all parts of the state, put to objects
 * that were brought into the same state with the refused call and without it. They are a wide choice, not
 * all that can be asked: inner GRACES and LENGTHS show only in whether a MOVEMENT FITS and a STEP HOLDS.
 */
public final class PiperHouseRefusals {
    private static final int UNKNOWN = -2, OUTSIDE = -3, NOT = -4, FULL = -5;
    private static final int LEAST_INT = Integer.MIN_VALUE, MOST_INT = Integer.MAX_VALUE;
    private static final int LOST = -1, ALL = 511;
    private static final int MOST_CALLS = 512;
    private static final Path DOCUMENT = Path.of("../shared/DOC.md");

    @Retention(RetentionPolicy.RUNTIME)
    private @interface Says {
        int promise() default 0;

        String value();
    }

    private static int wrong = 0;
    private static int refusals = 0;
    private static Method current;
    private static final Map<String, Method> CALLS = new HashMap<>();

    private static void complain(String what) {
        wrong++;
        Says says = current.getAnnotation(Says.class);
        System.out.println("promise " + says.promise() + ", \"" + says.value() + "\", " + current.getName() + ": "
                + what);
    }

    public static void main(String[] args) throws Exception {
        for (Method m : PiperHouse.class.getDeclaredMethods()) {
            CALLS.put(m.getName(), m);
        }
        List<Method> tests = tests();
        for (Method test : tests) {
            run(test);
        }
        System.out.println(wrong == 0 ? tests.size() + " sentences refuse, " + refusals + " calls, nothing changes"
                : wrong + " are not as due");
        if (wrong != 0) {
            System.exit(1);
        }
    }

    private static List<Method> tests() {
        List<Method> found = new ArrayList<>();
        for (Method m : PiperHouseRefusals.class.getDeclaredMethods()) {
            if (m.isAnnotationPresent(Says.class)) {
                found.add(m);
            }
        }
        found.sort(Comparator.comparing((Method m) -> m.getAnnotation(Says.class).promise())
                .thenComparing(Method::getName));
        return found;
    }

    private static void run(Method test) throws Exception {
        current = test;
        int before = refusals;
        test.invoke(null);
        if (refusals == before) {
            complain("refuses nothing");
        }
        if (Files.exists(DOCUMENT) && !section(test.getAnnotation(Says.class).promise())
                .contains(test.getAnnotation(Says.class).value())) {
            complain("the document does not say so");
        }
    }

    /** The document's text under a promise, or under Terms, in one line. */
    private static String section(int promise) throws Exception {
        String text = Files.readString(DOCUMENT);
        String title = promise == 0 ? "## Terms" : "## Promise " + promise + ":";
        int start = text.indexOf(title);
        int end = start < 0 ? -1 : text.indexOf("\n## ", start + 1);
        return start < 0 ? "" : text.substring(start, end < 0 ? text.length() : end).replaceAll("\\s+", " ");
    }

    // ---- states

    /** A row of calls that brings a new object into some state. */
    private static final class Scene {
        final String name;
        final List<String> calls = new ArrayList<>();
        final List<int[]> numbers = new ArrayList<>();
        int[][] looks;

        Scene(String name) {
            this.name = name;
        }

        /** The same calls, and room for more. */
        Scene under(String otherName) {
            Scene other = new Scene(otherName);
            other.calls.addAll(calls);
            other.numbers.addAll(numbers);
            return other;
        }

        Scene call(String call, int... v) {
            calls.add(call);
            numbers.add(v);
            return this;
        }

        PiperHouse play() {
            PiperHouse x = new PiperHouse();
            for (int i = 0; i < calls.size(); i++) {
                ask(x, calls.get(i), numbers.get(i));
            }
            return x;
        }
    }

    private static int ask(PiperHouse x, String call, int... v) {
        Object[] given = new Object[v.length];
        for (int i = 0; i < v.length; i++) {
            given[i] = v[i];
        }
        try {
            return (Integer) CALLS.get(call).invoke(x, given);
        } catch (InvocationTargetException thrown) {
            throw new IllegalStateException(call + Arrays.toString(v) + " threw", thrown.getCause());
        } catch (IllegalAccessException closed) {
            throw new IllegalStateException(closed);
        }
    }

    private static final Scene NEW = new Scene("new");
    private static final Scene HALF = half();
    private static final Scene FULL_HOUSE = fullHouse();
    private static final Scene[] SCENES = {NEW, HALF, FULL_HOUSE};

    private static final Scene WITHOUT_STEPS = withoutSteps();
    private static final Scene CLEARED = HALF.under("half, without sheets").call("clear");
    private static final Scene FULL_CLEARED = FULL_HOUSE.under("full, without sheets").call("clear");

    private static final int HALF_STEPS = 6;
    private static final int HALF_LAST_CELL = 8;

    private static Scene half() {
        Scene s = new Scene("half");
        s.call("movement", 1, 1, 7).call("may", 1, 0, ALL).call("may", 1, 1, 127);
        s.call("movement", 2, 3, 0x646).call("may", 2, 0, 255).call("may", 2, 1, ALL);
        s.call("movement", 7, 4, 0x8787).call("may", 7, 1, 3).call("beat", 2);
        for (int i = 0; i < HALF_STEPS; i++) {
            s.call("step", i / 2, 9 - i, i % 3 == 0 ? LOST : i % 3);
        }
        s.call("region", 0, 0, 1, 0).call("region", 1, 1, 8, 3).call("region", 2, 0, 0, 5);
        s.call("syllable", 0).call("syllable", 0).call("syllable", 8);
        s.call("rule", 1, 2, 0xA9).call("rule", 3, 3, 0x9A5);
        s.call("note", 3).call("note", 8).call("note", 0);
        // Five NOTES, one of them a CADENCE.
        s.call("sheet", 0, 5, 4).call("sheet", 1, 5, 4);
        s.call("tell", 0, 0, 3).call("tell", 1, 0, 4).call("tell", 1, 8, 8);
        s.call("sheet", 4, 5, 4).call("clear");
        s.call("sheet", 3, 5, 4).call("sheet", 1, 5, 4);
        s.call("tell", 0, 0, 5).call("tell", 0, 2, 7).call("tell", 1, 0, 6).call("tell", 1, 8, 8);
        s.call("piper", 0, 20, 3, 30, 10).call("piper", 3, -40, 9, 20, 60).call("damp", 1);
        s.call("tone", 0, -20).call("tone", 8, 170);
        return s;
    }

    private static Scene withoutSteps() {
        Scene s = HALF.under("half, without steps");
        for (int i = 0; i < HALF_STEPS; i++) {
            s.call("back");
        }
        return s;
    }

    private static Scene fullHouse() {
        Scene s = new Scene("full");
        for (int m = 0; m < 8; m++) {
            s.call("movement", m, m % 5, 0x8787 >> m % 2 * 4).call("may", m, 0, ALL - m).call("may", m, 1, ALL - 2 * m);
        }
        for (int i = 0; i < 24; i++) {
            s.call("step", i % 7, 9, LOST);
        }
        for (int i = 0; i < 12; i++) {
            s.call("syllable", i % 3);
        }
        for (int i = 0; i < 16; i++) {
            s.call("note", i % 9);
        }
        s.call("region", 0, 0, 3, 0).call("region", 1, 1, 1, 2);
        s.call("rule", 0, 4, 0xA9A9).call("rule", 2, 4, 0x19A8);
        s.call("sheet", 0, 16, 0).call("sheet", 2, 16, 0).call("sheet", 4, 16, 0);
        s.call("tell", 0, 63, 8).call("tell", 1, 0, 7).call("tell", 1, 3, 1).call("tell", 2, 15, 0);
        for (int p = 0; p < 6; p++) {
            s.call("piper", p, 90 - 30 * p, 1 + p, 60 - p, 15 * p);
        }
        for (int n = 0; n < 9; n++) {
            s.call("tone", n, 70 * n - 300);
        }
        return s;
    }

    // ---- looking at each part of the state

    private static final int LOOKS = 9;

    /** Asks an object in the given state, and notes how many calls it has had. */
    private static final class Look {
        private final PiperHouse x;
        private int calls;
        private final List<Integer> answers = new ArrayList<>();

        Look(PiperHouse x, int calls) {
            this.x = x;
            this.calls = calls;
        }

        void at(String call, int... v) {
            calls++;
            if (calls > MOST_CALLS) {
                throw new IllegalStateException("an object is good for 512 calls");
            }
            answers.add(ask(x, call, v));
        }

        int[] seen() {
            return answers.stream().mapToInt(Integer::intValue).toArray();
        }
    }

    private static int[] look(PiperHouse x, int calls, int which) {
        Look look = new Look(x, calls);
        switch (which) {
            case 0:
            case 1:
                lookAtFits(look, 4 * which);
                break;
            case 2:
                lookAtGraces(look);
                break;
            case 3:
                lookAtTune(look);
                break;
            case 4:
                lookAtSong(look);
                break;
            case 5:
                lookAtGround(look);
                break;
            case 6:
                lookAtBlame(look);
                break;
            case 7:
                lookAtCells(look);
                break;
            default:
                lookAtPipes(look);
        }
        return look.seen();
    }

    private static void lookAtFits(Look look, int lowest) {
        for (int m = lowest; m < lowest + 4; m++) {
            for (int a = -1; a < 9; a++) {
                for (int b = 0; b < 9; b += 1 + (a + 1) % 2) {
                    look.at("fits", m, a, b);
                }
            }
        }
    }

    /** Once all may stand everywhere, what does not FIT shows the first and the last GRACE. */
    private static void lookAtGraces(Look look) {
        for (int m = 0; m < 8; m++) {
            look.at("may", m, 0, ALL);
            look.at("may", m, 1, ALL);
            for (int n = 0; n < 9; n++) {
                look.at("fits", m, n, n);
                look.at("fits", m, -1, n);
                look.at("fits", m, n, (n + 1) % 9);
            }
        }
    }

    private static void lookAtTune(Look look) {
        for (int beat = 1; beat <= 3; beat++) {
            look.at("wrong");
            look.at("fillings");
            look.at("graces");
            for (int i = 0; i < 24; i++) {
                look.at("quickest", i);
            }
            look.at("beat", beat);
        }
        for (int i = 0; i < 24; i++) {
            look.at("sung", 0, i);
            look.at("put", i, 0);
            look.at("sung", 1, i);
            look.at("sung", 2, i);
        }
        look.at("back");
        look.at("count", 0);
        look.at("count", 1);
    }

    private static void lookAtSong(Look look) {
        for (int r = 0; r < 3; r++) {
            look.at("read", r);
            for (int i = 0; i < 13; i++) {
                look.at("first", r, i);
            }
        }
        look.at("home");
        for (int r = 0; r < 3; r++) {
            for (int k = 0; k < 9; k++) {
                look.at("region", r, 1, k, 0);
                look.at("region", r, 0, k % 8, 0);
            }
            look.at("read", r);
        }
        look.at("hush");
        look.at("count", 2);
    }

    private static void lookAtGround(Look look) {
        look.at("count", 3);
        for (int r = 0; r < 5; r++) {
            for (int i = 0; i < 65; i++) {
                look.at("varied", r, 1 << r, i);
            }
        }
        look.at("silence");
    }

    private static void lookAtBlame(Look look) {
        look.at("count", 4);
        look.at("agreeing");
        for (int i = -1; i <= 16; i++) {
            look.at("least", i);
        }
        for (int s = 0; s < 3; s++) {
            look.at("cells", s);
            for (int c = -1; c < 64; c++) {
                look.at("blamed", s, c);
            }
        }
    }

    private static void lookAtCells(Look look) {
        for (int s = 0; s < 3; s++) {
            for (int c = 0; c < 64; c++) {
                look.at("tell", s, c, -1);
            }
        }
        for (int r = 0; r < 5; r++) {
            look.at("rule", r, 1, 9);
        }
        look.at("sheet", 0, 5, 4);
        look.at("sheet", 0, 16, 0);
        look.at("clear");
    }

    private static void lookAtPipes(Look look) {
        for (int p = 0; p < 6; p++) {
            for (int s = 0; s <= 150; s += 5) {
                look.at("pitch", p, s, 150);
            }
            look.at("begins", 63, 120, p);
            look.at("begins", 9, 90, p);
        }
        look.at("band", 63, 150, 0);
        look.at("band", 63, 100, 1);
        look.at("damp", 0);
        for (int n = 0; n < 9; n++) {
            look.at("harsh", 7, -3);
            look.at("tone", n, 0);
        }
        look.at("set", 0);
    }

    // ---- refusing

    /** The call answers so in a state, and leaves it as it was. */
    private static void refuses(Scene scene, int due, String call, int... v) {
        refusals++;
        int calls = scene.calls.size();
        if (scene.looks == null) {
            scene.looks = new int[LOOKS][];
            for (int i = 0; i < LOOKS; i++) {
                scene.looks[i] = look(scene.play(), calls, i);
            }
        }
        for (int i = 0; i < LOOKS; i++) {
            PiperHouse x = scene.play();
            int got = ask(x, call, v);
            String told = call + Arrays.toString(v) + ", house " + scene.name;
            if (got != due) {
                complain(told + ": answered " + got + ", due is " + due);
                return;
            }
            if (!Arrays.equals(look(x, calls + 1, i), scene.looks[i])) {
                complain(told + ": something changed (look " + i + ")");
                return;
            }
        }
    }

    private static void refusesAlways(int due, String call, int... v) {
        for (Scene scene : SCENES) {
            refuses(scene, due, call, v);
        }
    }

    /** Numbers on both sides of a range, near and far. */
    private static int[] beside(int low, int high) {
        return new int[] {low - 1, high + 1, LEAST_INT, MOST_INT};
    }

    // ---- Terms

    @Says("UNKNOWN (no such NOTE, MOVEMENT, STEP, REGION, RULE, SHEET, CELL, PIPER)")
    private static void eachKindMayBeUnknown() {
        for (int side = 0; side < 2; side++) {
            refusesAlways(UNKNOWN, "note", side == 0 ? -1 : 9);
            refusesAlways(UNKNOWN, "movement", side == 0 ? -1 : 8, 0, 0);
            refusesAlways(UNKNOWN, "put", side == 0 ? -1 : 24, 0);
            refusesAlways(UNKNOWN, "read", side == 0 ? -1 : 3);
            refusesAlways(UNKNOWN, "rule", side == 0 ? -1 : 5, 1, 9);
            refusesAlways(UNKNOWN, "cells", side == 0 ? -1 : 3);
            refusesAlways(UNKNOWN, "tell", 0, side == 0 ? -1 : 64, 0);
            refusesAlways(UNKNOWN, "piper", side == 0 ? -1 : 6, 0, 0, 1, 0);
        }
    }

    @Says("the first of these that fits.")
    private static void unknownGoesAheadOfOutside() {
        refusesAlways(UNKNOWN, "movement", 8, 5, 0x9999);
        refusesAlways(UNKNOWN, "may", 8, 2, 512);
        refusesAlways(UNKNOWN, "step", 9, 0, 0);
        refusesAlways(UNKNOWN, "step", 0, 0, 8);
        refusesAlways(UNKNOWN, "region", 3, 2, 0, 8);
        refusesAlways(UNKNOWN, "region", 0, 0, 8, 8);
        refusesAlways(UNKNOWN, "region", 0, 1, 9, 4);
        refusesAlways(UNKNOWN, "first", 3, -1);
        refusesAlways(UNKNOWN, "rule", 5, 0, 0);
        refusesAlways(UNKNOWN, "varied", 5, 65536, -1);
        refusesAlways(UNKNOWN, "sheet", 5, 0, -1);
        refusesAlways(UNKNOWN, "tell", 3, 0, 9);
        refusesAlways(UNKNOWN, "tell", 0, 64, -2);
        refusesAlways(UNKNOWN, "piper", 6, 100, 10, 61, 91);
        refusesAlways(UNKNOWN, "begins", 0, 151, 6);
        refusesAlways(UNKNOWN, "tone", 9, 301);
    }

    @Says("the first of these that fits.")
    private static void unknownGoesAheadOfNotAndFull() {
        refuses(HALF, UNKNOWN, "sung", 3, 0);
        refuses(FULL_HOUSE, UNKNOWN, "step", 9, 1, 0);
        refuses(FULL_HOUSE, UNKNOWN, "step", 0, 1, 8);
        refuses(FULL_HOUSE, UNKNOWN, "note", 9);
        refuses(FULL_HOUSE, UNKNOWN, "sheet", 5, 16, 0);
        refuses(FULL_HOUSE, UNKNOWN, "sheet", 5, 15, 0);
        refuses(HALF, UNKNOWN, "begins", 8, 0, 6);
    }

    @Says("the first of these that fits.")
    private static void outsideGoesAheadOfNotAndFull() {
        refuses(FULL_HOUSE, OUTSIDE, "step", 0, 0, 0);
        refuses(FULL_HOUSE, OUTSIDE, "syllable", 32);
        refuses(HALF, OUTSIDE, "rule", 1, 0, 0);
        refuses(HALF, OUTSIDE, "rule", 1, 1, 11);
        refuses(HALF, OUTSIDE, "sheet", 0, 17, 0);
        refuses(HALF, OUTSIDE, "sheet", 0, 3, 8);
        refuses(FULL_HOUSE, OUTSIDE, "sheet", 0, 17, 0);
        refuses(FULL_HOUSE, OUTSIDE, "sheet", 0, 16, 65536);
        refuses(HALF, OUTSIDE, "band", 8, 0, 2);
        refuses(HALF, OUTSIDE, "band", 72, 0, 0);
        refuses(HALF, OUTSIDE, "begins", 72, 0, 3);
    }

    @Says("the first of these that fits.")
    private static void notGoesAheadOfFull() {
        refuses(FULL_HOUSE, NOT, "sheet", 0, 15, 0);
        refuses(FULL_HOUSE, NOT, "sheet", 0, 16, 1);
    }

    // ---- promises 2 to 12

    @Says(promise = 2, value = "UNKNOWN; OUTSIDE: n (0 .. 4)")
    private static void movementOfNoMovementOrNoSize() {
        for (int m : beside(0, 7)) {
            refusesAlways(UNKNOWN, "movement", m, 1, 0);
        }
        for (int n : beside(0, 4)) {
            refusesAlways(OUTSIDE, "movement", 1, n, 0);
            refusesAlways(OUTSIDE, "movement", 0, n, 0x1212);
        }
    }

    @Says(promise = 2, value = "a GRACE is no NOTE.")
    private static void movementOfNoNote() {
        for (int n = 1; n <= 4; n++) {
            for (int i = 0; i < n; i++) {
                refusesAlways(OUTSIDE, "movement", 1, n, 0x3131 & ~(15 << 4 * i) | 9 << 4 * i);
                refuses(HALF, OUTSIDE, "movement", 7, n, 0x3131 | 15 << 4 * i);
            }
        }
    }

    @Says(promise = 3, value = "UNKNOWN; OUTSIDE.")
    private static void mayOfNoMovementOrOutside() {
        for (int m : beside(0, 7)) {
            refusesAlways(UNKNOWN, "may", m, 0, 1);
        }
        for (int what : beside(0, 1)) {
            refusesAlways(OUTSIDE, "may", 1, what, 1);
        }
        for (int notes : beside(0, ALL)) {
            refusesAlways(OUTSIDE, "may", 1, 0, notes);
            refusesAlways(OUTSIDE, "may", 1, 1, notes);
        }
    }

    @Says(promise = 4, value = "OUTSIDE.")
    private static void beatOutside() {
        for (int v : beside(1, 3)) {
            refusesAlways(OUTSIDE, "beat", v);
        }
    }

    @Says(promise = 5, value = "UNKNOWN.")
    private static void fitsOfNoMovementOrNoNote() {
        for (int m : beside(0, 7)) {
            refusesAlways(UNKNOWN, "fits", m, 0, 1);
            refusesAlways(UNKNOWN, "fits", m, -1, 1);
        }
        for (int a : beside(-1, 8)) {
            refusesAlways(UNKNOWN, "fits", 0, a, 1);
        }
        for (int b : beside(0, 8)) {
            refusesAlways(UNKNOWN, "fits", 0, 1, b);
            refusesAlways(UNKNOWN, "fits", 0, -1, b);
        }
    }

    @Says(promise = 6, value = "UNKNOWN: NOTE, MOVEMENT")
    private static void stepOfNoNoteOrNoMovement() {
        for (int note : beside(0, 8)) {
            refusesAlways(UNKNOWN, "step", note, 1, 0);
        }
        for (int m : beside(-1, 7)) {
            refusesAlways(UNKNOWN, "step", 0, 1, m);
        }
    }

    @Says(promise = 6, value = "OUTSIDE; FULL.")
    private static void stepOutsideOrFull() {
        for (int length : beside(1, 9)) {
            refusesAlways(OUTSIDE, "step", 0, length, 0);
            refusesAlways(OUTSIDE, "step", 0, length, LOST);
        }
        refuses(FULL_HOUSE, FULL, "step", 0, 1, 0);
        refuses(FULL_HOUSE, FULL, "step", 8, 9, LOST);
    }

    @Says(promise = 7, value = "UNKNOWN answers -2.")
    private static void putOfNoStepOrNoMovement() {
        refuses(NEW, UNKNOWN, "put", 0, 0);
        refuses(WITHOUT_STEPS, UNKNOWN, "put", 0, 0);
        for (int step : beside(0, HALF_STEPS - 1)) {
            refuses(HALF, UNKNOWN, "put", step, 0);
            refuses(HALF, UNKNOWN, "put", step, 8);
        }
        for (int step : beside(0, 23)) {
            refuses(FULL_HOUSE, UNKNOWN, "put", step, LOST);
        }
        for (int m : beside(-1, 7)) {
            refuses(HALF, UNKNOWN, "put", 0, m);
            refuses(FULL_HOUSE, UNKNOWN, "put", 23, m);
        }
    }

    @Says(promise = 8, value = "NOT: there is none.")
    private static void backWithoutSteps() {
        refuses(NEW, NOT, "back");
        refuses(WITHOUT_STEPS, NOT, "back");
    }

    @Says(promise = 11, value = "UNKNOWN.")
    private static void quickestOfNoStep() {
        refuses(NEW, UNKNOWN, "quickest", 0);
        refuses(WITHOUT_STEPS, UNKNOWN, "quickest", 0);
        for (int step : beside(0, HALF_STEPS - 1)) {
            refuses(HALF, UNKNOWN, "quickest", step);
        }
        for (int step : beside(0, 23)) {
            refuses(FULL_HOUSE, UNKNOWN, "quickest", step);
        }
    }

    // ---- promises 13 to 19

    @Says(promise = 13, value = "UNKNOWN; OUTSIDE: sort, v.")
    private static void regionUnknown() {
        for (int r : beside(0, 2)) {
            refusesAlways(UNKNOWN, "region", r, 0, 0, 1);
            refusesAlways(UNKNOWN, "region", r, 1, 0, 1);
        }
        for (int m : beside(0, 7)) {
            refusesAlways(UNKNOWN, "region", 1, 0, m, 1);
        }
        for (int note : beside(0, 8)) {
            refusesAlways(UNKNOWN, "region", 1, 1, note, 1);
        }
    }

    @Says(promise = 13, value = "OUTSIDE: sort, v.")
    private static void regionOutside() {
        for (int sort : beside(0, 1)) {
            refusesAlways(OUTSIDE, "region", 1, sort, 0, 1);
        }
        for (int head : beside(0, 7)) {
            refusesAlways(OUTSIDE, "region", 1, 0, 7, head);
        }
        for (int tail : beside(0, 3)) {
            refusesAlways(OUTSIDE, "region", 1, 1, 8, tail);
        }
    }

    @Says(promise = 14, value = "UNKNOWN; NOT: its MOVEMENT is LOST.")
    private static void sungOfNothing() {
        refuses(NEW, UNKNOWN, "sung", 0, 0);
        refuses(WITHOUT_STEPS, UNKNOWN, "sung", 0, 0);
        for (int r : beside(0, 2)) {
            refuses(HALF, UNKNOWN, "sung", r, 1);
        }
        for (int step : beside(0, HALF_STEPS - 1)) {
            refuses(HALF, UNKNOWN, "sung", 0, step);
        }
        for (int r = 0; r < 3; r++) {
            refuses(HALF, NOT, "sung", r, 0);
            refuses(HALF, NOT, "sung", r, 3);
            refuses(FULL_HOUSE, NOT, "sung", r, 23);
        }
    }

    @Says(promise = 15, value = "OUTSIDE; FULL.")
    private static void syllableOutsideOrFull() {
        for (int v : beside(0, 31)) {
            refusesAlways(OUTSIDE, "syllable", v);
        }
        refuses(FULL_HOUSE, FULL, "syllable", 0);
        refuses(FULL_HOUSE, FULL, "syllable", 31);
    }

    @Says(promise = 17, value = "UNKNOWN.")
    private static void readOfNoRegion() {
        for (int r : beside(0, 2)) {
            refusesAlways(UNKNOWN, "read", r);
        }
    }

    @Says(promise = 18, value = "UNKNOWN: REGION; OUTSIDE: i below 0.")
    private static void firstOfNoRegionOrBelow() {
        for (int r : beside(0, 2)) {
            refusesAlways(UNKNOWN, "first", r, 0);
        }
        refusesAlways(OUTSIDE, "first", 0, -1);
        refusesAlways(OUTSIDE, "first", 2, LEAST_INT);
    }

    // ---- promises 20 to 30

    @Says(promise = 20, value = "UNKNOWN; OUTSIDE")
    private static void ruleOfNoRuleOrOutside() {
        for (int r : beside(0, 4)) {
            refusesAlways(UNKNOWN, "rule", r, 1, 0);
        }
        for (int n : beside(1, 4)) {
            refusesAlways(OUTSIDE, "rule", 1, n, 0x1234);
            refusesAlways(OUTSIDE, "rule", 2, n, 0);
        }
        for (int n = 1; n <= 4; n++) {
            for (int i = 0; i < n; i++) {
                refusesAlways(OUTSIDE, "rule", 1, n, 0x3131 & ~(15 << 4 * i) | 11 << 4 * i);
                refusesAlways(OUTSIDE, "rule", 2, n, 0x3131 | 15 << 4 * i);
            }
        }
    }

    @Says(promise = 20, value = "NOT: a SHEET is of it.")
    private static void ruleOfASheet() {
        refuses(HALF, NOT, "rule", 1, 1, 9);
        refuses(HALF, NOT, "rule", 3, 4, 0);
        refuses(FULL_HOUSE, NOT, "rule", 0, 1, 9);
        refuses(FULL_HOUSE, NOT, "rule", 2, 1, 9);
        refuses(FULL_HOUSE, NOT, "rule", 4, 2, 0x99);
    }

    @Says(promise = 21, value = "UNKNOWN; FULL.")
    private static void noteUnknownOrFull() {
        for (int note : beside(0, 8)) {
            refusesAlways(UNKNOWN, "note", note);
        }
        refuses(FULL_HOUSE, FULL, "note", 0);
        refuses(FULL_HOUSE, FULL, "note", 8);
    }

    @Says(promise = 23, value = "UNKNOWN: RULE; OUTSIDE.")
    private static void variedOfNoRuleOrOutside() {
        for (int r : beside(0, 4)) {
            refusesAlways(UNKNOWN, "varied", r, 0, 0);
        }
        for (int cadences : beside(0, 65535)) {
            refusesAlways(OUTSIDE, "varied", 0, cadences, 0);
        }
        refusesAlways(OUTSIDE, "varied", 0, 0, -1);
        refusesAlways(OUTSIDE, "varied", 4, 65535, LEAST_INT);
    }

    @Says(promise = 24, value = "UNKNOWN: RULE; OUTSIDE: n, cadences (below 2 to the n)")
    private static void sheetOfNoRuleOrOutside() {
        for (int r : beside(0, 4)) {
            refusesAlways(UNKNOWN, "sheet", r, 5, 4);
        }
        for (int n : beside(1, 16)) {
            refusesAlways(OUTSIDE, "sheet", 0, n, 0);
        }
        for (int n = 1; n <= 16; n++) {
            for (int cadences : beside(0, (1 << n) - 1)) {
                refusesAlways(OUTSIDE, "sheet", 0, n, cadences);
            }
        }
    }

    @Says(promise = 24, value = "NOT: others are of another n or other CADENCES; FULL.")
    private static void sheetOfAnotherKindOrFull() {
        refuses(HALF, NOT, "sheet", 0, 4, 4);
        refuses(HALF, NOT, "sheet", 0, 6, 4);
        refuses(HALF, NOT, "sheet", 0, 5, 0);
        refuses(HALF, NOT, "sheet", 0, 5, 31);
        refuses(HALF, NOT, "sheet", 1, 16, 65535);
        refuses(FULL_HOUSE, FULL, "sheet", 0, 16, 0);
        refuses(FULL_HOUSE, FULL, "sheet", 1, 16, 0);
    }

    @Says(promise = 25, value = "UNKNOWN answers -2; -3 OUTSIDE: v not -1 .. 8.")
    private static void tellOfNoCellOrOutside() {
        refuses(NEW, UNKNOWN, "tell", 0, 0, 0);
        refuses(CLEARED, UNKNOWN, "tell", 0, 0, 0);
        for (int sheet : beside(0, 1)) {
            refuses(HALF, UNKNOWN, "tell", sheet, 0, 0);
        }
        for (int cell : beside(0, HALF_LAST_CELL)) {
            refuses(HALF, UNKNOWN, "tell", 1, cell, 0);
        }
        for (int cell : beside(0, 63)) {
            refuses(FULL_HOUSE, UNKNOWN, "tell", 0, cell, 0);
        }
        for (int v : beside(-1, 8)) {
            refuses(HALF, OUTSIDE, "tell", 0, 0, v);
            refuses(FULL_HOUSE, OUTSIDE, "tell", 0, 63, v);
        }
    }

    @Says(promise = 26, value = "UNKNOWN.")
    private static void cellsOfNoSheet() {
        refuses(NEW, UNKNOWN, "cells", 0);
        refuses(CLEARED, UNKNOWN, "cells", 0);
        for (int sheet : beside(0, 1)) {
            refuses(HALF, UNKNOWN, "cells", sheet);
        }
        for (int sheet : beside(0, 2)) {
            refuses(FULL_HOUSE, UNKNOWN, "cells", sheet);
        }
    }

    @Says(promise = 28, value = "NOT: there is no SHEET.")
    private static void agreeingWithoutSheets() {
        refuses(NEW, NOT, "agreeing");
        refuses(CLEARED, NOT, "agreeing");
        refuses(FULL_CLEARED, NOT, "agreeing");
    }

    @Says(promise = 29, value = "NOT: there is no SHEET.")
    private static void leastWithoutSheets() {
        for (int i : new int[] {0, -1, 16, LEAST_INT, MOST_INT}) {
            refuses(NEW, NOT, "least", i);
            refuses(CLEARED, NOT, "least", i);
            refuses(FULL_CLEARED, NOT, "least", i);
        }
    }

    @Says(promise = 30, value = "UNKNOWN.")
    private static void blamedOfNoSheetOrNoCell() {
        refuses(NEW, UNKNOWN, "blamed", 0, -1);
        refuses(CLEARED, UNKNOWN, "blamed", 0, -1);
        for (int sheet : beside(0, 1)) {
            refuses(HALF, UNKNOWN, "blamed", sheet, -1);
            refuses(HALF, UNKNOWN, "blamed", sheet, 0);
        }
        for (int cell : beside(-1, HALF_LAST_CELL)) {
            refuses(HALF, UNKNOWN, "blamed", 1, cell);
        }
        for (int cell : beside(-1, 63)) {
            refuses(FULL_HOUSE, UNKNOWN, "blamed", 0, cell);
        }
    }

    // ---- promises 31 to 39

    @Says(promise = 31, value = "UNKNOWN; OUTSIDE.")
    private static void piperUnknownOrOutside() {
        for (int p : beside(0, 5)) {
            refusesAlways(UNKNOWN, "piper", p, 1, 2, 3, 4);
        }
        for (int reed : beside(-99, 99)) {
            refusesAlways(OUTSIDE, "piper", 0, reed, 2, 3, 4);
        }
        for (int rise : beside(0, 9)) {
            refusesAlways(OUTSIDE, "piper", 0, 1, rise, 3, 4);
        }
        for (int warm : beside(1, 60)) {
            refusesAlways(OUTSIDE, "piper", 0, 1, 2, warm, 4);
        }
        for (int comes : beside(0, 90)) {
            refusesAlways(OUTSIDE, "piper", 5, 1, 2, 3, comes);
        }
    }

    @Says(promise = 32, value = "OUTSIDE.")
    private static void dampOutside() {
        for (int v : beside(0, 5)) {
            refusesAlways(OUTSIDE, "damp", v);
        }
    }

    @Says(promise = 33, value = "The least int: UNKNOWN, OUTSIDE (also s above t, or before it COMES).")
    private static void pitchUnknownOrOutside() {
        for (int p : beside(0, 5)) {
            refusesAlways(LEAST_INT, "pitch", p, 100, 110);
        }
        for (int minute : beside(0, 150)) {
            refusesAlways(LEAST_INT, "pitch", 0, minute, 150);
            refusesAlways(LEAST_INT, "pitch", 0, 90, minute);
            refusesAlways(LEAST_INT, "pitch", 0, minute, minute);
        }
        refusesAlways(LEAST_INT, "pitch", 0, 101, 100);
        refusesAlways(LEAST_INT, "pitch", 0, 150, 0);
        refuses(HALF, LEAST_INT, "pitch", 3, 59, 100);
        refuses(HALF, LEAST_INT, "pitch", 3, 0, 150);
        refuses(FULL_HOUSE, LEAST_INT, "pitch", 5, 74, 75);
    }

    @Says(promise = 34, value = "OUTSIDE: set, t, what (0, 1); NOT: one COMES behind t")
    private static void bandOutsideOrNot() {
        for (int set : beside(1, 63)) {
            refusesAlways(OUTSIDE, "band", set, 100, 0);
        }
        for (int t : beside(0, 150)) {
            refusesAlways(OUTSIDE, "band", 63, t, 1);
        }
        for (int what : beside(0, 1)) {
            refusesAlways(OUTSIDE, "band", 63, 150, what);
        }
        for (int what = 0; what <= 1; what++) {
            refuses(HALF, NOT, "band", 8, 59, what);
            refuses(HALF, NOT, "band", 63, 0, what);
            refuses(FULL_HOUSE, NOT, "band", 63, 74, what);
        }
    }

    @Says(promise = 35, value = "UNKNOWN: PIPER; OUTSIDE, NOT as band().")
    private static void beginsUnknownOrAsBand() {
        for (int p : beside(0, 5)) {
            refusesAlways(UNKNOWN, "begins", 63, 150, p);
        }
        for (int set : beside(1, 63)) {
            refusesAlways(OUTSIDE, "begins", set, 100, 0);
        }
        for (int t : beside(0, 150)) {
            refusesAlways(OUTSIDE, "begins", 1, t, 0);
            refusesAlways(OUTSIDE, "begins", 1, t, 5);
        }
        refuses(HALF, NOT, "begins", 9, 59, 3);
        refuses(HALF, NOT, "begins", 9, 59, 0);
        refuses(HALF, NOT, "begins", 9, 59, 1);
        refuses(FULL_HOUSE, NOT, "begins", 63, 74, 0);
    }

    @Says(promise = 36, value = "UNKNOWN; OUTSIDE.")
    private static void toneUnknownOrOutside() {
        for (int note : beside(0, 8)) {
            refusesAlways(UNKNOWN, "tone", note, 1);
        }
        for (int v : beside(-300, 300)) {
            refusesAlways(OUTSIDE, "tone", 0, v);
            refusesAlways(OUTSIDE, "tone", 8, v);
        }
    }

    @Says(promise = 37, value = "OUTSIDE.")
    private static void harshOutside() {
        for (int v : beside(-999, 999)) {
            refusesAlways(OUTSIDE, "harsh", v, 0);
            refusesAlways(OUTSIDE, "harsh", 0, v);
        }
    }

    @Says(promise = 38, value = "The least int: OUTSIDE.")
    private static void setOutside() {
        for (int v : beside(-999, 999)) {
            refusesAlways(LEAST_INT, "set", v);
        }
    }

    @Says(promise = 39, value = "OUTSIDE.")
    private static void countOutside() {
        for (int v : beside(0, 4)) {
            refusesAlways(OUTSIDE, "count", v);
        }
    }
}
