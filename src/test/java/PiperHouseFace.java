import java.lang.reflect.Constructor;
import java.lang.reflect.Field;
import java.lang.reflect.Method;
import java.lang.reflect.Modifier;
import java.nio.file.Files;
import java.nio.file.Path;
import java.util.Map;
import java.util.Set;
import java.util.TreeMap;
import java.util.TreeSet;
import java.util.regex.Matcher;
import java.util.regex.Pattern;

/** The class's face is the document's, and its text keeps to rules of LANGUAGE.md that can be seen. */
public final class PiperHouseFace {
    private static int wrong = 0;

    private static final Map<String, Integer> FACE = new TreeMap<>();

    static {
        String face = "movement 3 may 3 beat 1 fits 3 step 3 put 2 back 0 wrong 0 fillings 0 quickest 1 graces 0"
                + " region 4 sung 2 syllable 1 hush 0 read 1 first 2 home 0 rule 3 note 1 silence 0 varied 3"
                + " sheet 3 tell 3 cells 1 clear 0 agreeing 0 least 1 blamed 2 piper 5 damp 1 pitch 3 band 3"
                + " begins 3 tone 2 harsh 2 set 1 count 1";
        String[] words = face.split(" ");
        for (int i = 0; i < words.length; i += 2) {
            FACE.put(words[i], Integer.valueOf(words[i + 1]));
        }
    }

    private static void check(String what, boolean holds) {
        if (!holds) {
            wrong++;
            System.out.println("not as due: " + what);
        }
    }

    public static void main(String[] args) throws Exception {
        constants();
        methods();
        nestedClasses();
        text();
        System.out.println(wrong == 0 ? "the face is as due" : wrong + " things are not as due");
        if (wrong != 0) {
            System.exit(1);
        }
    }

    private static void constants() {
        check("NONE", PiperHouse.NONE == -1);
        check("UNKNOWN", PiperHouse.UNKNOWN == -2);
        check("OUTSIDE", PiperHouse.OUTSIDE == -3);
        check("NOT", PiperHouse.NOT == -4);
        check("FULL", PiperHouse.FULL == -5);
        check("MANY", PiperHouse.MANY == 1000001);
        Set<String> open = new TreeSet<>();
        for (Field f : PiperHouse.class.getDeclaredFields()) {
            if (!Modifier.isPrivate(f.getModifiers())) {
                open.add(f.getName());
            }
            check("static " + f.getName() + " is final",
                    !Modifier.isStatic(f.getModifiers()) || Modifier.isFinal(f.getModifiers()));
        }
        check("open fields " + open, open.equals(Set.of("NONE", "UNKNOWN", "OUTSIDE", "NOT", "FULL", "MANY")));
    }

    private static void methods() {
        check("public final", Modifier.isPublic(PiperHouse.class.getModifiers())
                && Modifier.isFinal(PiperHouse.class.getModifiers()));
        Constructor<?>[] made = PiperHouse.class.getDeclaredConstructors();
        check("one public constructor", made.length == 1 && Modifier.isPublic(made[0].getModifiers())
                && made[0].getParameterCount() == 0);
        Set<String> seen = new TreeSet<>();
        for (Method m : PiperHouse.class.getDeclaredMethods()) {
            if (Modifier.isPrivate(m.getModifiers())) {
                check("private " + m.getName() + " bears a public name", !FACE.containsKey(m.getName()));
                continue;
            }
            Integer takes = FACE.get(m.getName());
            check(m.getName() + " is of the face", takes != null && takes == m.getParameterCount()
                    && Modifier.isPublic(m.getModifiers()) && !Modifier.isStatic(m.getModifiers())
                    && m.getReturnType() == int.class && seen.add(m.getName()));
        }
        check("all methods are there", seen.equals(FACE.keySet()));
    }

    private static void nestedClasses() {
        Class<?>[] inside = PiperHouse.class.getDeclaredClasses();
        check("at most twelve classes", inside.length < 12);
        for (Class<?> c : inside) {
            check(c.getName() + " is static", Modifier.isStatic(c.getModifiers()));
            check(c.getName() + " is not public", !Modifier.isPublic(c.getModifiers())
                    && !Modifier.isProtected(c.getModifiers()));
            check(c.getName() + " has some twenty fields", c.getDeclaredFields().length <= 20);
            for (Method m : c.getDeclaredMethods()) {
                check(c.getName() + "." + m.getName() + " bears a public name", !FACE.containsKey(m.getName()));
                check(c.getName() + "." + m.getName() + " takes at most seven", m.getParameterCount() <= 7);
            }
            for (Field f : c.getDeclaredFields()) {
                check(c.getName() + "." + f.getName() + " is no static state", !Modifier.isStatic(f.getModifiers()));
            }
        }
    }

    private static void text() throws Exception {
        String text = Files.readString(Path.of("src/main/java/PiperHouse.java"));
        text = text.replaceAll("(?s)/\\*.*?\\*/", "").replaceAll("//[^\n]*", "");
        for (String word : new String[] {"throw", "throws", "try", "catch", "finally", "synchronized", "assert",
            "package", "protected", "Exception", "Error", "double", "float", "Object", "BigInteger"}) {
            check("the text has " + word, !Pattern.compile("\\b" + word + "\\b").matcher(text).find());
        }
        check("the text has a lambda or a method reference", !text.contains("->") && !text.contains("::"));
        Matcher imports = Pattern.compile("import ([^;]*);").matcher(text);
        while (imports.find()) {
            check("import " + imports.group(1), Set.of("java.util.Arrays").contains(imports.group(1)));
        }
        Matcher library = Pattern.compile("\\b(Arrays|System|Math|Integer)\\.(\\w+)").matcher(text);
        Set<String> allowed = Set.of("Arrays.fill", "System.arraycopy", "Math.min", "Math.max", "Math.abs",
                "Integer.bitCount");
        while (library.find()) {
            check("library " + library.group(), allowed.contains(library.group()));
        }
    }
}
