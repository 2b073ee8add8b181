import java.io.IOException;
import java.lang.reflect.Method;
import java.lang.reflect.Modifier;
import java.nio.file.Files;
import java.nio.file.Path;
import java.util.Arrays;
import java.util.Comparator;
import java.util.NoSuchElementException;

/** What the tests by hand share. They count the answers that are not as due. */
abstract class Checks {
    static final int NONE = CarrierNet.NONE;
    static final int THROWN = -1000;
    static final int LOW = Integer.MIN_VALUE;
    static final int HIGH = Integer.MAX_VALUE;
    static final int EVERY_DAY = 127;

    /** Makes a net what it is before the call that is tested. */
    interface Story {
        void tell(CarrierNet x);
    }

    private static final String RAW = document();
    private static final String DOCUMENT = RAW.replaceAll("\\s+", " ");
    private static String sentence = "";
    private static int wrong = 0;

    private static String document() {
        try {
            return Files.readString(Path.of("../shared/DOC.md"));
        } catch (IOException e) {
            throw new IllegalStateException("the tests are run in the project's directory, beside ../shared", e);
        }
    }

    /** The document's lines from one heading to another. */
    static String section(String from, String to) {
        int begin = RAW.indexOf(from);
        int end = RAW.indexOf(to);
        if (begin < 0 || end < begin) {
            throw new IllegalStateException("the document has no section from " + from + " to " + to);
        }
        return RAW.substring(begin, end);
    }

    /** What follows tests this sentence; a sentence that the document no longer has must be read again. */
    static void doc(String quoted) {
        sentence = quoted;
        if (!DOCUMENT.contains(quoted)) {
            fault("is not in the document");
        }
    }

    static void fault(String what) {
        wrong++;
        System.out.println((sentence.isEmpty() ? "" : "\"" + sentence + "\": ") + what);
    }

    static void due(String what, long want, long got) {
        if (want != got) {
            fault(what + ": answered " + got + ", due is " + want);
        }
    }

    static void yes(String what, boolean got) {
        due(what, 1, got ? 1 : 0);
    }

    static void no(String what, boolean got) {
        due(what, 0, got ? 1 : 0);
    }

    static int told(CarrierNet x, int parcel, int what) {
        try {
            return x.told(parcel, what);
        } catch (NoSuchElementException e) {
            return THROWN;
        }
    }

    /** A parcel's answers 2 to 7 in one. */
    static void state(CarrierNet x, int parcel, int... want) {
        for (int i = 0; i < want.length; i++) {
            due("told(" + parcel + ", " + (i + 2) + ")", want[i], told(x, parcel, i + 2));
        }
    }

    static void waits(CarrierNet x, int parcel, int place, int rides) {
        state(x, parcel, place, NONE, NONE, NONE, NONE, rides);
    }

    /** A cart with stops at places and offsets, in pairs behind the first place. */
    static int line(CarrierNet x, int[] terms, int place, int... stops) {
        int cart = x.cart(terms[0], terms[1], terms[2], terms[3], place);
        for (int i = 0; i + 1 < stops.length; i += 2) {
            due("stop of a line", i / 2 + 2, x.stop(cart, stops[i], stops[i + 1]));
        }
        return cart;
    }

    static int[] terms(int weekdays, int hour, int room, int fare) {
        return new int[] {weekdays, hour, room, fare};
    }

    static CarrierNet after(Story story) {
        CarrierNet x = new CarrierNet();
        story.tell(x);
        return x;
    }

    /** The call answers as told and changes nothing. */
    static void refused(String what, int answer, Story story, String name, int... arguments) {
        due(what + ", " + Twins.written(name, arguments), answer, Twins.ask(after(story), name, arguments));
        String difference = Twins.difference(story, name, arguments);
        if (difference != null) {
            fault(what + ", " + Twins.written(name, arguments) + " was refused but changed something: " + difference);
        }
    }

    private static boolean isTest(Method m) {
        return Modifier.isStatic(m.getModifiers()) && m.getParameterCount() == 0 && m.getReturnType() == void.class
            && !m.isSynthetic();
    }

    /** Runs every static method of a class that takes and answers nothing, so that none can be forgotten. */
    static void all(Class<?> tests) throws ReflectiveOperationException {
        Method[] methods = tests.getDeclaredMethods();
        Arrays.sort(methods, Comparator.comparing(Method::getName));
        int run = 0;
        for (Method m : methods) {
            if (isTest(m)) {
                sentence = "";
                m.setAccessible(true);
                m.invoke(null);
                run++;
            }
        }
        System.out.println(tests.getSimpleName() + ": " + run + " tests, " + wrong + " answers are not as due");
        if (wrong != 0 || run == 0) {
            System.exit(1);
        }
    }
}
