import java.io.IOException;
import java.lang.reflect.InvocationTargetException;
import java.lang.reflect.Method;
import java.lang.reflect.Modifier;
import java.nio.file.Files;
import java.nio.file.Path;
import java.util.List;
import java.util.NoSuchElementException;
import java.util.function.Supplier;

/** Runs the tests of a class. Each begins with the promise and the sentence of the document that it is for, and what is not as due is told with both. */
final class Sheet {
    /** A call of the face; a boolean answers 1 or 0. */
    interface Call {
        long on(FirstComer x);
    }

    static final long THROWN = Long.MIN_VALUE;
    static final int[] NO_PARCELS = {-1, 12, 13, 15, 16, 31, 32, 43, 64, -12, -32, Integer.MIN_VALUE, Integer.MAX_VALUE};
    static final int[] NO_PEOPLE = {-1, 16, 17, 31, 32, 47, 64, -16, -32, Integer.MIN_VALUE, Integer.MAX_VALUE};
    static final int[] NO_TWELFTHS = {0, -1, 13, 24, -12, Integer.MIN_VALUE, Integer.MAX_VALUE};
    static final int[] NO_FORMS = {-1, 3, 4, 32, Integer.MIN_VALUE, Integer.MAX_VALUE};
    static final int[] NO_PRICES = {-1, 10000, -9999, Integer.MIN_VALUE, Integer.MAX_VALUE};
    static final int[] NO_EACH = {-1, 801, -800, 9999, Integer.MIN_VALUE, Integer.MAX_VALUE};

    private final Class<?> tests;
    private final String document;
    private int promise;
    private String sentence;
    private int passed;
    private int failed;

    Sheet(Class<?> tests) {
        this.tests = tests;
        document = read(Path.of(System.getProperty("document", "../shared/DOC.md")));
    }

    private static String read(Path file) {
        try {
            return plain(Files.readString(file));
        } catch (IOException e) {
            throw new IllegalStateException("no document at " + file, e);
        }
    }

    private static String plain(String text) {
        return text.replaceAll("\\s+", " ");
    }

    /** Runs all static methods without parameters that are not hidden. */
    void run() {
        for (Method test : tests.getDeclaredMethods()) {
            boolean hidden = Modifier.isPrivate(test.getModifiers()) || test.isSynthetic();
            if (!hidden && test.getParameterCount() == 0) {
                runOne(test);
            }
        }
        System.out.println(tests.getSimpleName() + ": " + passed + " passed, " + failed + " failed");
        if (failed > 0) {
            System.exit(1);
        }
    }

    private void runOne(Method test) {
        promise = 0;
        sentence = test.getName();
        try {
            test.invoke(null);
        } catch (InvocationTargetException | IllegalAccessException e) {
            wrong("it ended with " + (e.getCause() == null ? e : e.getCause()));
        }
        if (promise == 0) {
            wrong("no sentence is told");
        }
    }

    /** What comes from here on is for this sentence, which must stand in the document word by word. */
    void sentence(int ofPromise, String words) {
        promise = ofPromise;
        sentence = words;
        if (!document.contains(plain(words))) {
            wrong("the document has no such sentence");
        }
    }

    private void wrong(String what) {
        failed++;
        System.out.println(tests.getSimpleName() + ", promise " + promise + ", \"" + sentence + "\": " + what);
    }

    void due(String what, long got, long want) {
        if (got == want) {
            passed++;
        } else {
            wrong(what + " answered " + told(got) + ", due is " + told(want));
        }
    }

    private static String told(long answer) {
        return answer == THROWN ? "with NoSuchElementException" : Long.toString(answer);
    }

    void yes(String what, boolean got) {
        due(what, bit(got), 1);
    }

    void no(String what, boolean got) {
        due(what, bit(got), 0);
    }

    /** The answers to a row of questions 0, 1, 2 .. */
    void row(String what, java.util.function.IntToLongFunction question, long... want) {
        for (int i = 0; i < want.length; i++) {
            due(what + " " + i, question.applyAsLong(i), want[i]);
        }
    }

    void lawIs(String text, int kind, int place) {
        due("law() of <" + text + ">", Told.law(new FirstComer(), text), kind + 16L * place);
    }

    static long bit(boolean yes) {
        return yes ? 1 : 0;
    }

    static long look(FirstComer x, int passing, int what) {
        try {
            return x.look(passing, what);
        } catch (NoSuchElementException e) {
            return THROWN;
        }
    }

    /** A call in the midst of things that is refused: it answers so, and all else is as if it had not been. */
    void refused(String call, long want, Call made) {
        refused(Midst::village, call, want, made);
    }

    void refused(Supplier<FirstComer> village, String call, long want, Call made) {
        FirstComer x = village.get();
        due(call, made.on(x), want);
        List<String> after = Midst.view(x);
        List<String> without = Midst.view(village.get());
        for (int i = 0; i < without.size() || i < after.size(); i++) {
            String is = i < after.size() ? after.get(i) : "nothing";
            String was = i < without.size() ? without.get(i) : "nothing";
            if (!is.equals(was)) {
                wrong(call + " changed something: " + is + " instead of " + was);
                return;
            }
        }
        passed++;
    }
}
