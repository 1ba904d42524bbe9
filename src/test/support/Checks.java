import java.io.IOException;
import java.nio.file.Files;
import java.nio.file.Path;

/**
 * What the hand-made tests share. A test names the sentence of the document that it is about, by the
 * document's own words, and then its checks; what is not as due is printed and counted.
 */
abstract class Checks {
    static final int NONE = FloorEyes.NONE;
    static final int LEAST = Integer.MIN_VALUE;
    static final int GREATEST = Integer.MAX_VALUE;
    private static int wrong = 0;
    private static String part = "";
    private static String document = "";

    interface Call {
        void run();
    }

    /** The document, as the second argument of a test names it, against which the quoted words are held. */
    static void readDocument(String[] args) {
        if (args.length < 2 || !Files.isRegularFile(Path.of(args[1]))) {
            System.out.println("the document is not here: its words are not compared");
            return;
        }
        try {
            document = Files.readString(Path.of(args[1]));
        } catch (IOException e) {
            fault("the document cannot be read: " + e);
        }
    }

    static void part(String name) {
        part = name;
    }

    static void sentence(String words) {
        part = words;
        if (!document.isEmpty() && !document.contains(words)) {
            fault("the document does not say this");
        }
    }

    static void due(String what, long got, long want) {
        if (got != want) {
            fault(what + " answered " + got + ", due is " + want);
        }
    }

    static void due(String what, boolean got, boolean want) {
        due(what, got ? 1 : 0, want ? 1 : 0);
    }

    static void dueText(String what, String got, String want) {
        if (!got.equals(want)) {
            fault(what + " answered " + got + ", due is " + want);
        }
    }

    /** The very class is asked for: a class below it would come from the machine. */
    static void dueThrow(String what, Class<? extends RuntimeException> want, Call call) {
        String got = "nothing";
        try {
            call.run();
        } catch (RuntimeException e) {
            got = e.getClass().getName();
        }
        if (!got.equals(want.getName())) {
            fault(what + " threw " + got + ", due is " + want.getName());
        }
    }

    static void dueIndex(String what, Call call) {
        dueThrow(what, IndexOutOfBoundsException.class, call);
    }

    static void dueArgument(String what, Call call) {
        dueThrow(what, IllegalArgumentException.class, call);
    }

    static void dueFull(String what, Call call) {
        dueThrow(what, UnsupportedOperationException.class, call);
    }

    static int cell(int x, int y) {
        return 16 * y + x;
    }

    static void end(String whenFine) {
        System.out.println(wrong == 0 ? whenFine : wrong + " answers are not as due");
        if (wrong != 0) {
            System.exit(1);
        }
    }

    private static void fault(String what) {
        wrong++;
        System.out.println(part.strip() + ": " + what);
    }
}
