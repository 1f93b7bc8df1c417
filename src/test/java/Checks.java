import java.nio.charset.StandardCharsets;

/** Counts the answers that are due and those that are not; a test program ends by its verdict. */
final class Checks {
    private static final int MOST_PRINTED = 3;

    private final String name;
    private String sentence = "";
    private int printed;
    private int passed;
    private int failed;

    Checks(String name) {
        this.name = name;
    }

    /** What the checks that follow hold to; a few wrong answers of each sentence are printed. */
    void sentence(String promise, String words) {
        sentence = " [" + promise + ": " + words + "]";
        printed = 0;
    }

    void due(String call, long got, long want) {
        if (got == want) {
            passed++;
            return;
        }
        failed++;
        printed++;
        if (printed <= MOST_PRINTED || sentence.isEmpty() && printed <= 20) {
            System.out.println(name + sentence + ": " + call + " answered " + got + ", due is " + want);
        }
    }

    boolean allAsDue() {
        return failed == 0;
    }

    void end() {
        System.out.println(name + ": " + passed + " passed, " + failed + " failed");
        if (failed != 0) {
            System.exit(1);
        }
    }

    /** The characters of a short text as the number that put takes. */
    static long number(String characters) {
        long number = 0;
        for (byte code : characters.getBytes(StandardCharsets.ISO_8859_1)) {
            number = number << 8 | code & 255;
        }
        return number;
    }

    /** Puts a text of any length into the pad; answers what the last put answered. */
    static int write(TurnSlots machine, String text) {
        int answer = 0;
        for (int from = 0; from < text.length(); from += 8) {
            answer = machine.put(number(text.substring(from, Math.min(text.length(), from + 8))));
        }
        return answer;
    }

    /** Gives a context a program by its text. */
    static int give(TurnSlots machine, String text) {
        machine.wipe();
        write(machine, text);
        return machine.read();
    }

    /** A machine whose contexts have these programs. */
    static TurnSlots machine(String... texts) {
        TurnSlots machine = new TurnSlots();
        for (String text : texts) {
            give(machine, text);
        }
        return machine;
    }
}
