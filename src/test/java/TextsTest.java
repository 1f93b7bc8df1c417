/** Promises 17 to 19: put, wipe, fault. */
public final class TextsTest {
    private static final Checks CHECKS = new Checks("TextsTest");

    public static void main(String[] args) {
        putErrors();
        putOrder();
        putTooMany();
        wipe();
        faultsOfTexts();
        goodTexts();
        numbers();
        sixteenCommands();
        eachCharacter();
        CHECKS.end();
    }

    private static void due(String call, long got, long want) {
        CHECKS.due(call, got, want);
    }

    private static void putErrors() {
        TurnSlots x = new TurnSlots();
        long[] bad = {0, 32, 127, 128, 255, -1, Long.MIN_VALUE, Long.MAX_VALUE, 0x100, 0x4100, 0x410041, 0x4141004141L,
            0x4100000000000041L, 0x2041, 0x4120, 0x7F41L, 0x417FL, 0x4141414141414120L, 0x2041414141414141L, 0x8041414141414141L,
            0x4100000041L, 0xFF41L};
        for (long number : bad) {
            due("17 put " + Long.toHexString(number), x.put(number), TurnSlots.BAD_VALUE);
        }
        due("17 errors change nothing", x.count(8), 0);
        due("17 code 33", x.put(33), 1);
        due("17 code 126", x.put(126), 2);
        due("17 eight", x.put(0x7E21414141414121L), 10);
        due("17 no change", x.count(9), 0);
    }

    private static void putOrder() {
        TurnSlots x = new TurnSlots();
        due("17 '2'", x.put('2'), 1);
        due("17 ':a'", x.put(':' << 8 | 'a'), 3);
        due("17 '7,s1,t'", x.put(Checks.number("7,s1,t")), 9);
        due("19 good", x.fault(), TurnSlots.NONE);
        due("3 read", x.read(), 2);
        due("10 first", x.command(2, 0, 1), 7);
        due("10 second", x.command(2, 1, 0), TurnSlots.SEND);
        due("10 third", x.command(2, 2, 0), TurnSlots.TAKE);
    }

    private static void putTooMany() {
        TurnSlots x = new TurnSlots();
        for (int i = 1; i <= 9; i++) {
            due("17 put", x.put(Checks.number("abcdefgh")), 8 * i);
        }
        due("17 the 73rd", x.put('a'), TurnSlots.TOO_MANY);
        due("17 bad before too many", x.put(0), TurnSlots.BAD_VALUE);
        due("17 it stays", x.count(8), 72);
        due("18 wipe", x.wipe(), 72);
        for (int i = 0; i < 8; i++) {
            x.put(Checks.number("abcdefgh"));
        }
        due("17 71", x.put(Checks.number("abcdefg")), 71);
        due("17 two more", x.put(Checks.number("ab")), TurnSlots.TOO_MANY);
        due("17 it stays", x.count(8), 71);
        due("17 one more", x.put('a'), 72);
    }

    private static void wipe() {
        TurnSlots x = new TurnSlots();
        due("18 an empty pad", x.wipe(), 0);
        Checks.write(x, "0:a1");
        due("18 wipe", x.wipe(), 4);
        due("18 empty then", x.count(8), 0);
        due("18 twice", x.wipe(), 0);
        due("18 no change", x.count(9), 0);
        due("19 of the empty pad", x.fault(), 0);
        due("17 anew", Checks.write(x, "1:"), 2);
        due("19 good", x.fault(), TurnSlots.NONE);
    }

    private static int fault(String text) {
        TurnSlots x = new TurnSlots();
        Checks.write(x, text);
        int fault = x.fault();
        due("19 asking is no change", x.count(9), 0);
        due("19 the pad stays", x.count(8), text.length());
        due("3 read if there is none", x.read() >= 0 ? 1 : 0, fault == TurnSlots.NONE ? 1 : 0);
        return fault;
    }

    private static void faultsOfTexts() {
        String[] texts = {"", "8", "9:", "a", ":", "0", "0;", "00:", "0::", "0:,", "0:A1", "0:a", "0:as", "0:a1,", "0:a1,,", "0:a1;",
            "0:a1a2", "0:t1", "0:t,", "0:tt", "0:s8", "0:s9", "0:s", "0:s11", "0:l4", "0:l", "0:f4", "0:f33", "0:w", "0:b", "0:b0", "0:b16",
            "0:b20", "0:b99", "0:b100", "0:b151", "0:a00", "0:a01", "0:a100", "0:w100", "0:w00", "0:a99,w990", "0:a1:", "7:x", "0:1", "0:a-1",
            "0:s07", "0:l01", "0:c1", "0:b1,b"};
        int[] faults = {0, 0, 0, 0, 0, 1, 1, 1, 2, 2, 2, 3, 3, 5, 5, 4,
            4, 3, 4, 3, 3, 3, 3, 4, 3, 3, 3, 4, 3, 3, 3, 4,
            4, 4, 5, 5, 4, 4, 5, 5, 4, 9, 4, 2, 2, 3,
            4, 4, 2, 6};
        for (int i = 0; i < texts.length; i++) {
            due("19 fault of " + texts[i], fault(texts[i]), faults[i]);
        }
    }

    private static void goodTexts() {
        String[] texts = {"0:", "7:", "0:t", "0:a0", "0:a9", "0:a10", "0:a99", "0:w0", "0:w99", "0:b1", "0:b9", "0:b10", "0:b15", "0:s0", "0:s7",
            "0:l0", "0:l3", "0:f0", "0:f3", "3:a1,s1,t,l1,f1,w1,b1"};
        for (String text : texts) {
            due("19 fault of " + text, fault(text), TurnSlots.NONE);
        }
    }

    private static void numbers() {
        String[] letters = {"a", "s", "l", "f", "w", "b"};
        int[] least = {0, 0, 0, 0, 0, 1};
        int[] greatest = {99, 7, 3, 3, 99, 15};
        for (int i = 0; i < letters.length; i++) {
            for (int number = 0; number < 130; number++) {
                boolean good = number >= least[i] && number <= greatest[i];
                String text = "5:" + letters[i] + number;
                int fault = fault(text);
                due("19 " + text, fault == TurnSlots.NONE ? 1 : 0, good ? 1 : 0);
                if (good) {
                    TurnSlots x = Checks.machine(text);
                    due("3 n of " + text, x.command(5, 0, 1), number);
                } else {
                    int first = Integer.parseInt(String.valueOf(number).substring(0, 1));
                    boolean firstStands = first >= least[i] && first <= greatest[i];
                    boolean two = number > 99 && Integer.parseInt(String.valueOf(number).substring(0, 2)) <= greatest[i];
                    due("19 fault of " + text, fault, !firstStands ? 3 : two ? 5 : 4);
                }
            }
        }
    }

    private static void sixteenCommands() {
        StringBuilder text = new StringBuilder("6:w99");
        for (int i = 1; i < 16; i++) {
            text.append(",b15");
        }
        due("19 sixteen", fault(text.toString()), TurnSlots.NONE);
        due("19 a comma behind the 16th", fault(text + ","), text.length());
        due("19 a 17th", fault(text + ",t"), text.length());
        due("19 another character", fault(text + "!"), text.length());
        due("19 a digit", fault(text + "0"), text.length());
        TurnSlots x = Checks.machine(text.toString());
        due("3 sixteen", x.of(6, 0), 16);
        due("3 the last one", x.command(6, 15, 1), 15);
    }

    /** Each character at each place where little can stand. */
    private static void eachCharacter() {
        for (char character = 33; character < 127; character++) {
            boolean isContext = character >= '0' && character <= '7';
            due("19 first " + character, fault(String.valueOf(character)), isContext ? 1 : 0);
            due("19 second " + character, fault("1" + character), character == ':' ? TurnSlots.NONE : 1);
            boolean isLetter = "aslfwb".indexOf(character) >= 0;
            due("19 letter " + character, fault("1:" + character), character == 't' ? TurnSlots.NONE : isLetter ? 3 : 2);
            due("19 behind " + character, fault("1:t" + character), character == ',' ? 4 : 3);
        }
    }
}
