/** The edges of "Texts" and of the promises 17 to 19. */
public final class TextEdgesTest extends Edges {
    private static final String TEXTS = "Texts";
    private static final String LETTERS = "astlfwb";

    public static void main(String[] args) {
        begin("TextEdgesTest");
        seventyTwoCharacters();
        contextThenColon();
        noCommandOrMore();
        lettersOfCommands();
        contextsAndLocks();
        numbersWithoutLeadingZeros();
        numbersBehindB();
        sixteenCommands();
        firstThatCannotStand();
        digitsTooMany();
        endsTooEarly();
        everyPrefix();
        putOrder();
        putOneToEight();
        putOfNoCharacter();
        putOfCodes();
        putOfGaps();
        putTooMany();
        wipe();
        faultOfThePad();
        checks.end();
    }

    private static int fault(String text) {
        TurnSlots x = new TurnSlots();
        Checks.write(x, text);
        int fault = x.fault();
        due("read of " + text, x.read() >= 0 ? 1 : 0, fault == NONE ? 1 : 0);
        return fault;
    }

    private static void dueFault(String text, int want) {
        due("fault of " + text, fault(text), want);
    }

    private static String repeated(String part, int times) {
        StringBuilder text = new StringBuilder();
        for (int i = 0; i < times; i++) {
            text.append(i == 0 ? "" : ",").append(part);
        }
        return text.toString();
    }

    private static void seventyTwoCharacters() {
        sentence(TEXTS, "The pad is a text of at most 72 characters");
        TurnSlots x = new TurnSlots();
        for (int i = 1; i <= 9; i++) {
            due("put of eight", x.put(Checks.number("01234567")), 8 * i);
        }
        due("a 73rd", x.put('0'), TOO_MANY);
        due("length", x.count(8), 72);
        due("the second cannot stand", x.fault(), 1);
        x.wipe();
        String longest = "0:" + repeated("a10", 16) + "!!!!!!!";
        due("put of 72", Checks.write(x, longest), 72);
        due("fault behind the longest program", x.fault(), 65);
        due("a 73rd", x.put('!'), TOO_MANY);
        x.wipe();
        due("put of the longest program", Checks.write(x, "0:" + repeated("a10", 16)), 65);
        due("no fault", x.fault(), NONE);
    }

    private static void contextThenColon() {
        sentence(TEXTS, "text = context \":\" [ command { \",\" command } ]");
        for (char character = 33; character <= 126; character++) {
            dueFault("" + character, character >= '0' && character <= '7' ? 1 : 0);
            dueFault("7" + character, character == ':' ? NONE : 1);
            dueFault(character + ":", character >= '0' && character <= '7' ? NONE : 0);
            dueFault("0:t" + character, character == ',' ? 4 : 3);
            dueFault("0:t" + character + "t", character == ',' ? NONE : 3);
        }
    }

    private static void noCommandOrMore() {
        sentence(TEXTS, "text = context \":\" [ command { \",\" command } ]");
        for (int context = 0; context < 8; context++) {
            dueFault(context + ":", NONE);
            due("read of no commands", machine(context + ":").of(context, 0), 0);
            due("read of one", machine(context + ":t").of(context, 0), 1);
            due("read of two", machine(context + ":t,t").of(context, 0), 2);
        }
        dueFault("0:,", 2);
        dueFault("0:,t", 2);
        dueFault("0:t,,t", 4);
        dueFault("0:t,", 4);
        dueFault("0::", 2);
        dueFault("00:", 1);
    }

    private static void lettersOfCommands() {
        sentence(TEXTS, "command = \"a\" number | \"s\" context | \"t\" | \"l\" lock | \"f\" lock | \"w\" number | \"b\" number");
        for (char character = 33; character <= 126; character++) {
            int kind = LETTERS.indexOf(character);
            dueFault("0:" + character, kind == TAKE ? NONE : kind < 0 ? 2 : 3);
            dueFault("0:" + character + "1", kind == TAKE ? 3 : kind < 0 ? 2 : NONE);
            dueFault("0:t," + character + "1", kind == TAKE ? 5 : kind < 0 ? 4 : NONE);
            boolean digit = character >= '0' && character <= '9';
            dueFault("0:a" + character, digit ? NONE : 3);
            dueFault("0:w1" + character, digit ? NONE : character == ',' ? 5 : 4);
            dueFault("0:s" + character, character >= '0' && character <= '7' ? NONE : 3);
            dueFault("0:l" + character, character >= '0' && character <= '3' ? NONE : 3);
            dueFault("0:f" + character, character >= '0' && character <= '3' ? NONE : 3);
            dueFault("0:b" + character, digit && character != '0' ? NONE : 3);
        }
        sentence(TEXTS, "They stand for ADD, SEND, TAKE, LOCK, FREE, WAIT, BACK.");
        TurnSlots x = machine("0:a3,s3,t,l3,f3,w3,b3");
        for (int kind = 0; kind < 7; kind++) {
            due("command " + kind, x.command(0, kind, 0), kind);
            due("its n", x.command(0, kind, 1), kind == TAKE ? 0 : 3);
        }
        Checks.give(x, "1:t,t");
        due("n of a TAKE where an ADD was read before", x.command(1, 0, 1), 0);
        due("n of a TAKE where a SEND was read before", x.command(1, 1, 1), 0);
    }

    private static void contextsAndLocks() {
        sentence(TEXTS, "A context is a digit from 0 to 7, a lock one from 0 to 3");
        for (int digit = 0; digit <= 9; digit++) {
            dueFault(digit + ":", digit <= 7 ? NONE : 0);
            dueFault("0:s" + digit, digit <= 7 ? NONE : 3);
            dueFault("0:l" + digit, digit <= 3 ? NONE : 3);
            dueFault("0:f" + digit, digit <= 3 ? NONE : 3);
            dueFault("0:s1" + digit, 4);
            dueFault("0:s0" + digit, 4);
            dueFault("0:l1" + digit, 4);
            dueFault("0:f0" + digit, 4);
        }
    }

    private static void numbersWithoutLeadingZeros() {
        sentence(TEXTS, "a number is 0 to 99 without leading zeros");
        for (int number = 0; number <= 99; number++) {
            TurnSlots x = machine("1:a" + number + ",w" + number);
            due("n of a" + number, x.command(1, 0, 1), number);
            due("n of w" + number, x.command(1, 1, 1), number);
        }
        for (int digit = 0; digit <= 9; digit++) {
            dueFault("1:a0" + digit, 4);
            dueFault("1:w0" + digit, 4);
        }
        dueFault("1:a", 3);
        dueFault("1:a-1", 3);
        dueFault("1:a+1", 3);
        dueFault("1:a1.", 4);
    }

    private static void numbersBehindB() {
        sentence(TEXTS, "behind \"b\" 1 to 15");
        for (int number = 1; number <= 15; number++) {
            due("n of b" + number, machine("1:b" + number).command(1, 0, 1), number);
        }
        dueFault("1:b0", 3);
        dueFault("1:b00", 3);
        dueFault("1:b01", 3);
        for (int number = 16; number <= 99; number++) {
            dueFault("1:b" + number, 4);
        }
        dueFault("1:b100", 5);
        dueFault("1:b150", 5);
        dueFault("1:b160", 4);
        dueFault("1:b", 3);
    }

    private static void sixteenCommands() {
        sentence(TEXTS, "There are at most 16 commands.");
        for (String part : new String[] {"t", "a9", "b15", "w99", "s7"}) {
            String sixteen = "6:" + repeated(part, 16);
            TurnSlots x = machine(sixteen);
            due("commands of " + sixteen, x.of(6, 0), 16);
            dueFault("6:" + repeated(part, 15) + ",", 2 + 15 * (part.length() + 1));
            sentence(TEXTS, "a \",\" behind the 16th command");
            dueFault(sixteen + ",", sixteen.length());
            dueFault(sixteen + "," + part, sixteen.length());
            dueFault(sixteen + "!", sixteen.length());
        }
        dueFault("6:" + repeated("a9", 16) + "9", NONE);
        dueFault("6:" + repeated("a9", 16) + "99", 50);
        dueFault("6:" + repeated("t", 15) + ",a", 33);
    }

    private static void firstThatCannotStand() {
        sentence(TEXTS, "The fault is the index of the first character that cannot stand at its place when the text is read from left to right");
        String[] texts = {"x", "8:a1", "0;8:", "0:x,x", "0:a1;t", "0:a1,x", "0:a1,t1", "0:a1,s8,l9", "0:s7,l4,x", "0:a1,,", "0:t,l3,f3,w5,b0",
            "0:A1", "0:T", "0:a1,t:", "9", ":", ",", "a1", "0:c1", "0:a1a1", "0:tt"};
        int[] faults = {0, 0, 1, 2, 4, 5, 6, 6, 6, 5, 14,
            2, 2, 6, 0, 0, 0, 0, 2, 4, 3};
        for (int i = 0; i < texts.length; i++) {
            dueFault(texts[i], faults[i]);
        }
    }

    private static void digitsTooMany() {
        sentence(TEXTS, "also of a digit by which a number would be too great");
        dueFault("0:a100", 5);
        dueFault("0:a999", 5);
        dueFault("0:w990", 5);
        dueFault("0:w100,x", 5);
        dueFault("0:b16", 4);
        dueFault("0:b20", 4);
        dueFault("0:b99", 4);
        dueFault("0:b151", 5);
        dueFault("0:t,a99,w100", 11);
        dueFault("0:s8", 3);
        dueFault("0:s10", 4);
        dueFault("0:l4", 3);
        dueFault("0:f30", 4);
    }

    private static void endsTooEarly() {
        sentence(TEXTS, "if there is none and the text ends too early (also if it is empty), it is the length of the text");
        due("fault of a new object", new TurnSlots().fault(), 0);
        for (String text : new String[] {"", "0", "7", "0:a", "0:s", "0:l", "0:f", "0:w", "0:b", "0:t,", "0:a1,", "0:a1,w", "3:t,t,t,t,t,t,t,t,t,t,t,t,t,t,t,"}) {
            dueFault(text, text.length());
        }
        TurnSlots x = machine("0:t");
        due("behind a read", x.fault(), 0);
        x.put('0');
        x.wipe();
        due("behind a wipe", x.fault(), 0);
    }

    /** A good text ends too early behind ":" or "," and letters alone. */
    private static void everyPrefix() {
        sentence(TEXTS, "if there is none and the text ends too early (also if it is empty), it is the length of the text");
        String text = "5:a10,s7,t,l3,f0,w99,b15,a0,w0,b1,t";
        for (int length = 0; length <= text.length(); length++) {
            String prefix = text.substring(0, length);
            char last = length == 0 ? ',' : prefix.charAt(length - 1);
            boolean early = length < 2 || last == ',' || "aslfwb".indexOf(last) >= 0;
            dueFault(prefix, early ? length : NONE);
            dueFault(prefix + "~", length);
        }
    }

    private static void putOrder() {
        sentence("Promise 17", "its lowest 8 bits are the last character, the next 8 bits the one before, and so on");
        TurnSlots x = new TurnSlots();
        due("'2' and ':'", x.put('2' << 8 | ':'), 2);
        due("behind the two", x.put((long) 'a' << 16 | '4' << 8 | '2'), 5);
        due("eight at once", x.put(Checks.number(",s1,w10,")), 13);
        due("one", x.put('t'), 14);
        due("good", x.fault(), NONE);
        due("read", x.read(), 2);
        due("a42", x.command(2, 0, 1), 42);
        due("s1", x.command(2, 1, 1), 1);
        due("w10", x.command(2, 2, 1), 10);
        due("t", x.command(2, 3, 0), TAKE);
    }

    private static void putOneToEight() {
        sentence("Promise 17", "1 to 8 characters");
        String eight = "abcdefgh";
        for (int length = 1; length <= 8; length++) {
            TurnSlots x = new TurnSlots();
            due("put of " + length, x.put(Checks.number(eight.substring(0, length))), length);
            due("length", x.count(8), length);
            due("put of " + length + " more", x.put(Checks.number(eight.substring(0, length))), 2 * length);
        }
    }

    private static void putOfNoCharacter() {
        sentence("Promise 17", "BAD_VALUE if there is no character");
        TurnSlots x = new TurnSlots();
        due("put(0)", x.put(0), BAD_VALUE);
        due("length", x.count(8), 0);
        x.put('0');
        due("put(0) behind one", x.put(0), BAD_VALUE);
        due("length", x.count(8), 1);
    }

    private static void putOfCodes() {
        sentence("Promise 17", "a code is not 33 to 126");
        for (int code = 1; code <= 255; code++) {
            boolean good = code >= 33 && code <= 126;
            due("put of code " + code, new TurnSlots().put(code), good ? 1 : BAD_VALUE);
            for (int at = 0; at < 8; at++) {
                long number = Checks.number("00000000") & ~(255L << 8 * at) | (long) code << 8 * at;
                due("put of code " + code + " among eight, " + at, new TurnSlots().put(number), good ? 8 : BAD_VALUE);
            }
            due("put of code " + code + " above one", new TurnSlots().put((long) code << 8 | '0'), good ? 2 : BAD_VALUE);
        }
        due("the least number", new TurnSlots().put(Long.MIN_VALUE), BAD_VALUE);
        due("the greatest number", new TurnSlots().put(Long.MAX_VALUE), BAD_VALUE);
        due("-1", new TurnSlots().put(-1), BAD_VALUE);
        due("-2", new TurnSlots().put(-2), BAD_VALUE);
    }

    private static void putOfGaps() {
        sentence("Promise 17", "8 bits that are 0 mean that there are no more characters, and everything above them has to be 0, too");
        for (int gap = 0; gap < 8; gap++) {
            for (int bit = 8 * gap + 8; bit < 64; bit++) {
                long below = gap == 0 ? 0 : Checks.number("abcdefg".substring(0, gap));
                due("put with bit " + bit + " above a gap at " + gap, new TurnSlots().put(below | 1L << bit), BAD_VALUE);
            }
        }
        due("a character above a gap", new TurnSlots().put(0x610062), BAD_VALUE);
        due("a character above no character", new TurnSlots().put(0x6100), BAD_VALUE);
        due("the eighth above six that are 0", new TurnSlots().put(0x6100000000000062L), BAD_VALUE);
    }

    private static void putTooMany() {
        sentence("Promise 17", "TOO_MANY if the pad would be longer than 72");
        for (int length = 1; length <= 8; length++) {
            TurnSlots x = new TurnSlots();
            for (int i = 0; i < 8; i++) {
                x.put(Checks.number("abcdefgh"));
            }
            due("put of " + (8 - length), length == 8 ? 64 : x.put(Checks.number("abcdefgh".substring(length))), 72 - length);
            if (length < 8) {
                due("one too many", x.put(Checks.number("abcdefgh".substring(0, length + 1))), TOO_MANY);
            }
            due("length", x.count(8), 72 - length);
            due("as many as there is room for", x.put(Checks.number("abcdefgh".substring(0, length))), 72);
            due("one more", x.put('a'), TOO_MANY);
            due("eight more", x.put(Checks.number("abcdefgh")), TOO_MANY);
            due("length", x.count(8), 72);
            due("wipe", x.wipe(), 72);
            due("anew", x.put('a'), 1);
        }
    }

    private static void wipe() {
        sentence("Promise 18", "Empties the pad, and returns the length that it had.");
        TurnSlots x = new TurnSlots();
        due("of an empty pad", x.wipe(), 0);
        x.put('0');
        due("of one", x.wipe(), 1);
        due("again", x.wipe(), 0);
        Checks.write(x, "7:a99,a98,a97");
        due("of a program", x.wipe(), 13);
        due("it cannot be read then", x.read(), BAD_TEXT);
        due("put starts anew", Checks.write(x, "6:"), 2);
        due("good", x.fault(), NONE);
        due("read", x.read(), 6);
        due("of a pad that was read", x.wipe(), 0);
        due("no changes by wipe", x.count(9), 1);
    }

    private static void faultOfThePad() {
        sentence("Promise 19", "Returns the fault of the pad, NONE if there is none.");
        TurnSlots x = new TurnSlots();
        due("an empty one", x.fault(), 0);
        x.put('4');
        due("'4'", x.fault(), 1);
        x.put(':');
        due("'4:'", x.fault(), NONE);
        x.put('l');
        due("'4:l'", x.fault(), 3);
        x.put('3');
        due("'4:l3'", x.fault(), NONE);
        x.put('3');
        due("'4:l33'", x.fault(), 4);
        x.put(',');
        due("'4:l33,'", x.fault(), 4);
        due("asked again", x.fault(), 4);
        due("no changes by fault", x.count(9), 0);
        due("read", x.read(), BAD_TEXT);
    }
}
