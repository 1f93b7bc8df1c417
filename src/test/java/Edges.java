/**
 * What the tests of the document's edges share. Each of their methods holds one sentence, which it quotes; the codes
 * are written out as the document writes them, and no object is asked more than the 512 calls that it is made for.
 */
abstract class Edges {
    static final int NO_SUCH = -1, BAD_VALUE = -2, BAD_TEXT = -3, TOO_MANY = -4, NOT_POSSIBLE = -5, NONE = -6;
    static final int ADD = 0, SEND = 1, TAKE = 2, LOCK = 3, FREE = 4, WAIT = 5, BACK = 6;
    static final int DONE = 0, READY = 1, SLEEPS = 2, BY_LOCK = 3, BY_TAKE = 4, BY_SEND = 5;

    /** It goes round some three million slots before it is done. */
    static final String ENDLESS = "w99,b1,b2,b3,b4,b5,b6,b7,b8,b9,b10,b11,b12,b13,b14,b15";

    static Checks checks;

    static void begin(String name) {
        checks = new Checks(name);
    }

    static void sentence(String promise, String words) {
        checks.sentence(promise, words);
    }

    static void due(String call, long got, long want) {
        checks.due(call, got, want);
    }

    static void yes(String what, boolean holds) {
        checks.due(what, holds ? 1 : 0, 1);
    }

    static TurnSlots machine(String... texts) {
        return Checks.machine(texts);
    }

    static int state(TurnSlots x, int context) {
        return x.of(context, 7);
    }

    static int waitsFor(TurnSlots x, int context) {
        return x.of(context, 8);
    }

    static int lent(TurnSlots x, int context) {
        return x.of(context, 4);
    }

    static int place(TurnSlots x, int context) {
        return x.of(context, 1);
    }

    static int sum(TurnSlots x, int context) {
        return x.of(context, 2);
    }

    static void fillInbox(TurnSlots x, int context) {
        for (int number = 1; number <= 4; number++) {
            x.post(context, number);
        }
    }

    /** A machine in which so many thousand slots have passed; context 7 is never done. */
    static TurnSlots aged(int thousands) {
        TurnSlots x = machine("7:" + ENDLESS);
        for (int i = 0; i < thousands; i++) {
            x.run();
        }
        return x;
    }

    /** All that an object tells of itself without a change. */
    static void same(String what, TurnSlots got, TurnSlots want) {
        for (int context = 0; context < 8; context++) {
            for (int i = 0; i < 14; i++) {
                due(what + ", of(" + context + ", " + i + ")", got.of(context, i), want.of(context, i));
            }
            samePrograms(what, context, got, want);
        }
        for (int lock = 0; lock < 4; lock++) {
            due(what + ", holder(" + lock + ")", got.holder(lock), want.holder(lock));
        }
        for (int i = 0; i < 10; i++) {
            due(what + ", count(" + i + ")", got.count(i), want.count(i));
        }
        due(what + ", fault()", got.fault(), want.fault());
        due(what + ", slotsLeft()", got.slotsLeft(), want.slotsLeft());
    }

    private static void samePrograms(String what, int context, TurnSlots got, TurnSlots want) {
        int commands = want.of(context, 0);
        for (int place = 0; place < commands; place++) {
            for (int i = 0; i < 3; i++) {
                due(what + ", command(" + context + ", " + place + ", " + i + ")", got.command(context, place, i),
                    want.command(context, place, i));
            }
        }
        int numbers = want.of(context, 5);
        for (int place = 0; place < numbers; place++) {
            due(what + ", inbox(" + context + ", " + place + ")", got.inbox(context, place), want.inbox(context, place));
        }
    }

    /** Takes back what can be taken back, and looks at each state on the way. */
    static void sameHistory(String what, TurnSlots got, TurnSlots want) {
        int left = want.count(9);
        for (int i = 0; i < left; i++) {
            due(what + ", undo()", got.undo(), want.undo());
            for (int context = 0; context < 8; context++) {
                due(what + ", place of " + context, place(got, context), place(want, context));
                due(what + ", sum of " + context, sum(got, context), sum(want, context));
                due(what + ", priority of " + context, got.of(context, 3), want.of(context, 3));
            }
            due(what + ", slots", got.count(0), want.count(0));
        }
        due(what + ", no more undo()", got.undo(), want.undo());
    }
}
