import java.util.function.ToIntFunction;

/** The edges of "CONVENTIONS": the order of errors, what a refused call leaves, NONE, numbers from 0, sets. */
public final class ConventionEdgesTest extends Edges {
    private static final String GOOD_PAD = "5:a91,a92,a93,a94,a95,a96,a97,a98,a99,w91,w92,w93,w94,w95,w96,w97";
    private static final String BAD_PAD = "5:a91,w92,";

    public static void main(String[] args) {
        begin("ConventionEdgesTest");
        codesAndCommands();
        errorsInTheirOrder();
        errorsInTheirOrderAtTheLimits();
        refusedPrograms();
        refusedSlots();
        refusedQuestions();
        refusedTexts();
        refusedHistory();
        refusedAtTheLimitOfSlots();
        noneIsNoError();
        noneOnlyBehindErrors();
        numberedFromZero();
        setsAreMasks();
        fiveHundredAndTwelveCalls();
        checks.end();
    }

    private static void codesAndCommands() {
        sentence("CONVENTIONS", "NO_SUCH (-1), BAD_VALUE (-2), BAD_TEXT (-3), TOO_MANY (-4) and NOT_POSSIBLE (-5)");
        int[] codes = {TurnSlots.NO_SUCH, TurnSlots.BAD_VALUE, TurnSlots.BAD_TEXT, TurnSlots.TOO_MANY, TurnSlots.NOT_POSSIBLE, TurnSlots.NONE};
        for (int i = 0; i < codes.length; i++) {
            due("code " + i, codes[i], -1 - i);
        }
        sentence("The constants", "ADD = 0, SEND = 1, TAKE = 2, LOCK = 3, FREE = 4, WAIT = 5, BACK = 6");
        int[] commands = {TurnSlots.ADD, TurnSlots.SEND, TurnSlots.TAKE, TurnSlots.LOCK, TurnSlots.FREE, TurnSlots.WAIT, TurnSlots.BACK};
        for (int i = 0; i < commands.length; i++) {
            due("command " + i, commands[i], i);
        }
    }

    private static void errorsInTheirOrder() {
        sentence("CONVENTIONS", "it names its errors in the order in which they are checked, and the first one that applies is returned");
        TurnSlots x = machine("0:a1");
        due("add: context, then command", x.add(8, 7, 0), NO_SUCH);
        due("add: context, then n", x.add(-1, ADD, 100), NO_SUCH);
        due("prefer: context, then priority", x.prefer(8, 10), NO_SUCH);
        due("post: context, then number", x.post(-1, 1000), NO_SUCH);
        due("of: context, then what", x.of(8, 14), NO_SUCH);
        due("command: context, then what", x.command(8, 0, 3), NO_SUCH);
        due("command: place, then what", x.command(0, 1, 3), NO_SUCH);
        due("leftIf: context, then priority", x.leftIf(8, 0, 10), NO_SUCH);
        due("leftIf: other, then priority", x.leftIf(0, 8, 10), NO_SUCH);
        due("sumBehind: context, then slots", x.sumBehind(8, 0), NO_SUCH);
        due("restore: slot, then whether it is saved", x.restore(2), BAD_VALUE);
        due("restore: slot -1", x.restore(-1), BAD_VALUE);
    }

    private static void errorsInTheirOrderAtTheLimits() {
        sentence("CONVENTIONS", "it names its errors in the order in which they are checked, and the first one that applies is returned");
        TurnSlots x = machine("0:t,t,t,t,t,t,t,t,t,t,t,t,t,t,t,t");
        fillInbox(x, 1);
        due("add: n, then 16 commands", x.add(0, ADD, 100), BAD_VALUE);
        due("add: command, then 16 commands", x.add(0, 7, 0), BAD_VALUE);
        due("add: 16 commands", x.add(0, ADD, 0), TOO_MANY);
        due("post: number, then 4 numbers", x.post(1, 1000), BAD_VALUE);
        due("post: 4 numbers", x.post(1, 0), TOO_MANY);
        Checks.write(x, "0123456701234567012345670123456701234567012345670123456701234567" + "01234567");
        due("put: characters, then length", x.put(32), BAD_VALUE);
        due("put: no character, then length", x.put(0), BAD_VALUE);
        due("put: length", x.put('a'), TOO_MANY);
        TurnSlots y = aged(100);
        due("step: slots, then how many have passed", y.step(201), BAD_VALUE);
        due("step: no slots, then how many have passed", y.step(0), BAD_VALUE);
        due("step: how many have passed", y.step(1), TOO_MANY);
    }

    /** Every context does something else, a lock is held, one inbox is full, one slot saved, six states recorded. */
    private static TurnSlots busy(String pad) {
        TurnSlots x = machine("0:l0,a5,b1,t", "1:l0", "2:t", "3:s7", "4:w99,a1", "6:w99", "7:w9,t,a1,a1,a1,a1,a1,a1,a1,a1,a1,a1,a1,a1,a1,a1");
        x.prefer(4, 3);
        x.step(8);
        x.save(0);
        x.prefer(1, 7);
        fillInbox(x, 7);
        x.step(3);
        Checks.write(x, pad);
        return x;
    }

    private static void changesNothing(String call, String pad, ToIntFunction<TurnSlots> refused, int error) {
        TurnSlots got = busy(pad);
        due(call, refused.applyAsInt(got), error);
        same("behind " + call, got, busy(pad));
        got = busy(pad);
        refused.applyAsInt(got);
        sameHistory("behind " + call, got, busy(pad));
        got = busy(pad);
        TurnSlots want = busy(pad);
        refused.applyAsInt(got);
        if (pad.equals(BAD_PAD)) {
            due("behind " + call + ", put", got.put('t'), want.put('t'));
        }
        due("behind " + call + ", restore(1)", got.restore(1), want.restore(1));
        due("behind " + call + ", restore(0)", got.restore(0), want.restore(0));
        due("behind " + call + ", read()", got.read(), 5);
        want.read();
        same("behind " + call + " and restore(0), read()", got, want);
    }

    private static void refused(String call, ToIntFunction<TurnSlots> calls, int error) {
        changesNothing(call, GOOD_PAD, calls, error);
    }

    private static void refusedPrograms() {
        sentence("CONVENTIONS", "A call that returns an error changes nothing.");
        refused("add(-1, 0, 0)", x -> x.add(-1, 0, 0), NO_SUCH);
        refused("add(8, 0, 0)", x -> x.add(8, 0, 0), NO_SUCH);
        refused("add(0, 7, 0)", x -> x.add(0, 7, 0), BAD_VALUE);
        refused("add(0, ADD, 100)", x -> x.add(0, ADD, 100), BAD_VALUE);
        refused("add(0, BACK, 0)", x -> x.add(0, BACK, 0), BAD_VALUE);
        refused("add(7, ADD, 1)", x -> x.add(7, ADD, 1), TOO_MANY);
        changesNothing("read()", BAD_PAD, x -> x.read(), BAD_TEXT);
        refused("prefer(8, 1)", x -> x.prefer(8, 1), NO_SUCH);
        refused("prefer(0, 10)", x -> x.prefer(0, 10), BAD_VALUE);
        refused("prefer(0, -1)", x -> x.prefer(0, -1), BAD_VALUE);
        refused("post(8, 1)", x -> x.post(8, 1), NO_SUCH);
        refused("post(0, 1000)", x -> x.post(0, 1000), BAD_VALUE);
        refused("post(7, 1)", x -> x.post(7, 1), TOO_MANY);
        refused("release(4)", x -> x.release(4), NO_SUCH);
        refused("release(3)", x -> x.release(3), NOT_POSSIBLE);
    }

    private static void refusedSlots() {
        sentence("CONVENTIONS", "A call that returns an error changes nothing.");
        refused("step(0)", x -> x.step(0), BAD_VALUE);
        refused("step(201)", x -> x.step(201), BAD_VALUE);
        refused("leftIf(8, 0, 1)", x -> x.leftIf(8, 0, 1), NO_SUCH);
        refused("leftIf(0, 8, 1)", x -> x.leftIf(0, 8, 1), NO_SUCH);
        refused("leftIf(0, 1, 10)", x -> x.leftIf(0, 1, 10), BAD_VALUE);
        refused("sumBehind(8, 1)", x -> x.sumBehind(8, 1), NO_SUCH);
        refused("sumBehind(0, 201)", x -> x.sumBehind(0, 201), BAD_VALUE);
    }

    private static void refusedQuestions() {
        sentence("CONVENTIONS", "A call that returns an error changes nothing.");
        refused("of(8, 0)", x -> x.of(8, 0), NO_SUCH);
        refused("of(0, 14)", x -> x.of(0, 14), BAD_VALUE);
        refused("command(0, 4, 0)", x -> x.command(0, 4, 0), NO_SUCH);
        refused("command(0, 0, 3)", x -> x.command(0, 0, 3), BAD_VALUE);
        refused("inbox(0, 0)", x -> x.inbox(0, 0), NO_SUCH);
        refused("holder(4)", x -> x.holder(4), NO_SUCH);
        refused("count(10)", x -> x.count(10), BAD_VALUE);
    }

    private static void refusedTexts() {
        sentence("CONVENTIONS", "A call that returns an error changes nothing.");
        refused("put(0)", x -> x.put(0), BAD_VALUE);
        refused("put(32)", x -> x.put(32), BAD_VALUE);
        refused("put of a space behind good ones", x -> x.put(Checks.number("ab cd")), BAD_VALUE);
        refused("put of a space ahead of good ones", x -> x.put(Checks.number(" abcd")), BAD_VALUE);
        refused("put with a gap", x -> x.put(0x610062), BAD_VALUE);
        refused("put of more than there is room for", x -> x.put(Checks.number("abcdefgh")), TOO_MANY);
    }

    private static void refusedHistory() {
        sentence("CONVENTIONS", "A call that returns an error changes nothing.");
        refused("save(2)", x -> x.save(2), BAD_VALUE);
        refused("save(-1)", x -> x.save(-1), BAD_VALUE);
        refused("restore(2)", x -> x.restore(2), BAD_VALUE);
        refused("restore(1)", x -> x.restore(1), NOT_POSSIBLE);
        TurnSlots got = new TurnSlots();
        due("undo() of nothing", got.undo(), NOT_POSSIBLE);
        same("behind undo()", got, new TurnSlots());
        TurnSlots behind = machine("0:a1,a1");
        behind.undo();
        Checks.write(behind, "0:a1");
        due("undo() when all is undone", behind.undo(), NOT_POSSIBLE);
        due("the pad stays", behind.count(8), 4);
        due("and is good", behind.fault(), NONE);
    }

    private static void refusedAtTheLimitOfSlots() {
        sentence("CONVENTIONS", "A call that returns an error changes nothing.");
        TurnSlots got = aged(100);
        due("step(200)", got.step(200), TOO_MANY);
        due("step(1)", got.step(1), TOO_MANY);
        due("run()", got.run(), TOO_MANY);
        TurnSlots want = aged(100);
        same("behind step and run at the limit", got, want);
        sameHistory("behind step and run at the limit", got, want);
    }

    private static void noneIsNoError() {
        sentence("CONVENTIONS", "NONE (-6) is not an error");
        TurnSlots x = machine("0:t");
        due("step that is idle", x.step(3), NONE);
        due("passes slots", x.count(0), 3);
        due("and is a change", x.count(9), 2);
        due("that can be undone", x.undo(), 1);
        due("so that they have not passed", x.count(0), 0);
        due("undo with none left is no NONE", x.undo(), 0);
    }

    private static void noneOnlyBehindErrors() {
        sentence("CONVENTIONS", "it is returned only if no error applies");
        TurnSlots x = machine("0:t");
        due("a machine that is never done", x.slotsLeft(), NONE);
        due("leftIf", x.leftIf(0, 1, 0), NONE);
        due("leftIf of no context", x.leftIf(0, 8, 0), NO_SUCH);
        due("leftIf with no priority", x.leftIf(0, 1, 10), BAD_VALUE);
        due("holder of a free lock", x.holder(3), NONE);
        due("holder of no lock", x.holder(4), NO_SUCH);
        due("an idle step", x.step(1), NONE);
        due("an idle step of too many slots", x.step(201), BAD_VALUE);
        due("nobody runs next", x.count(7), NONE);
        TurnSlots y = new TurnSlots();
        for (int i = 0; i < 500; i++) {
            y.step(200);
        }
        due("an idle step beyond the limit", y.step(1), TOO_MANY);
    }

    private static void numberedFromZero() {
        sentence("CONVENTIONS", "Everything is numbered from 0.");
        TurnSlots x = machine("0:l0,a7");
        x.post(0, 5);
        due("command 0 of context 0", x.command(0, 0, 0), LOCK);
        due("command 1 of context 0", x.command(0, 1, 1), 7);
        due("number 0 of the inbox of 0", x.inbox(0, 0), 5);
        due("slot 0 is that of context 0", x.step(1), 0);
        due("holder of lock 0", x.holder(0), 0);
        due("save in slot 0", x.save(0), 1);
        due("restore from slot 0", x.restore(0), 1);
    }

    private static void setsAreMasks() {
        sentence("CONVENTIONS", "Sets of contexts are bit masks.");
        for (int context = 0; context < 8; context++) {
            TurnSlots x = machine(context + ":l3,l3", (context + 1) % 8 + ":l3");
            due("ready, " + context + " and the next one", x.count(2), 1 << context | 1 << (context + 1) % 8);
            x = machine(context + ":l3,l3");
            x.run();
            due("in rings, " + context, x.count(3), 1 << context);
            due("for whom " + context + " waits", waitsFor(x, context), 1 << context);
        }
    }

    private static void fiveHundredAndTwelveCalls() {
        sentence("What it is", "An object is used for at most 512 calls after it has been made");
        TurnSlots x = machine("7:" + ENDLESS, "0:w99,a1,a2,b3");
        int calls = 13;
        while (calls < 511) {
            due("call " + calls, x.slotsLeft(), NONE);
            calls++;
        }
        due("the 512th call", x.run(), 1000);
    }
}
