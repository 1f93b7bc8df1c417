/** The edges of "Contexts, programs" and of the promises 1 to 6. */
public final class ProgramEdgesTest extends Edges {
    private static final int[] NO_CONTEXTS = {-1, 8, -8, 255, Integer.MIN_VALUE, Integer.MAX_VALUE};
    private static final String CONTEXTS = "Contexts, programs";

    public static void main(String[] args) {
        begin("ProgramEdgesTest");
        eightContexts();
        sixteenCommands();
        sixteenCommandsByAText();
        placeOfTheNextCommand();
        placeBehindSixteen();
        sumsLeftOver();
        priorities();
        fourNumbers();
        doneBehindTheLast();
        fourLocks();
        locksAreFreeAtFirst();
        newObject();
        addErrors();
        addReturns();
        readEmptiesThePad();
        readStartsAnew();
        readKeeps();
        readOfAFault();
        readIsAChange();
        preferReturns();
        preferErrors();
        postReturns();
        postErrors();
        releaseReturns();
        releaseErrors();
        checks.end();
    }

    private static void eightContexts() {
        sentence(CONTEXTS, "There are 8 contexts, 0 to 7.");
        for (int context : NO_CONTEXTS) {
            TurnSlots x = new TurnSlots();
            due("add", x.add(context, ADD, 1), NO_SUCH);
            due("prefer", x.prefer(context, 1), NO_SUCH);
            due("post", x.post(context, 1), NO_SUCH);
            due("of", x.of(context, 0), NO_SUCH);
            due("command", x.command(context, 0, 0), NO_SUCH);
            due("inbox", x.inbox(context, 0), NO_SUCH);
            due("leftIf", x.leftIf(context, 0, 1), NO_SUCH);
            due("leftIf of another", x.leftIf(0, context, 1), NO_SUCH);
            due("sumBehind", x.sumBehind(context, 1), NO_SUCH);
            due("a SEND to it", x.add(0, SEND, context), BAD_VALUE);
        }
        for (int context : new int[] {0, 7}) {
            TurnSlots x = new TurnSlots();
            due("add", x.add(context, ADD, 1), 1);
            due("prefer", x.prefer(context, 1), 0);
            due("post", x.post(context, 1), 1);
            due("of", x.of(context, 0), 1);
            due("command", x.command(context, 0, 0), ADD);
            due("inbox", x.inbox(context, 0), 1);
            due("leftIf", x.leftIf(context, context, 1), 1);
            due("sumBehind", x.sumBehind(context, 1), 1);
            due("a SEND to it", x.add(3, SEND, context), 1);
        }
    }

    private static void sixteenCommands() {
        sentence(CONTEXTS, "A context has a program of up to 16 commands (none at first)");
        TurnSlots x = new TurnSlots();
        for (int context = 0; context < 8; context++) {
            due("none at first", x.of(context, 0), 0);
            due("no command 0", x.command(context, 0, 0), NO_SUCH);
        }
        for (int i = 1; i <= 16; i++) {
            due("add number " + i, x.add(0, ADD, i), i);
        }
        due("add a 17th", x.add(0, ADD, 17), TOO_MANY);
        due("commands", x.of(0, 0), 16);
        due("the 16th", x.command(0, 15, 1), 16);
        due("no 17th", x.command(0, 16, 1), NO_SUCH);
        due("another context has room", x.add(1, ADD, 1), 1);
        due("all run", x.run(), 17);
        due("the sum of 16", sum(x, 0), 136);
        due("no room though all are done", x.add(0, ADD, 1), TOO_MANY);
    }

    private static void sixteenCommandsByAText() {
        sentence(CONTEXTS, "A context has a program of up to 16 commands (none at first)");
        TurnSlots x = machine("3:a1,a2,a3,a4,a5,a6,a7,a8,a9,a10,a11,a12,a13,a14,a15");
        due("commands", x.of(3, 0), 15);
        due("a 16th", x.add(3, ADD, 16), 16);
        due("a 17th", x.add(3, ADD, 17), TOO_MANY);
        due("read of no commands", Checks.give(x, "3:"), 3);
        due("commands then", x.of(3, 0), 0);
        due("room for one", x.add(3, ADD, 1), 1);
        due("read of 16", Checks.give(x, "3:t,t,t,t,t,t,t,t,t,t,t,t,t,t,t,w5"), 3);
        due("16 commands", x.of(3, 0), 16);
        due("a 17th behind them", x.add(3, ADD, 1), TOO_MANY);
    }

    private static void placeOfTheNextCommand() {
        sentence(CONTEXTS, "a place in it (that of its next command; 0 at first)");
        TurnSlots x = machine("0:a1,a20");
        for (int context = 0; context < 8; context++) {
            due("place at first of " + context, place(x, context), 0);
        }
        x.step(1);
        due("place behind one", place(x, 0), 1);
        due("only that command ran", sum(x, 0), 1);
        x.step(1);
        due("place behind two", place(x, 0), 2);
        due("then the next", sum(x, 0), 21);
        x.step(9);
        due("place stays behind the last", place(x, 0), 2);
    }

    private static void placeBehindSixteen() {
        sentence(CONTEXTS, "a place in it (that of its next command; 0 at first)");
        TurnSlots x = machine("5:a1,a1,a1,a1,a1,a1,a1,a1,a1,a1,a1,a1,a1,a1,a1,b15");
        due("run", x.run(), 32);
        due("place", place(x, 5), 16);
        due("state", state(x, 5), DONE);
        due("no command at its place", x.command(5, 16, 0), NO_SUCH);
        due("nobody next", x.count(7), NONE);
    }

    private static void sumsLeftOver() {
        sentence(CONTEXTS, "a sum (0 to 999; 0 at first; it is always left over by 1000)");
        TurnSlots x = machine("0:t,a1,t,a99,t");
        due("at first", sum(x, 0), 0);
        x.post(0, 999);
        x.post(0, 901);
        x.post(0, 999);
        x.step(1);
        due("999 stays", sum(x, 0), 999);
        x.step(1);
        due("999 and 1, by an ADD", sum(x, 0), 0);
        x.step(1);
        due("901", sum(x, 0), 901);
        due("901 and 99, told ahead", x.sumBehind(0, 1), 0);
        x.step(1);
        due("901 and 99, by an ADD", sum(x, 0), 0);
        TurnSlots y = machine("0:t,t,t");
        y.post(0, 999);
        y.post(0, 999);
        y.post(0, 2);
        y.step(2);
        due("999 and 999, by TAKEs", sum(y, 0), 998);
        y.step(1);
        due("998 and 2", sum(y, 0), 0);
    }

    private static void priorities() {
        sentence(CONTEXTS, "a priority of its own (0 to 9; 0 at first)");
        TurnSlots x = new TurnSlots();
        for (int context = 0; context < 8; context++) {
            due("at first", x.of(context, 3), 0);
        }
        due("-1", x.prefer(0, -1), BAD_VALUE);
        due("10", x.prefer(0, 10), BAD_VALUE);
        due("9", x.prefer(0, 9), 0);
        due("is 9", x.of(0, 3), 9);
        due("0", x.prefer(0, 0), 9);
        due("is 0", x.of(0, 3), 0);
        due("-1 in leftIf", x.leftIf(0, 1, -1), BAD_VALUE);
        due("10 in leftIf", x.leftIf(0, 1, 10), BAD_VALUE);
        due("0 in leftIf", x.leftIf(0, 1, 0), 0);
        due("9 in leftIf", x.leftIf(0, 1, 9), 0);
    }

    private static void fourNumbers() {
        sentence(CONTEXTS, "an inbox of up to 4 numbers (none at first)");
        TurnSlots x = machine("2:s6", "6:w1,t");
        for (int context = 0; context < 8; context++) {
            due("none at first", x.of(context, 5), 0);
            due("no number", x.inbox(context, 0), NO_SUCH);
        }
        for (int i = 1; i <= 4; i++) {
            due("post", x.post(6, 10 * i), i);
        }
        due("a fifth", x.post(6, 50), TOO_MANY);
        due("nor a SEND of one", state(x, 2), BY_SEND);
        due("the fourth", x.inbox(6, 3), 40);
        due("no fifth", x.inbox(6, 4), NO_SUCH);
        x.step(2);
        due("one was taken", x.of(6, 5), 3);
        due("they move on", x.inbox(6, 0), 20);
        due("no fourth then", x.inbox(6, 3), NO_SUCH);
        due("the SEND can run", x.step(1), 2);
        due("four again", x.of(6, 5), 4);
        due("its number is last", x.inbox(6, 3), 0);
        due("full again", x.post(6, 1), TOO_MANY);
    }

    private static void doneBehindTheLast() {
        sentence(CONTEXTS, "A context is done when its place is behind its last command.");
        TurnSlots x = machine("4:a1,a1");
        due("one without commands", state(x, 0), DONE);
        due("all but one", x.count(1), 7);
        due("at the first", state(x, 4), READY);
        x.step(1);
        due("at the last", state(x, 4), READY);
        due("all but one still", x.count(1), 7);
        x.step(1);
        due("behind the last", state(x, 4), DONE);
        due("all", x.count(1), 8);
        x.add(4, ADD, 1);
        due("one more command", state(x, 4), READY);
        due("all but one again", x.count(1), 7);
        Checks.give(x, "4:");
        due("a program without commands", state(x, 4), DONE);
    }

    private static void fourLocks() {
        sentence(CONTEXTS, "There are 4 locks, 0 to 3, free at first.");
        for (int lock : new int[] {-1, 4, Integer.MIN_VALUE, Integer.MAX_VALUE}) {
            TurnSlots x = new TurnSlots();
            due("holder", x.holder(lock), NO_SUCH);
            due("release", x.release(lock), NO_SUCH);
            due("a LOCK", x.add(0, LOCK, lock), BAD_VALUE);
            due("a FREE", x.add(0, FREE, lock), BAD_VALUE);
        }
        TurnSlots x = machine("0:l0,l1,l2,l3");
        due("all four", x.run(), 4);
        for (int lock = 0; lock < 4; lock++) {
            due("held", x.holder(lock), 0);
            due("release", x.release(lock), 0);
            due("free", x.holder(lock), NONE);
        }
    }

    private static void locksAreFreeAtFirst() {
        sentence(CONTEXTS, "There are 4 locks, 0 to 3, free at first.");
        TurnSlots x = new TurnSlots();
        for (int lock = 0; lock < 4; lock++) {
            due("holder", x.holder(lock), NONE);
            due("release", x.release(lock), NOT_POSSIBLE);
            x.add(lock, LOCK, lock);
            due("a LOCK of it is ready", state(x, lock), READY);
        }
    }

    private static void newObject() {
        sentence("Promise 1", "Creates a machine without commands, ahead of the slot 0.");
        TurnSlots x = new TurnSlots();
        due("slots", x.count(0), 0);
        due("done", x.count(1), 8);
        due("ready", x.count(2), 0);
        due("stuck", x.count(4), 0);
        due("idle slots", x.count(5), 0);
        due("given away", x.count(6), 0);
        due("next", x.count(7), NONE);
        due("the pad", x.count(8), 0);
        due("changes", x.count(9), 0);
        due("slots left", x.slotsLeft(), 0);
        due("run", x.run(), 0);
        due("fault", x.fault(), 0);
        due("the first slot is idle", x.step(1), NONE);
        due("and is that of 0", x.of(0, 13), 1);
        due("another object", new TurnSlots().count(0), 0);
    }

    private static void addErrors() {
        sentence("Promise 2", "NO_SUCH if there is no such context; BAD_VALUE if another argument is out of range; TOO_MANY if it has 16");
        int[] least = {0, 0, 0, 0, 0, 0, 1};
        int[] greatest = {99, 7, 0, 3, 3, 99, 15};
        TurnSlots x = new TurnSlots();
        for (int context : NO_CONTEXTS) {
            due("context " + context, x.add(context, ADD, 1), NO_SUCH);
        }
        for (int command : new int[] {-1, 7, Integer.MIN_VALUE, Integer.MAX_VALUE}) {
            due("command " + command, x.add(0, command, 1), BAD_VALUE);
        }
        for (int command = ADD; command <= BACK; command++) {
            for (int n : new int[] {least[command] - 1, greatest[command] + 1, Integer.MIN_VALUE, Integer.MAX_VALUE}) {
                due("command " + command + " with " + n, x.add(0, command, n), BAD_VALUE);
            }
        }
        due("nothing was added", x.of(0, 0), 0);
        for (int command = ADD; command <= BACK; command++) {
            due("the least n", x.add(0, command, least[command]), 2 * command + 1);
            due("the greatest n", x.add(0, command, greatest[command]), 2 * command + 2);
        }
        due("15", x.add(0, ADD, 1), 15);
        due("16", x.add(0, ADD, 1), 16);
        due("no 17th", x.add(0, ADD, 1), TOO_MANY);
        for (int command = ADD; command <= BACK; command++) {
            due("it is this command", x.command(0, 2 * command, 0), command);
            due("with the least n", x.command(0, 2 * command, 1), least[command]);
            due("with the greatest n", x.command(0, 2 * command + 1, 1), greatest[command]);
        }
    }

    private static void addReturns() {
        sentence("Promise 2", "Returns how many commands the program has then");
        TurnSlots x = machine("1:a1,a2");
        due("behind two of a text", x.add(1, ADD, 3), 3);
        due("the first of another", x.add(0, ADD, 9), 1);
        x.run();
        due("behind three that ran", x.add(1, ADD, 4), 4);
        due("its place is that of the new one", place(x, 1), 3);
        x.undo();
        due("behind an undo", x.add(1, WAIT, 5), 4);
        due("the new one counts", x.command(1, 3, 0), WAIT);
        sentence("Promise 2", "Puts a command at the end of the program of a context.");
        due("the last", x.command(1, 3, 1), 5);
        due("the first stays", x.command(1, 0, 1), 1);
        TurnSlots y = machine("2:a1,b1");
        y.step(2);
        y.undo();
        y.undo();
        y.add(2, ADD, 1);
        y.add(2, BACK, 1);
        due("a BACK where one with its mark on was undone", y.command(2, 1, 2), 0);
    }

    private static void readEmptiesThePad() {
        sentence("Promise 3", "Gives a context the program of the pad, and empties the pad");
        TurnSlots x = new TurnSlots();
        Checks.write(x, "6:a1,b1");
        due("read", x.read(), 6);
        due("the pad is empty", x.count(8), 0);
        due("an empty pad cannot be read", x.read(), BAD_TEXT);
        due("wipe", x.wipe(), 0);
        due("the program is there", x.of(6, 0), 2);
        due("put starts anew", x.put('0'), 1);
        due("fault", x.fault(), 1);
    }

    private static void readStartsAnew() {
        sentence("Promise 3", "its place and its sum are 0, it does not sleep");
        TurnSlots x = machine("0:a7,b1,w99,a1");
        x.step(8);
        due("place ahead of it", place(x, 0), 3);
        due("sum ahead of it", sum(x, 0), 14);
        yes("asleep ahead of it", x.of(0, 6) > 0);
        Checks.give(x, "0:a1,b1,a1,a1");
        due("place", place(x, 0), 0);
        due("sum", sum(x, 0), 0);
        due("sleep", x.of(0, 6), 0);
        due("state", state(x, 0), READY);
        due("next", x.count(7), 0);
        x.step(2);
        due("a mark on", x.command(0, 1, 2), 1);
        Checks.give(x, "0:a1,b1");
        due("each mark is off at first", x.command(0, 1, 2), 0);
        Checks.give(x, "1:w99");
        x.step(8);
        due("done", state(x, 1), DONE);
        yes("and asleep", x.of(1, 6) > 0);
        Checks.give(x, "1:");
        due("done and not asleep", x.of(1, 6), 0);
        due("who has not run does not start anew", place(x, 2), 0);
    }

    private static void readKeeps() {
        sentence("Promise 3", "(its inbox, its priority and the locks that it holds stay)");
        TurnSlots x = machine("3:l0,l3,a1", "4:a5");
        x.prefer(3, 9);
        fillInbox(x, 3);
        x.run();
        Checks.give(x, "3:t");
        due("the inbox is full still", x.of(3, 5), 4);
        due("its first number", x.inbox(3, 0), 1);
        due("its last number", x.inbox(3, 3), 4);
        due("the priority", x.of(3, 3), 9);
        due("lock 0", x.holder(0), 3);
        due("lock 3", x.holder(3), 3);
        due("another context stays, its place", place(x, 4), 1);
        due("its sum", sum(x, 4), 5);
        due("the slots stay", x.count(0), 4);
        Checks.give(x, "3:");
        due("also by a program without commands", x.of(3, 5) + x.holder(3), 7);
        Checks.give(x, "3:l0");
        due("by its own lock it waits", state(x, 3), BY_LOCK);
        due("for itself", waitsFor(x, 3), 8);
    }

    private static void readOfAFault() {
        sentence("Promise 3", "BAD_TEXT if the pad has a fault");
        for (String text : new String[] {"", "0", "8:", "0:,", "0:a", "0:a1,", "0:a100", "0:s8", "0:l4", "0:b0", "0:b16", "0:a1;",
            "0:t,t,t,t,t,t,t,t,t,t,t,t,t,t,t,t,", "0:t,t,t,t,t,t,t,t,t,t,t,t,t,t,t,t,t"}) {
            TurnSlots x = machine("0:a5,a6", "7:a8");
            Checks.write(x, text);
            due("read of " + text, x.read(), BAD_TEXT);
            due("the pad stays", x.count(8), text.length());
            due("no change", x.count(9), 2);
            due("the program stays", x.command(0, 0, 1), 5);
        }
    }

    private static void readIsAChange() {
        sentence("Promise 3", "Returns the context");
        for (int context = 0; context < 8; context++) {
            TurnSlots x = new TurnSlots();
            Checks.write(x, context + ":a" + (10 + context));
            due("read", x.read(), context);
            due("its command", x.command(context, 0, 1), 10 + context);
            due("one is done no more", x.count(1), 7);
        }
        sentence("Promise 3", "This is a change.");
        TurnSlots x = new TurnSlots();
        Checks.write(x, "0:");
        due("read of no commands", x.read(), 0);
        due("is a change all the same", x.count(9), 1);
    }

    private static void preferReturns() {
        sentence("Promise 4", "Returns the previous one");
        TurnSlots x = new TurnSlots();
        due("the first time", x.prefer(0, 9), 0);
        due("then", x.prefer(0, 0), 9);
        due("then", x.prefer(0, 1), 0);
        due("the same", x.prefer(0, 1), 1);
        due("each is a change", x.count(9), 4);
        x.undo();
        x.undo();
        due("behind undo", x.prefer(0, 5), 0);
        due("its own, not what is lent to it", lentAndPreferred(), 2);
    }

    private static int lentAndPreferred() {
        TurnSlots x = machine("0:l0", "1:l0");
        x.prefer(0, 2);
        x.prefer(1, 8);
        x.step(1);
        due("lent", lent(x, 0), 8);
        return x.prefer(0, 3);
    }

    private static void preferErrors() {
        sentence("Promise 4", "NO_SUCH if there is no such context; BAD_VALUE if priority is out of range");
        TurnSlots x = new TurnSlots();
        for (int context : NO_CONTEXTS) {
            due("context " + context, x.prefer(context, 0), NO_SUCH);
        }
        for (int priority : new int[] {-1, 10, Integer.MIN_VALUE, Integer.MAX_VALUE}) {
            due("priority " + priority, x.prefer(7, priority), BAD_VALUE);
        }
        due("9", x.prefer(7, 9), 0);
        due("0", x.prefer(7, 0), 9);
    }

    private static void postReturns() {
        sentence("Promise 5", "Returns how many numbers the inbox has then");
        TurnSlots x = machine("1:t");
        due("1", x.post(1, 0), 1);
        due("2", x.post(1, 999), 2);
        due("3", x.post(1, 5), 3);
        due("4", x.post(1, 5), 4);
        x.step(1);
        due("4 again when one is taken", x.post(1, 8), 4);
        due("the first", x.inbox(1, 0), 999);
        due("the last", x.inbox(1, 3), 8);
        due("another inbox", x.post(2, 1), 1);
    }

    private static void postErrors() {
        sentence("Promise 5", "NO_SUCH if there is no such context; BAD_VALUE if number is out of range; TOO_MANY if it has 4");
        TurnSlots x = new TurnSlots();
        for (int context : NO_CONTEXTS) {
            due("context " + context, x.post(context, 0), NO_SUCH);
        }
        for (int number : new int[] {-1, 1000, Integer.MIN_VALUE, Integer.MAX_VALUE}) {
            due("number " + number, x.post(0, number), BAD_VALUE);
        }
        due("0", x.post(0, 0), 1);
        due("999", x.post(0, 999), 2);
        x.post(0, 1);
        due("a fourth", x.post(0, 1), 4);
        due("a fifth", x.post(0, 1), TOO_MANY);
        due("its 0", x.inbox(0, 0), 0);
        due("its 999", x.inbox(0, 1), 999);
    }

    private static void releaseReturns() {
        sentence("Promise 6", "Returns who held it");
        for (int context = 0; context < 8; context++) {
            TurnSlots x = machine(context + ":l" + context % 4);
            x.run();
            due("release", x.release(context % 4), context);
            due("free", x.holder(context % 4), NONE);
        }
        TurnSlots x = machine("0:l2", "1:l2");
        x.run();
        due("release for one that waits", x.release(2), 0);
        due("it is ready then", state(x, 1), READY);
        due("and takes it", x.run(), 1);
        due("so that it is held again", x.release(2), 1);
        due("each is a change", x.count(9), 6);
    }

    private static void releaseErrors() {
        sentence("Promise 6", "NO_SUCH if there is no such lock; NOT_POSSIBLE if it is free");
        TurnSlots x = machine("5:l0,l3,f0");
        for (int lock : new int[] {-1, 4, 8, Integer.MIN_VALUE, Integer.MAX_VALUE}) {
            due("lock " + lock, x.release(lock), NO_SUCH);
        }
        for (int lock = 0; lock < 4; lock++) {
            due("a free lock", x.release(lock), NOT_POSSIBLE);
        }
        x.run();
        due("freed by its holder", x.release(0), NOT_POSSIBLE);
        due("held", x.release(3), 5);
        due("twice", x.release(3), NOT_POSSIBLE);
    }
}
