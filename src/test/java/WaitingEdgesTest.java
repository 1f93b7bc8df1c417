/** The edges of "Waiting, lending" and of the promises 9 to 13. */
public final class WaitingEdgesTest extends Edges {
    private static final String WAITING = "Waiting, lending";

    public static void main(String[] args) {
        begin("WaitingEdgesTest");
        waitsOnlyIfHeldUp();
        waitsByLock();
        waitsByTakeForOthers();
        waitsByTakeFromThePlaceOn();
        waitsByTakeForNoneDone();
        waitsBySend();
        lentIsTheGreatest();
        lentAlongSevenOthers();
        lentWithinRings();
        lentAsLongAsOneWaits();
        inARingOfItself();
        inARingOfOthers();
        notInARing();
        stuckIfNotAllAreDone();
        stuckIfNoneIsReady();
        stuckIfNoneSleeps();
        doneMayStillSleep();
        ofErrors();
        ofStates();
        accounts();
        commandErrors();
        commandMarks();
        inboxErrors();
        holderReturns();
        countErrors();
        countsAndSets();
        countTheNext();
        countTheNextAtTheLimit();
        countThePadAndTheChanges();
        checks.end();
    }

    private static void waitsOnlyIfHeldUp() {
        sentence(WAITING, "A context waits for others if it is not done, does not sleep, and is not ready");
        TurnSlots x = machine("0:l0", "1:w2,l0", "2:l0");
        due("ready", waitsFor(x, 0), 0);
        due("ready by a LOCK too", waitsFor(x, 2), 0);
        x.step(2);
        due("done", waitsFor(x, 0), 0);
        due("asleep ahead of a LOCK that is held", state(x, 1), SLEEPS);
        due("so that it waits for nobody", waitsFor(x, 1), 0);
        due("held up", waitsFor(x, 2), 1);
        x.step(2);
        due("awake", state(x, 1), BY_LOCK);
        due("so that it waits", waitsFor(x, 1), 1);
        TurnSlots y = machine("0:w9,t", "1:w9,s2", "3:w9,a1,s0");
        fillInbox(y, 2);
        y.step(4);
        due("asleep ahead of a TAKE", waitsFor(y, 0), 0);
        due("asleep ahead of a SEND", waitsFor(y, 1), 0);
        TurnSlots z = machine("0:l0", "1:w9,l0");
        z.prefer(1, 9);
        z.step(9);
        due("asleep for two more slots", z.of(1, 6), 2);
        due("a sleeper lends nothing", lent(z, 0), 0);
        z.step(2);
        due("awake, it lends", lent(z, 0), 9);
    }

    private static void waitsByLock() {
        sentence(WAITING, "by a LOCK: for the holder of the lock (perhaps itself)");
        for (int holder = 0; holder < 8; holder++) {
            int other = (holder + 3) % 8;
            TurnSlots x = machine(holder + ":l2,l2");
            x.run();
            Checks.give(x, other + ":l1");
            due("for nobody by another lock", waitsFor(x, other), 0);
            Checks.give(x, other + ":l2");
            due("for the holder " + holder, waitsFor(x, other), 1 << holder);
            due("for itself, " + holder, waitsFor(x, holder), 1 << holder);
        }
        TurnSlots y = machine("0:l0", "1:l1", "2:l0,a1", "3:l1");
        y.step(2);
        due("for the holder of lock 0", waitsFor(y, 2), 1);
        due("for the holder of lock 1", waitsFor(y, 3), 2);
        y.release(0);
        due("for nobody when it is free", waitsFor(y, 2), 0);
    }

    private static void waitsByTakeForOthers() {
        sentence(WAITING, "by a TAKE: for each other context that is not done, and has a SEND to it among its commands from its place on");
        TurnSlots x = machine("0:t", "1:s0", "2:s1", "3:a1,s0", "4:w9,s0", "5:l0,s0", "6:t,s0", "7:a1");
        due("for each", waitsFor(x, 0), 0b1111010);
        due("6 for none", waitsFor(x, 6), 0);
        TurnSlots y = machine("5:t,s5,s5");
        due("not for itself", waitsFor(y, 5), 0);
        due("so that it is in no ring", y.of(5, 9), 0);
        due("but it waits by a TAKE", state(y, 5), BY_TAKE);
        TurnSlots z = machine("7:t", "0:t,s7", "1:s0,s7");
        due("all the others that have one", waitsFor(z, 7), 3);
        due("for 1", waitsFor(z, 0), 2);
    }

    private static void waitsByTakeFromThePlaceOn() {
        sentence(WAITING, "has a SEND to it among its commands from its place on");
        TurnSlots x = machine("0:t,t", "1:s0,w9,b2,a1");
        due("at its place", waitsFor(x, 0), 2);
        x.step(2);
        due("1 sent, and 0 took it", x.of(0, 1), 0);
        x.step(1);
        due("0 took the first", place(x, 0), 1);
        due("not one ahead of its place, though a BACK leads there", waitsFor(x, 0), 0);
        TurnSlots y = machine("0:t", "1:w9,a1,a1,a1,a1,a1,a1,a1,a1,a1,a1,a1,a1,a1,a1,s0");
        due("as its 16th command", waitsFor(y, 0), 2);
        y.step(1);
        due("while it sleeps, too", waitsFor(y, 0), 2);
        due("not if it is taken away", waitsForNone(), 0);
        TurnSlots z = machine("0:t", "1:a1,s2");
        due("not by a SEND to another", waitsFor(z, 0), 0);
        z.add(1, SEND, 0);
        due("but by one behind it", waitsFor(z, 0), 2);
    }

    private static int waitsForNone() {
        TurnSlots x = machine("0:t", "1:a1,s0");
        Checks.give(x, "1:a1");
        return waitsFor(x, 0);
    }

    private static void waitsByTakeForNoneDone() {
        sentence(WAITING, "by a TAKE: for each other context that is not done");
        TurnSlots x = machine("0:t,t", "1:s0");
        x.step(3);
        due("1 is done", state(x, 1), DONE);
        due("0 waits by its second TAKE", state(x, 0), BY_TAKE);
        due("for nobody", waitsFor(x, 0), 0);
        due("stuck", x.count(4), 1);
    }

    private static void waitsBySend() {
        sentence(WAITING, "by a SEND: for the context whose inbox is full (perhaps itself)");
        for (int full = 0; full < 8; full++) {
            int other = (full + 5) % 8;
            TurnSlots x = machine(full + ":s" + full, other + ":s" + full);
            x.post(full, 1);
            x.post(full, 2);
            x.post(full, 3);
            due("3 numbers are not 4", waitsFor(x, other), 0);
            x.post(full, 4);
            due("for the context with 4", waitsFor(x, other), 1 << full);
            due("for itself", waitsFor(x, full), 1 << full);
            due("by a SEND", state(x, full), BY_SEND);
        }
        TurnSlots y = machine("1:s0");
        fillInbox(y, 0);
        due("for one that is done", waitsFor(y, 1), 1);
    }

    private static void lentIsTheGreatest() {
        sentence(WAITING, "The lent priority of a context is the greatest of its own priority and the own priorities of all contexts that wait for it");
        TurnSlots x = machine("0:l0,a1,a1", "1:l0", "2:l0", "3:a1");
        x.step(1);
        due("all 0", lent(x, 0), 0);
        x.prefer(2, 9);
        due("the greatest, 9", lent(x, 0), 9);
        x.prefer(1, 4);
        due("not that of the last", lent(x, 0), 9);
        x.prefer(2, 0);
        due("4 then", lent(x, 0), 4);
        x.prefer(0, 4);
        due("the same", lent(x, 0), 4);
        x.prefer(0, 5);
        due("its own", lent(x, 0), 5);
        due("not lent to those who wait", lent(x, 1), 4);
        due("nor", lent(x, 2), 0);
        x.prefer(3, 9);
        due("nor by one that does not wait", lent(x, 0), 5);
        due("of one with no commands", lent(x, 7), 0);
    }

    private static void lentAlongSevenOthers() {
        sentence(WAITING, "or wait for one that waits for it, and so on");
        TurnSlots x = machine("7:t,s6", "6:t,s5", "5:t,s4", "4:t,s3", "3:t,s2", "2:t,s1", "1:t,s0", "0:t");
        x.prefer(0, 8);
        for (int context = 0; context < 8; context++) {
            due("lent to " + context, lent(x, context), 8);
            due("it waits for the next one alone", waitsFor(x, context), context < 7 ? 1 << context + 1 : 0);
        }
        x.prefer(7, 9);
        due("not the other way", lent(x, 6), 8);
        x.prefer(0, 1);
        x.prefer(4, 3);
        int[] lent = {1, 1, 1, 1, 3, 3, 3, 9};
        for (int context = 0; context < 8; context++) {
            due("lent from 4 and 0 to " + context, lent(x, context), lent[context]);
        }
        due("no ring", x.count(3), 0);
    }

    private static void lentWithinRings() {
        sentence(WAITING, "or wait for one that waits for it, and so on");
        TurnSlots x = machine("0:t,s1", "1:t,s2", "2:t,s0", "3:t,s4", "4:t");
        x.prefer(1, 6);
        x.prefer(4, 2);
        due("to itself", lent(x, 1), 6);
        due("in the ring", lent(x, 0), 6);
        due("all round", lent(x, 2), 6);
        due("outside of it", lent(x, 3), 2);
        TurnSlots y = machine("5:l1,l1");
        y.run();
        y.prefer(5, 3);
        due("who waits for itself", lent(y, 5), 3);
    }

    private static void lentAsLongAsOneWaits() {
        sentence(WAITING, "the own priorities of all contexts that wait for it");
        TurnSlots x = machine("0:l0", "1:l0");
        x.prefer(1, 7);
        due("not ahead of the LOCK", lent(x, 0), 0);
        due("1 takes it, by its priority, unless it is the slot of 0", x.step(1), 0);
        due("to a done one", lent(x, 0), 7);
        x.release(0);
        due("not behind the release", lent(x, 0), 0);
        TurnSlots y = machine("0:w99,s1", "1:t");
        y.prefer(1, 5);
        y.step(1);
        due("to a sleeping one", lent(y, 0), 5);
        y.post(1, 3);
        due("not when the number is there", lent(y, 0), 0);
        due("own priority all the while", y.of(0, 3), 0);
    }

    private static void inARingOfItself() {
        sentence(WAITING, "A context is in a ring if it waits for itself, or for one that waits for it, and so on.");
        for (int context = 0; context < 8; context++) {
            TurnSlots x = machine(context + ":l0,l0");
            due("not yet", x.of(context, 9), 0);
            x.run();
            due("by its own lock", x.of(context, 9), 1);
            due("as a set", x.count(3), 1 << context);
            TurnSlots y = machine(context + ":s" + context);
            fillInbox(y, context);
            due("by its own inbox", y.of(context, 9), 1);
        }
    }

    private static void inARingOfOthers() {
        sentence(WAITING, "A context is in a ring if it waits for itself, or for one that waits for it, and so on.");
        TurnSlots two = machine("0:t,s7", "7:t,s0");
        due("two", two.count(3), 0x81);
        TurnSlots eight = machine("0:t,s1", "1:t,s2", "2:t,s3", "3:t,s4", "4:t,s5", "5:t,s6", "6:t,s7", "7:t,s0");
        due("eight", eight.count(3), 255);
        for (int context = 0; context < 8; context++) {
            due("each of them", eight.of(context, 9), 1);
        }
        TurnSlots rings = machine("0:t,s1", "1:t,s0", "2:t,s3", "3:t,s2");
        due("two rings", rings.count(3), 15);
        TurnSlots mixed = machine("0:l0,s1", "1:t,l0");
        fillInbox(mixed, 1);
        mixed.step(5);
        due("1 took all but is held up by the lock", state(mixed, 1), BY_LOCK);
        due("0 is not held up any more", mixed.count(3), 0);
    }

    private static void notInARing() {
        sentence(WAITING, "A context is in a ring if it waits for itself, or for one that waits for it, and so on.");
        TurnSlots x = machine("0:t,s1", "1:t,s0,s2", "2:t,s3", "3:t");
        due("0 and 1 alone", x.count(3), 3);
        due("2 waits for one of them", waitsFor(x, 2), 2);
        due("but is in none", x.of(2, 9), 0);
        due("nor 3", x.of(3, 9), 0);
        due("a new object has none", new TurnSlots().count(3), 0);
        TurnSlots y = machine("0:t,s1", "1:w1,t,s0");
        due("who is ready is in none", y.count(3), 0);
        y.step(1);
        due("it sleeps for one", state(y, 1), SLEEPS);
        due("who sleeps is in none", y.count(3), 0);
        y.step(1);
        due("then it waits", y.count(3), 3);
        y.post(0, 1);
        due("a number breaks it", y.count(3), 0);
    }

    private static void stuckIfNotAllAreDone() {
        sentence(WAITING, "The machine is stuck if not all contexts are done, none is ready, and none of those that are not done sleeps.");
        TurnSlots x = new TurnSlots();
        due("all done from the start", x.count(4), 0);
        x.add(0, TAKE, 0);
        due("one of them waits", x.count(4), 1);
        Checks.give(x, "0:");
        due("all done", x.count(4), 0);
        TurnSlots y = machine("0:t", "1:t", "2:t", "3:t", "4:t", "5:t", "6:t", "7:t");
        due("all wait", y.count(4), 1);
        due("none is done", y.count(1), 0);
    }

    private static void stuckIfNoneIsReady() {
        sentence(WAITING, "The machine is stuck if not all contexts are done, none is ready, and none of those that are not done sleeps.");
        for (int context = 1; context < 8; context++) {
            TurnSlots x = machine("0:t", context + ":a1");
            due("one is ready", x.count(4), 0);
            x.run();
            due("none is", x.count(4), 1);
            due("it passed one slot", x.count(0), 1);
        }
    }

    private static void stuckIfNoneSleeps() {
        sentence(WAITING, "The machine is stuck if not all contexts are done, none is ready, and none of those that are not done sleeps.");
        for (int context = 1; context < 8; context++) {
            TurnSlots x = machine("0:t", context + ":w2,t");
            x.step(1);
            due("one sleeps for 2", x.count(4), 0);
            x.step(1);
            due("one sleeps for 1", x.count(4), 0);
            x.step(1);
            due("it waits", x.count(4), 1);
        }
    }

    private static void doneMayStillSleep() {
        sentence(WAITING, "(A context that is done may still sleep: its state is 0.)");
        TurnSlots x = machine("0:w99", "1:t");
        x.step(1);
        due("state", state(x, 0), DONE);
        due("sleeps", x.of(0, 6), 99);
        due("done", x.count(1), 7);
        due("stuck, as 1 waits", x.count(4), 1);
        x.step(1);
        due("sleeps on", x.of(0, 6), 98);
        x.add(0, ADD, 1);
        due("with a command it is not done", state(x, 0), SLEEPS);
        due("nor stuck", x.count(4), 0);
    }

    private static void ofErrors() {
        sentence("Promise 9", "NO_SUCH if there is no such context; BAD_VALUE if what is out of range");
        TurnSlots x = new TurnSlots();
        for (int what : new int[] {-1, 14, 256, Integer.MIN_VALUE, Integer.MAX_VALUE}) {
            due("of(0, " + what + ")", x.of(0, what), BAD_VALUE);
            due("of(7, " + what + ")", x.of(7, what), BAD_VALUE);
        }
        for (int context : new int[] {-1, 8, Integer.MIN_VALUE, Integer.MAX_VALUE}) {
            due("of(" + context + ", 0)", x.of(context, 0), NO_SUCH);
            due("of(" + context + ", 13)", x.of(context, 13), NO_SUCH);
        }
        due("of(0, 0)", x.of(0, 0), 0);
        due("of(7, 13)", x.of(7, 13), 0);
    }

    private static void ofStates() {
        sentence("Promise 9", "7 its state: 0 done, 1 ready, 2 sleeps, 3 waits by a LOCK, 4 by a TAKE, 5 by a SEND");
        TurnSlots x = machine("1:a1", "2:w99,a1", "3:l0,l0", "4:t", "5:s6");
        fillInbox(x, 6);
        x.prefer(2, 9);
        x.prefer(3, 8);
        x.step(2);
        Checks.give(x, "1:a1");
        x.step(2);
        Checks.give(x, "1:a1");
        int[] states = {DONE, READY, SLEEPS, BY_LOCK, BY_TAKE, BY_SEND, DONE, DONE};
        for (int context = 0; context < 8; context++) {
            due("state of " + context, state(x, context), states[context]);
        }
    }

    private static void accounts() {
        sentence("Promise 9", "10 own slots in which it ran, 11 slots of others in which it ran, 12 own slots that were given away, 13 own slots that were idle");
        TurnSlots x = machine("0:a1,w99", "3:a1,a1,a1,a1,a1");
        x.step(16);
        int[][] accounts = {
            {1, 1, 0, 1}, {0, 0, 1, 1}, {0, 0, 1, 1}, {1, 4, 0, 1}, {0, 0, 1, 1}, {0, 0, 1, 1}, {0, 0, 1, 1}, {0, 0, 0, 2}};
        for (int context = 0; context < 8; context++) {
            for (int i = 0; i < 4; i++) {
                due("of(" + context + ", " + (10 + i) + ")", x.of(context, 10 + i), accounts[context][i]);
            }
        }
        due("given away", x.count(6), 5);
        due("idle", x.count(5), 9);
    }

    private static void commandErrors() {
        sentence("Promise 10", "NO_SUCH if there is no such context or command; BAD_VALUE if what is out of range");
        TurnSlots x = machine("7:t,t,t,t,t,t,t,t,t,t,t,t,t,t,t,l3");
        for (int place : new int[] {-1, 16, Integer.MIN_VALUE, Integer.MAX_VALUE}) {
            due("place " + place, x.command(7, place, 0), NO_SUCH);
        }
        for (int what : new int[] {-1, 3, Integer.MIN_VALUE, Integer.MAX_VALUE}) {
            due("what " + what, x.command(7, 0, what), BAD_VALUE);
        }
        due("context 8", x.command(8, 0, 0), NO_SUCH);
        due("context -1", x.command(-1, 0, 0), NO_SUCH);
        due("one without commands", x.command(6, 0, 0), NO_SUCH);
        due("the first", x.command(7, 0, 0), TAKE);
        due("the last", x.command(7, 15, 0), LOCK);
        due("its n", x.command(7, 15, 1), 3);
        Checks.give(x, "7:a1");
        due("the only one", x.command(7, 0, 0), ADD);
        due("one of the program that it had", x.command(7, 1, 0), NO_SUCH);
        due("the last of it", x.command(7, 15, 0), NO_SUCH);
        due("commands that ran stay", commandThatRan(), 6);
    }

    private static int commandThatRan() {
        TurnSlots x = machine("2:a6");
        x.run();
        return x.command(2, 0, 1);
    }

    private static void commandMarks() {
        sentence("Promise 10", "2 its mark (1 on, 0 off)");
        TurnSlots x = machine("0:b1,b1,b1,b1,b1,b1,b1,b1,b1,b1,b1,b1,b1,b1,b1,b15");
        due("at first", x.command(0, 15, 2), 0);
        x.step(1);
        due("the first is on", x.command(0, 0, 2), 1);
        due("the second is not", x.command(0, 1, 2), 0);
        due("nor the last", x.command(0, 15, 2), 0);
        TurnSlots y = machine("0:a1,a1,a1,a1,a1,a1,a1,a1,a1,a1,a1,a1,a1,a1,a1,b15");
        y.step(16);
        due("the last is on", y.command(0, 15, 2), 1);
        due("back at the first", place(y, 0), 0);
        y.step(16);
        due("off behind the second time", y.command(0, 15, 2), 0);
        due("another context has its own marks", y.command(1, 15, 2), NO_SUCH);
    }

    private static void inboxErrors() {
        sentence("Promise 11", "NO_SUCH if there is no such context or number");
        TurnSlots x = new TurnSlots();
        due("an empty one", x.inbox(7, 0), NO_SUCH);
        x.post(7, 0);
        due("its only number, 0", x.inbox(7, 0), 0);
        due("no second", x.inbox(7, 1), NO_SUCH);
        due("-1", x.inbox(7, -1), NO_SUCH);
        x.post(7, 2);
        x.post(7, 3);
        x.post(7, 999);
        due("the fourth", x.inbox(7, 3), 999);
        for (int place : new int[] {-1, 4, Integer.MIN_VALUE, Integer.MAX_VALUE}) {
            due("place " + place, x.inbox(7, place), NO_SUCH);
        }
        for (int context : new int[] {-1, 8, Integer.MIN_VALUE, Integer.MAX_VALUE}) {
            due("context " + context, x.inbox(context, 0), NO_SUCH);
        }
    }

    private static void holderReturns() {
        sentence("Promise 12", "Returns the context; NO_SUCH if there is no such lock; NONE if it is free.");
        TurnSlots x = machine("0:l0", "7:l3");
        due("free", x.holder(0), NONE);
        x.run();
        due("0", x.holder(0), 0);
        due("7", x.holder(3), 7);
        due("free still", x.holder(1), NONE);
        for (int lock : new int[] {-1, 4, Integer.MIN_VALUE, Integer.MAX_VALUE}) {
            due("lock " + lock, x.holder(lock), NO_SUCH);
        }
    }

    private static void countErrors() {
        sentence("Promise 13", "BAD_VALUE if what is out of range");
        TurnSlots x = new TurnSlots();
        for (int what : new int[] {-1, 10, 256, Integer.MIN_VALUE, Integer.MAX_VALUE}) {
            due("count(" + what + ")", x.count(what), BAD_VALUE);
        }
        due("count(0)", x.count(0), 0);
        due("count(9)", x.count(9), 0);
    }

    private static void countsAndSets() {
        sentence("Promise 13", "0 slots that have passed, 1 contexts that are done, 2 contexts that are ready, as a set");
        TurnSlots x = machine("0:a1", "1:a1", "2:a1", "3:a1", "4:a1", "5:a1", "6:a1", "7:a1");
        for (int slot = 0; slot < 8; slot++) {
            due("slots", x.count(0), slot);
            due("done", x.count(1), slot);
            due("ready", x.count(2), 256 - (1 << slot));
            due("next", x.count(7), slot);
            x.step(1);
        }
        due("all done", x.count(1), 8);
        due("none ready", x.count(2), 0);
        due("nobody next", x.count(7), NONE);
    }

    private static void countTheNext() {
        sentence("Promise 13", "7 the context that would run in the next slot (NONE)");
        TurnSlots x = machine("0:w1,w2,a1", "3:t");
        due("0", x.count(7), 0);
        x.step(1);
        due("asleep for 1, so that it can run in it", x.count(7), 0);
        x.step(1);
        due("asleep for 2", x.count(7), NONE);
        due("asked twice, the same", x.count(7), NONE);
        x.step(1);
        due("asleep for 1 again", x.count(7), 0);
        due("no slot passed by asking", x.count(0), 3);
        due("none that waits", machine("3:t").count(7), NONE);
        due("none in a new object", new TurnSlots().count(7), NONE);
        TurnSlots y = machine("5:a1", "6:a1");
        due("the first behind 0", y.count(7), 5);
        y.prefer(6, 1);
        due("the greater priority", y.count(7), 6);
        y.step(1);
        due("the one that is left", y.count(7), 5);
    }

    private static void countTheNextAtTheLimit() {
        sentence("Promise 13", "0 slots that have passed");
        TurnSlots x = aged(100);
        due("slots", x.count(0), 100000);
        due("idle, given away and own ones", x.count(5) + x.count(6) + x.of(7, 10), 100000);
    }

    private static void countThePadAndTheChanges() {
        sentence("Promise 13", "8 the length of the pad, 9 how many changes can be undone");
        TurnSlots x = new TurnSlots();
        for (int i = 1; i <= 72; i++) {
            due("put", x.put('a'), i);
            due("length of the pad", x.count(8), i);
        }
        x.put('a');
        due("not more than 72", x.count(8), 72);
        for (int i = 1; i <= 8; i++) {
            x.prefer(0, 1);
            due("changes", x.count(9), Math.min(i, 6));
        }
        x.undo();
        due("one less", x.count(9), 5);
        x.wipe();
        due("an empty pad", x.count(8), 0);
        due("is no change", x.count(9), 5);
    }
}
