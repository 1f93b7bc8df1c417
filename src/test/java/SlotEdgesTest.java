/** The edges of the commands, of "Slots" and of the promises 7 and 8. */
public final class SlotEdgesTest extends Edges {
    private static final String COMMANDS = "Contexts, programs";

    public static void main(String[] args) {
        begin("SlotEdgesTest");
        placeOneMore();
        addToTheSum();
        sendToTheEnd();
        sendToItself();
        takeTheFirst();
        lockHeld();
        lockAndFree();
        waitForSlots();
        backWithItsMarkOff();
        backWithItsMarkOn();
        backsInsideBacks();
        notReadyWhenDoneOrAsleep();
        notReadyBySend();
        notReadyByTake();
        notReadyByLock();
        locksStay();
        slotsLeftOverByEight();
        sleepersFirst();
        wakersRunAtOnce();
        ownSlotFirst();
        greatestLentPriority();
        ofSeveralTheFirstBehind();
        roundFromSevenToZero();
        idleSlots();
        stepReturns();
        stepErrors();
        stepLimit();
        runEnds();
        runThousand();
        runReturns();
        runLimit();
        checks.end();
    }

    private static void placeOneMore() {
        sentence(COMMANDS, "the place becomes one more by each of them, but as told for BACK");
        String[] programs = {"0:a0,a1", "0:s1,a1", "0:t,a1", "0:l0,a1", "0:f0,a1", "0:w0,a1", "0:w99,a1"};
        for (String program : programs) {
            TurnSlots x = machine(program);
            x.post(0, 1);
            due(program, x.step(1), 0);
            due("place behind " + program, place(x, 0), 1);
        }
    }

    private static void addToTheSum() {
        sentence(COMMANDS, "ADD (0), n (0 to 99): n is added to the sum.");
        TurnSlots x = machine("0:a0,a99,a1");
        x.step(1);
        due("0", sum(x, 0), 0);
        x.step(1);
        due("99", sum(x, 0), 99);
        x.step(1);
        due("100", sum(x, 0), 100);
        due("-1", x.add(0, ADD, -1), BAD_VALUE);
        due("100", x.add(0, ADD, 100), BAD_VALUE);
    }

    private static void sendToTheEnd() {
        sentence(COMMANDS, "SEND (1), a context c: the sum is put at the end of the inbox of c (perhaps the own one).");
        TurnSlots x = machine("0:a7,s1,a1,s1,a1,s1,a1,s1,s1");
        x.step(2);
        due("into an empty one", x.inbox(1, 0), 7);
        x.step(6);
        due("four", x.of(1, 5), 4);
        for (int i = 0; i < 4; i++) {
            due("number " + i, x.inbox(1, i), 7 + i);
        }
        due("no fifth", x.step(1), NONE);
        due("four still", x.of(1, 5), 4);
        due("the last of them", x.inbox(1, 3), 10);
        due("the sum stays", sum(x, 0), 10);
        due("to no context", x.add(2, SEND, 8), BAD_VALUE);
        due("nor to -1", x.add(2, SEND, -1), BAD_VALUE);
        due("to 7", x.add(2, SEND, 7), 1);
        due("to 0", x.add(2, SEND, 0), 2);
    }

    private static void sendToItself() {
        sentence(COMMANDS, "SEND (1), a context c: the sum is put at the end of the inbox of c (perhaps the own one).");
        TurnSlots x = machine("7:a3,s7,a4,s7,t,t");
        x.step(4);
        due("the first", x.inbox(7, 0), 3);
        due("the second", x.inbox(7, 1), 7);
        x.step(2);
        due("both taken", sum(x, 7), 17);
        due("none left", x.of(7, 5), 0);
    }

    private static void takeTheFirst() {
        sentence(COMMANDS, "the first number of the own inbox is taken out, and added to the sum");
        TurnSlots x = machine("4:t,t,t,t,t");
        fillInbox(x, 4);
        fillInbox(x, 5);
        int[] sums = {1, 3, 6, 10};
        for (int i = 0; i < 4; i++) {
            due("TAKE", x.step(1), 4);
            due("its sum", sum(x, 4), sums[i]);
            due("numbers left", x.of(4, 5), 3 - i);
            due("the next one is first", x.inbox(4, 0), i < 3 ? i + 2 : NO_SUCH);
        }
        due("none from an empty one", x.step(1), NONE);
        due("the sum stays", sum(x, 4), 10);
        due("another inbox stays", x.of(5, 5), 4);
        due("TAKE with 1", x.add(0, TAKE, 1), BAD_VALUE);
        due("TAKE with -1", x.add(0, TAKE, -1), BAD_VALUE);
        due("TAKE with 0", x.add(0, TAKE, 0), 1);
    }

    private static void lockHeld() {
        sentence(COMMANDS, "the lock is held by the context");
        TurnSlots x = machine("6:l0,l3");
        x.step(1);
        due("lock 0", x.holder(0), 6);
        due("not lock 3", x.holder(3), NONE);
        x.step(1);
        due("lock 3", x.holder(3), 6);
        due("nor those between", x.holder(1) + x.holder(2), 2 * NONE);
        for (int n : new int[] {-1, 4}) {
            due("LOCK with " + n, x.add(0, LOCK, n), BAD_VALUE);
            due("FREE with " + n, x.add(0, FREE, n), BAD_VALUE);
        }
    }

    private static void lockAndFree() {
        sentence(COMMANDS, "FREE (4), a lock k: the lock is free, if the context holds it (otherwise nothing).");
        TurnSlots x = machine("0:l0,l3,f1,f2,f3,f0,f0", "1:l1,f2", "2:w3,f1");
        x.step(2);
        due("0 holds 0", x.holder(0), 0);
        due("1 holds 1", x.holder(1), 1);
        x.prefer(0, 9);
        x.step(4);
        due("0 ran a FREE of a lock of another", place(x, 0), 4);
        due("it is held still", x.holder(1), 1);
        due("a FREE of a free one", x.holder(2), NONE);
        x.step(1);
        due("FREE of 3", x.holder(3), NONE);
        due("0 is held still", x.holder(0), 0);
        x.step(1);
        due("FREE of 0", x.holder(0), NONE);
        due("FREE of it again goes on", x.step(1), 0);
        x.run();
        due("all done", x.count(1), 8);
        due("none but the holder freed it", x.holder(1), 1);
    }

    private static void waitForSlots() {
        sentence(COMMANDS, "the context sleeps for n slots (behind a WAIT with 0 or 1 it can run in the very next slot)");
        for (int n : new int[] {0, 1, 2, 3, 8, 98, 99}) {
            TurnSlots x = machine("3:w" + n + ",a1");
            x.step(1);
            due("sleeps behind WAIT " + n, x.of(3, 6), n);
            due("state behind WAIT " + n, state(x, 3), n == 0 ? READY : SLEEPS);
            for (int i = 1; i < n; i++) {
                due("slot " + i + " behind WAIT " + n, x.step(1), NONE);
                due("slots to sleep", x.of(3, 6), n - i);
            }
            due("next behind WAIT " + n, x.count(7), 3);
            due("runs behind WAIT " + n, x.step(1), 3);
            due("slots behind WAIT " + n, x.count(0), n == 0 ? 2 : n + 1);
        }
        TurnSlots x = new TurnSlots();
        due("WAIT -1", x.add(0, WAIT, -1), BAD_VALUE);
        due("WAIT 100", x.add(0, WAIT, 100), BAD_VALUE);
    }

    private static void backWithItsMarkOff() {
        sentence(COMMANDS, "if it is off, it is on then, and the place becomes n less than that of the BACK (0, if that is below 0)");
        for (int n = 1; n <= 15; n++) {
            TurnSlots x = machine("0:a1,a2,a4,a8,b" + n + ",a16");
            due("its mark at first", x.command(0, 4, 2), 0);
            x.step(5);
            due("place behind BACK " + n, place(x, 0), n < 4 ? 4 - n : 0);
            due("its mark then", x.command(0, 4, 2), 1);
            due("the sum stays", sum(x, 0), 15);
        }
        TurnSlots x = machine("0:b15,a1");
        x.step(1);
        due("place behind a BACK at 0", place(x, 0), 0);
        due("its mark", x.command(0, 0, 2), 1);
        due("BACK 0", x.add(0, BACK, 0), BAD_VALUE);
        due("BACK 16", x.add(0, BACK, 16), BAD_VALUE);
        due("BACK 15", x.add(0, BACK, 15), 3);
        due("BACK 1", x.add(0, BACK, 1), 4);
    }

    private static void backWithItsMarkOn() {
        sentence(COMMANDS, "if it is on, it is off then, and the place becomes one more");
        TurnSlots x = machine("0:a1,b1,a9");
        x.step(2);
        due("on behind the first", x.command(0, 1, 2), 1);
        x.step(2);
        due("off behind the second", x.command(0, 1, 2), 0);
        due("the place is one more", place(x, 0), 2);
        due("an ADD ran twice", sum(x, 0), 2);
        x = machine("0:b1");
        x.step(1);
        due("a BACK alone is not done", state(x, 0), READY);
        x.step(1);
        due("but behind its second", state(x, 0), DONE);
        due("its place", place(x, 0), 1);
        due("its mark", x.command(0, 0, 2), 0);
        due("a mark of a command that is no BACK", machine("0:a1").command(0, 0, 2), 0);
    }

    private static void backsInsideBacks() {
        sentence(COMMANDS, "each BACK has a mark, off at first");
        TurnSlots x = machine("0:a1,b1,b2,a50");
        x.step(4);
        due("the inner one is off again", x.command(0, 1, 2), 0);
        x.step(1);
        due("the outer one is on", x.command(0, 2, 2), 1);
        due("back to the start", place(x, 0), 0);
        x.step(2);
        due("the inner one is on once more", x.command(0, 1, 2), 1);
        due("the outer one still", x.command(0, 2, 2), 1);
        due("until all are off", x.run(), 4);
        due("the ADD ran four times", sum(x, 0), 54);
        due("marks", x.command(0, 1, 2) + x.command(0, 2, 2), 0);
    }

    private static void notReadyWhenDoneOrAsleep() {
        sentence(COMMANDS, "A context is ready if it is not done, does not sleep");
        TurnSlots x = machine("0:w2,a1");
        due("ready", x.count(2), 1);
        x.step(1);
        due("asleep", x.count(2), 0);
        x.step(1);
        due("asleep still", x.count(2), 0);
        x.step(1);
        due("done", x.count(2), 0);
        due("state", state(x, 0), DONE);
        due("nobody runs", x.step(1), NONE);
    }

    private static void notReadyBySend() {
        sentence(COMMANDS, "its next command is no SEND to a context whose inbox is full");
        TurnSlots x = machine("0:s5,s5");
        for (int i = 1; i <= 4; i++) {
            due("while " + (i - 1) + " are in it", state(x, 0), READY);
            x.post(5, i);
        }
        due("while 4 are in it", state(x, 0), BY_SEND);
        due("none is ready", x.count(2), 0);
        x.undo();
        due("while 3 are in it", state(x, 0), READY);
        x.step(1);
        due("its own SEND filled it", state(x, 0), BY_SEND);
        due("a full inbox hinders no other command", machine("0:a1").count(2), 1);
        TurnSlots y = machine("0:a1,s0");
        fillInbox(y, 0);
        due("an ADD with its own inbox full", state(y, 0), READY);
        y.add(0, SEND, 0);
        y.step(1);
        due("a SEND to itself with its own inbox full", state(y, 0), BY_SEND);
        y.undo();
        y.undo();
        y.undo();
        y.add(0, SEND, 0);
        y.step(1);
        due("a SEND to itself with room for one", state(y, 0), READY);
    }

    private static void notReadyByTake() {
        sentence(COMMANDS, "no TAKE with an empty own inbox");
        TurnSlots x = machine("0:t,t", "1:t");
        due("empty", state(x, 0), BY_TAKE);
        x.post(1, 3);
        due("empty though another one has a number", state(x, 0), BY_TAKE);
        x.post(0, 0);
        due("one number, even 0", state(x, 0), READY);
        x.step(1);
        due("empty again", state(x, 0), BY_TAKE);
    }

    private static void notReadyByLock() {
        sentence(COMMANDS, "no LOCK of a lock that is held (by whomever)");
        TurnSlots x = machine("0:l1,l1", "1:l1", "2:l1", "3:l2");
        x.step(1);
        due("held by itself", state(x, 0), BY_LOCK);
        due("held by another", state(x, 1), BY_LOCK);
        due("for both", state(x, 2), BY_LOCK);
        due("another lock", state(x, 3), READY);
        TurnSlots y = machine("0:l1", "1:l1");
        y.step(1);
        due("held by one that is done", state(y, 1), BY_LOCK);
        y.release(1);
        due("free", state(y, 1), READY);
    }

    private static void locksStay() {
        sentence(COMMANDS, "A lock stays held, also when its holder is done.");
        TurnSlots x = machine("0:l0", "1:w1,a1");
        x.step(1);
        due("the holder is done", state(x, 0), DONE);
        due("held", x.holder(0), 0);
        x.run();
        due("when all are done", x.holder(0), 0);
        x.step(200);
        due("200 slots later", x.holder(0), 0);
        Checks.give(x, "0:");
        due("without the program", x.holder(0), 0);
        Checks.give(x, "0:f0");
        x.step(1);
        x.run();
        due("until it frees it", x.holder(0), NONE);
    }

    private static void slotsLeftOverByEight() {
        sentence("Slots", "Slots follow one another, numbered from 0; the slot t is that of the context t left over by 8.");
        TurnSlots x = new TurnSlots();
        for (int slot = 0; slot < 18; slot++) {
            int idled = x.of(slot % 8, 13);
            x.step(1);
            due("slot " + slot + " is that of " + slot % 8, x.of(slot % 8, 13), idled + 1);
        }
        due("three of 0", x.of(0, 13), 3);
        due("three of 1", x.of(1, 13), 3);
        due("two of 2", x.of(2, 13), 2);
        due("two of 7", x.of(7, 13), 2);
        TurnSlots y = machine("7:a1,a1", "0:a1,a1");
        y.step(7);
        Checks.give(y, "7:a1");
        Checks.give(y, "0:a1");
        due("slot 7", y.step(1), 7);
        due("slot 8", y.step(1), 0);
    }

    private static void sleepersFirst() {
        sentence("Slots", "first each context that sleeps has one slot less to sleep (it does not sleep any more when 0 are left)");
        TurnSlots x = machine("0:w3,a1", "1:w3", "2:w99,a1");
        x.step(3);
        due("0 behind two slots", x.of(0, 6), 1);
        due("1, done, behind one", x.of(1, 6), 2);
        due("2 has just begun", x.of(2, 6), 99);
        due("slot 3: 0 wakes", x.step(1), 0);
        due("1 sleeps on", x.of(1, 6), 1);
        due("2 too", x.of(2, 6), 98);
        x.step(1);
        due("1 does not sleep any more", x.of(1, 6), 0);
        x.step(1);
        due("not less than 0", x.of(1, 6), 0);
        due("nor for one that never slept", x.of(5, 6), 0);
    }

    private static void wakersRunAtOnce() {
        sentence("Slots", "Then the context of the slot runs its next command, if it is ready.");
        TurnSlots x = machine("1:w8,a1", "4:w1,a1,a1,a1,a1,a1,a1,a1");
        x.prefer(1, 1);
        due("slot 0", x.step(1), 1);
        due("slots 1 to 7", x.step(7), 4);
        due("slot 8: 1 wakes, and has the greatest priority", x.count(7), 1);
        due("though it is not ready ahead of it", x.count(2), 1 << 4);
        due("slot 8", x.step(1), 1);
        TurnSlots y = machine("3:a0,w7,a1", "6:a1,a1,a1,a1,a1,a1,a1,a1,a1,a1,a1,a1");
        y.prefer(6, 9);
        y.step(3);
        y.step(1);
        y.step(7);
        due("slot 11: its own", y.step(1), 3);
    }

    private static void ownSlotFirst() {
        sentence("Slots", "Then the context of the slot runs its next command, if it is ready.");
        TurnSlots x = machine("0:a1", "1:a1,a1,a1,a1,a1,a1,a1,a1,a1,a1", "7:a1");
        x.prefer(1, 9);
        due("slot 0: 0 with 0, not 1 with 9", x.step(1), 0);
        due("slots 1 to 6", x.step(6), 1);
        due("slot 7: 7 with 0", x.step(1), 7);
        due("own slots of 0", x.of(0, 10), 1);
        due("own slots of 1", x.of(1, 10), 1);
        due("own slots of 7", x.of(7, 10), 1);
        due("given away", x.count(6), 5);
    }

    private static void greatestLentPriority() {
        sentence("Slots", "Otherwise the ready context with the greatest lent priority runs its next command");
        TurnSlots x = machine("1:l0,a1,a1,a1,a1", "3:a1,a1,a1,a1,a1", "6:l0");
        x.step(1);
        due("1 holds it", x.holder(0), 1);
        x.prefer(3, 5);
        x.prefer(6, 6);
        x.step(1);
        due("slot 2: 1 with 0, to which 6 lends 6", x.step(1), 1);
        x.prefer(6, 5);
        due("slot 3 is that of 3", x.step(1), 3);
        due("slot 4: both with 5, 1 comes first behind 4", x.step(1), 1);
        x.prefer(6, 4);
        due("slot 5: 3 with 5", x.step(1), 3);
        x.prefer(1, 6);
        due("slot 6: 1 with its own 6", x.step(1), 1);
    }

    private static void ofSeveralTheFirstBehind() {
        sentence("Slots", "of several the one that comes first behind the context of the slot (going round from 7 to 0)");
        for (int owner = 0; owner < 8; owner++) {
            for (int behind = 1; behind < 8; behind++) {
                TurnSlots x = new TurnSlots();
                if (owner > 0) {
                    x.step(owner);
                }
                for (int other = behind; other < 8; other++) {
                    x.add((owner + other) % 8, ADD, 1);
                }
                due("slot of " + owner + ", from " + behind + " behind on", x.step(1), (owner + behind) % 8);
            }
        }
    }

    private static void roundFromSevenToZero() {
        sentence("Slots", "of several the one that comes first behind the context of the slot (going round from 7 to 0)");
        TurnSlots x = machine("0:a1,a1", "6:a1,a1");
        x.step(6);
        due("both ran out", x.count(1), 8);
        Checks.give(x, "0:a1,a1");
        Checks.give(x, "5:a1,a1");
        due("slot 6: 0, as 7 has nothing", x.step(1), 0);
        due("slot 7: 0", x.step(1), 0);
        x.prefer(5, 1);
        Checks.give(x, "1:a1");
        due("slot 8: 5 by its priority, though 1 comes first", x.step(1), 5);
        due("slot 9: its own", x.step(1), 1);
        due("slot 10: 5", x.step(1), 5);
        sentence("Slots", "the slot is given away");
        due("by 6", x.of(6, 12), 1);
        due("by 7", x.of(7, 12), 1);
        due("not by 1", x.of(1, 12), 1);
        due("slots of others in which 5 ran", x.of(5, 11), 2);
        due("own slots of 5", x.of(5, 10), 0);
    }

    private static void idleSlots() {
        sentence("Slots", "If no context is ready, the slot is idle.");
        TurnSlots x = machine("2:w3,l0,l0");
        due("slot 0", x.step(1), 2);
        due("slot 1: it sleeps", x.step(1), NONE);
        due("idle slots", x.count(5), 1);
        due("slot 2: it sleeps, though it is its own", x.step(1), NONE);
        due("idle slots", x.count(5), 2);
        due("slot 3", x.step(1), 2);
        due("idle slots stay", x.count(5), 2);
        due("slot 4: it waits", x.step(1), NONE);
        due("idle slots", x.count(5), 3);
        due("by 1", x.of(1, 13), 1);
        due("by 2", x.of(2, 13), 1);
        due("by 4", x.of(4, 13), 1);
        due("by 3, which gave it away", x.of(3, 13), 0);
        due("slots", x.count(0), 5);
        due("an idle slot is not given away", x.count(6), 2);
    }

    private static void stepReturns() {
        sentence("Promise 7", "Returns the context that ran a command in the last one of them, NONE if it was idle");
        TurnSlots x = machine("0:a1,w2,a1", "5:a1");
        due("two, of which 0 and 5 have one", x.step(2), 5);
        due("the third", x.step(1), 0);
        due("the fourth", x.step(1), NONE);
        due("the fifth", x.step(1), 0);
        x.undo();
        x.undo();
        x.undo();
        due("two of which the last is idle", x.step(2), NONE);
        x.undo();
        due("three of which the second is idle", x.step(3), 0);
        TurnSlots y = machine("0:a1");
        due("two of which the first is not idle", y.step(2), NONE);
        TurnSlots z = machine("0:w5,a1");
        due("six of which the last is not idle", z.step(6), 0);
    }

    private static void stepErrors() {
        sentence("Promise 7", "BAD_VALUE if slots is out of range");
        TurnSlots x = machine("0:a1");
        for (int slots : new int[] {0, -1, 201, Integer.MIN_VALUE, Integer.MAX_VALUE}) {
            due("step of " + slots, x.step(slots), BAD_VALUE);
        }
        due("no slot passed", x.count(0), 0);
        due("step of 1", x.step(1), 0);
        due("slots", x.count(0), 1);
        due("step of 200", x.step(200), NONE);
        due("slots", x.count(0), 201);
        due("both are changes", x.count(9), 3);
    }

    private static void stepLimit() {
        sentence("Promise 7", "TOO_MANY if more than 100000 slots would have passed");
        TurnSlots x = aged(99);
        for (int i = 0; i < 4; i++) {
            x.step(200);
        }
        x.step(1);
        due("slots", x.count(0), 99801);
        due("to 100001", x.step(200), TOO_MANY);
        yes("to 100000", x.step(199) >= NONE && x.count(0) == 100000);
        due("one more", x.step(1), TOO_MANY);
        due("200 more", x.step(200), TOO_MANY);
        due("undo", x.undo(), 5);
        due("slots then", x.count(0), 99801);
        due("to 100001 again", x.step(200), TOO_MANY);
        x.step(198);
        due("to 100001 from 99999", x.step(2), TOO_MANY);
        x.step(1);
        due("to 100000 from 99999", x.count(0), 100000);
    }

    private static void runEnds() {
        sentence("Promise 8", "Lets slots pass until all contexts are done, the machine is stuck, or 1000 slots have passed by that.");
        due("nothing to do", new TurnSlots().run(), 0);
        TurnSlots stuck = machine("0:t");
        due("stuck from the start", stuck.run(), 0);
        due("no slot passed", stuck.count(0), 0);
        TurnSlots x = machine("0:a1,a1", "1:w6,l0,l0", "2:w99");
        due("not before the last that wakes is stuck", x.run(), 8);
        due("stuck", x.count(4), 1);
        yes("though a done one sleeps", x.of(2, 6) > 0);
        TurnSlots y = machine("0:a1", "3:w50");
        due("not until a done one wakes", y.run(), 2);
        due("all done", y.count(1), 8);
        due("again", y.run(), 0);
    }

    private static void runThousand() {
        sentence("Promise 8", "or 1000 slots have passed by that");
        String sleeps = "0:w99,w99,w99,w99,w99,w99,w99,w99,w99,w99";
        TurnSlots x = machine(sleeps + ",w9,a1");
        due("done by the thousandth", x.run(), 1000);
        due("all done", x.count(1), 8);
        x = machine(sleeps + ",w10,a1");
        due("not done by the thousandth", x.run(), 1000);
        due("one is not", x.count(1), 7);
        due("the rest", x.run(), 1);
        x = machine(sleeps + ",w8,a1");
        due("done by the one before", x.run(), 999);
        x = machine(sleeps + ",w9,l0,l0");
        due("stuck by the thousandth", x.run(), 1000);
        due("stuck", x.count(4), 1);
        due("then at once", x.run(), 0);
    }

    private static void runReturns() {
        sentence("Promise 8", "Returns how many slots have passed by that");
        TurnSlots x = machine("7:a1,w3,a1");
        x.step(200);
        Checks.give(x, "7:a1,w3,a1");
        due("by that, not in all", x.run(), 5);
        due("in all", x.count(0), 205);
        sentence("Promise 8", "This is a change.");
        int changes = x.count(9);
        due("a run of no slots", x.run(), 0);
        due("is a change all the same", x.count(9), changes + 1);
        due("undone", x.undo(), changes);
        due("slots stay", x.count(0), 205);
        x.undo();
        due("slots that run let pass are undone", x.count(0), 200);
    }

    private static void runLimit() {
        sentence("Promise 8", "TOO_MANY if more than 99000 slots have passed so far");
        TurnSlots x = aged(99);
        due("slots", x.count(0), 99000);
        due("at 99000", x.run(), 1000);
        due("slots then", x.count(0), 100000);
        due("at 100000", x.run(), TOO_MANY);
        x.undo();
        x.step(1);
        due("at 99001", x.run(), TOO_MANY);
        Checks.give(x, "7:");
        due("all done", x.count(1), 8);
        due("at 99001, though none would pass", x.run(), TOO_MANY);
        due("what if goes on beyond", aged(100).sumBehind(0, 200), 0);
    }
}
