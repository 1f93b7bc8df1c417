import java.util.ArrayDeque;

/** The edges of the promises 20 to 22. */
public final class HistoryEdgesTest extends Edges {
    public static void main(String[] args) {
        begin("HistoryEdgesTest");
        undoOfEachChange();
        asItWas();
        allButThePad();
        allButTheSaves();
        allButTheHistory();
        sixStates();
        oldestIsDropped();
        againAndAgain();
        noErrorsRecorded();
        nothingElseRecorded();
        nothingIsDifferent();
        undoOfNothing();
        saveOverwrites();
        saveKeepsApart();
        saveReturns();
        saveErrors();
        restoreKeeps();
        restoreIsAChange();
        restoreLeavesPadAndHistory();
        restoreReturns();
        restoreErrors();
        restoreOfTheSame();
        checks.end();
    }

    /** Makes the change number i, of 9; each of them is none that returns an error in a machine of changeable(). */
    private static int change(TurnSlots x, int i) {
        switch (i) {
            case 0: return x.add(0, BACK, 3);
            case 1: return x.read();
            case 2: return x.prefer(3, 9);
            case 3: return x.post(2, 999);
            case 4: return x.release(1);
            case 5: return x.step(5);
            case 6: return x.run();
            case 7: return x.restore(0);
            default: return x.restore(1);
        }
    }

    private static TurnSlots changeable() {
        TurnSlots x = machine("0:a1,b1,a7", "1:l1,w2,s2,a5", "2:t,l1", "3:w5,a3");
        x.save(1);
        x.prefer(1, 2);
        x.step(2);
        x.save(0);
        x.step(5);
        Checks.write(x, "1:a44");
        return x;
    }

    private static void undoOfEachChange() {
        sentence("Promise 20", "Undoes the latest change");
        for (int i = 0; i < 9; i++) {
            TurnSlots got = changeable();
            TurnSlots want = changeable();
            yes("change " + i, change(got, i) >= 0);
            due("changes behind change " + i, got.count(9), 6);
            due("undo of change " + i, got.undo(), 5);
            want.undo();
            change(want, 2);
            want.undo();
            want.step(5);
            due("nothing else", got.undo(), 4);
        }
    }

    private static void asItWas() {
        sentence("Promise 20", "everything except the pad, the slots for saved states and the history is as it was before it");
        for (int i = 0; i < 9; i++) {
            TurnSlots got = changeable();
            TurnSlots want = changeable();
            change(got, i);
            got.undo();
            if (i == 1) {
                Checks.write(got, "1:a44");
            }
            change(want, 2);
            want.undo();
            same("behind undo of change " + i, got, want);
        }
        TurnSlots x = machine("0:l0,l1,a5", "1:t");
        x.run();
        x.undo();
        due("locks", x.holder(0) + x.holder(1), 2 * NONE);
        due("place", place(x, 0), 0);
        due("accounts", x.of(0, 10) + x.of(0, 11) + x.of(1, 12) + x.count(5) + x.count(6), 0);
        x.step(9);
        due("idle slots", x.count(5), 6);
        x.undo();
        due("no idle slots as before", x.count(5) + x.of(3, 13), 0);
    }

    private static void allButThePad() {
        sentence("Promise 20", "everything except the pad");
        TurnSlots x = new TurnSlots();
        Checks.write(x, "0:a1");
        x.read();
        due("read empties it", x.count(8), 0);
        x.undo();
        due("undo of read does not fill it", x.count(8), 0);
        due("but takes the program", x.of(0, 0), 0);
        x.prefer(0, 1);
        Checks.write(x, "0:a1,");
        x.undo();
        due("what was put behind a change stays", x.count(8), 5);
        due("its fault", x.fault(), 5);
        x.prefer(0, 1);
        x.wipe();
        x.undo();
        due("what was wiped behind a change is gone", x.count(8), 0);
    }

    private static void allButTheSaves() {
        sentence("Promise 20", "the slots for saved states");
        TurnSlots x = machine("0:a1,a2,a4");
        x.step(1);
        x.save(0);
        x.step(1);
        x.save(1);
        x.undo();
        x.undo();
        due("no slots", x.count(0), 0);
        due("what was saved in 0 stays", x.restore(0), 1);
        due("its sum", sum(x, 0), 1);
        due("what was saved in 1 stays", x.restore(1), 2);
        due("its sum", sum(x, 0), 3);
        x.undo();
        due("undo of restore", sum(x, 0), 1);
        due("keeps what was saved", x.restore(1), 2);
    }

    private static void allButTheHistory() {
        sentence("Promise 20", "Returns how many changes can be undone then");
        TurnSlots x = new TurnSlots();
        for (int i = 1; i <= 5; i++) {
            x.prefer(0, i);
        }
        for (int i = 4; i >= 0; i--) {
            due("undo", x.undo(), i);
            due("as before", x.of(0, 3), i);
            due("count", x.count(9), i);
        }
        x.prefer(0, 7);
        due("an undo is no change that can be undone", x.count(9), 1);
        due("undo", x.undo(), 0);
        due("as before", x.of(0, 3), 0);
    }

    private static void sixStates() {
        sentence("Promise 20", "A history of at most 6 states is kept");
        for (int changes = 1; changes <= 14; changes++) {
            TurnSlots x = machine("0:t");
            x.undo();
            for (int i = 1; i <= changes; i++) {
                due("post or prefer", x.prefer(0, i % 10), (i - 1) % 10);
                due("can be undone", x.count(9), Math.min(i, 6));
            }
            int kept = Math.min(changes, 6);
            for (int i = 1; i <= kept; i++) {
                due("undo", x.undo(), kept - i);
                due("as it was", x.of(0, 3), (changes - i) % 10);
            }
            due("one more", x.undo(), NOT_POSSIBLE);
        }
    }

    private static void oldestIsDropped() {
        sentence("Promise 20", "when one more is recorded, the oldest one is dropped");
        TurnSlots x = new TurnSlots();
        for (int i = 1; i <= 7; i++) {
            x.add(i % 8, ADD, i);
        }
        for (int i = 0; i < 6; i++) {
            x.undo();
        }
        due("the first of seven stays", x.of(1, 0), 1);
        due("the second is undone", x.of(2, 0), 0);
        due("none left", x.undo(), NOT_POSSIBLE);
        due("the first stays", x.of(1, 0), 1);
        due("one more", x.add(0, ADD, 1), 1);
        due("can be undone", x.undo(), 0);
        due("alone", x.undo(), NOT_POSSIBLE);
    }

    /** The places where states are held come round: the answers must not tell. */
    private static void againAndAgain() {
        sentence("Promise 20", "when one more is recorded, the oldest one is dropped");
        TurnSlots x = new TurnSlots();
        ArrayDeque<Integer> past = new ArrayDeque<>();
        int passed = 0;
        for (int round = 1; round <= 12; round++) {
            for (int i = 0; i < round; i++) {
                past.addLast(passed);
                if (past.size() > 6) {
                    past.removeFirst();
                }
                x.step(round);
                passed += round;
            }
            for (int i = 0; i < round / 2 && !past.isEmpty(); i++) {
                passed = past.removeLast();
                due("undo in round " + round, x.undo(), past.size());
                due("slots", x.count(0), passed);
            }
        }
    }

    private static void noErrorsRecorded() {
        sentence("Promise 20", "each method that is a change, and returns no error, records the state before it");
        TurnSlots x = machine("0:t,t,t,t,t,t,t,t,t,t,t,t,t,t,t,t");
        x.add(0, ADD, 1);
        x.add(8, ADD, 1);
        x.add(1, 7, 1);
        x.read();
        x.prefer(8, 0);
        x.prefer(0, 10);
        x.post(8, 0);
        x.post(0, 1000);
        x.release(0);
        x.release(4);
        x.step(0);
        x.step(201);
        x.restore(0);
        x.restore(2);
        due("changes", x.count(9), 1);
        fillInbox(x, 1);
        x.post(1, 1);
        due("changes behind four posts", x.count(9), 5);
        due("undo", x.undo(), 4);
        due("the last post that was none is not undone", x.of(1, 5), 3);
    }

    private static void nothingElseRecorded() {
        sentence("Promise 20", "each method that is a change, and returns no error, records the state before it");
        TurnSlots x = machine("0:t", "1:a1");
        x.of(0, 4);
        x.command(0, 0, 0);
        x.inbox(0, 0);
        x.holder(0);
        x.count(7);
        x.slotsLeft();
        x.leftIf(0, 1, 9);
        x.sumBehind(0, 9);
        x.put('0');
        x.fault();
        x.wipe();
        x.save(0);
        due("changes", x.count(9), 2);
        for (int i = 0; i < 9; i++) {
            TurnSlots y = changeable();
            y.undo();
            int changes = y.count(9);
            change(y, i);
            due("change " + i, y.count(9), changes + 1);
        }
    }

    private static void nothingIsDifferent() {
        sentence("Promise 20", "(also if nothing is different then)");
        TurnSlots x = new TurnSlots();
        x.prefer(5, 0);
        due("the same priority", x.count(9), 1);
        x.run();
        due("a run of no slots", x.count(9), 2);
        Checks.give(x, "5:");
        due("a program that it has", x.count(9), 3);
        x.save(0);
        x.restore(0);
        due("the same state", x.count(9), 4);
        for (int i = 3; i >= 0; i--) {
            due("undo", x.undo(), i);
        }
        due("no more", x.undo(), NOT_POSSIBLE);
    }

    private static void undoOfNothing() {
        sentence("Promise 20", "NOT_POSSIBLE if there is none");
        TurnSlots x = new TurnSlots();
        due("a new object", x.undo(), NOT_POSSIBLE);
        x.prefer(0, 3);
        due("one", x.undo(), 0);
        due("none", x.undo(), NOT_POSSIBLE);
        due("none still", x.undo(), NOT_POSSIBLE);
        due("priority", x.of(0, 3), 0);
        x.prefer(0, 4);
        due("one again", x.count(9), 1);
        due("undo", x.undo(), 0);
    }

    private static void saveOverwrites() {
        sentence("Promise 21", "and overwrites what was saved there");
        TurnSlots x = machine("0:a1,a2,a4,a8,a16");
        for (int i = 1; i <= 5; i++) {
            x.step(1);
            due("save", x.save(0), i);
        }
        x.step(100);
        due("restore", x.restore(0), 5);
        due("the last sum", sum(x, 0), 31);
        x.undo();
        x.undo();
        x.undo();
        due("an earlier state", x.save(0), 4);
        x.step(9);
        due("it is back", x.restore(0), 4);
        due("its sum", sum(x, 0), 15);
    }

    private static void saveKeepsApart() {
        sentence("Promise 21", "Saves everything except the pad, the history and the slots for saved states in one of these");
        TurnSlots x = changeable();
        x.save(0);
        x.wipe();
        change(x, 0);
        change(x, 2);
        change(x, 3);
        change(x, 5);
        change(x, 6);
        Checks.give(x, "2:");
        Checks.give(x, "0:w99,a1");
        x.step(200);
        x.save(1);
        due("restore", x.restore(0), 7);
        TurnSlots want = changeable();
        want.wipe();
        want.prefer(7, 0);
        want.prefer(7, 0);
        same("restored", x, want);
        due("the other slot is its own", x.restore(1) > 200 ? 1 : 0, 1);
    }

    private static void saveReturns() {
        sentence("Promise 21", "Returns how many slots of the machine have passed");
        TurnSlots x = new TurnSlots();
        due("of a new object", x.save(0), 0);
        x.step(200);
        due("behind 200", x.save(1), 200);
        x.undo();
        due("behind undo", x.save(0), 0);
        due("at the limit", aged(100).save(1), 100000);
        sentence("Promise 21", "in one of these");
        due("save is no change", x.count(9), 0);
    }

    private static void saveErrors() {
        sentence("Promise 21", "BAD_VALUE if there is no such slot for saved states");
        TurnSlots x = new TurnSlots();
        for (int slot : new int[] {-1, 2, 6, Integer.MIN_VALUE, Integer.MAX_VALUE}) {
            due("save(" + slot + ")", x.save(slot), BAD_VALUE);
        }
        due("nothing was saved in 0", x.restore(0), NOT_POSSIBLE);
        due("nothing was saved in 1", x.restore(1), NOT_POSSIBLE);
        due("save(0)", x.save(0), 0);
        due("save(1)", x.save(1), 0);
    }

    private static void restoreKeeps() {
        sentence("Promise 22", "Restores what was saved last in a slot for saved states, which keeps it.");
        TurnSlots x = machine("0:a1,b1,a2", "1:t");
        x.step(2);
        x.save(1);
        for (int i = 0; i < 9; i++) {
            due("restore", x.restore(1), 2);
            due("its sum", sum(x, 0), 1);
            due("its mark", x.command(0, 1, 2), 1);
            due("its place", place(x, 0), 0);
            x.step(1 + i);
            x.post(1, i);
            x.add(1, ADD, 1);
            Checks.give(x, "0:a9");
        }
        due("restore", x.restore(1), 2);
        due("commands", x.of(0, 0), 3);
        due("its inbox", x.of(1, 5), 0);
        due("its other program", x.of(1, 0), 1);
    }

    private static void restoreIsAChange() {
        sentence("Promise 22", "This is a change.");
        TurnSlots x = machine("0:a1,a2,a4");
        x.save(0);
        x.step(3);
        due("restore", x.restore(0), 0);
        due("changes", x.count(9), 3);
        due("sum", sum(x, 0), 0);
        due("undo", x.undo(), 2);
        due("sum as before", sum(x, 0), 7);
        due("slots as before", x.count(0), 3);
        for (int i = 0; i < 6; i++) {
            x.restore(0);
        }
        due("changes", x.count(9), 6);
        for (int i = 0; i < 5; i++) {
            x.undo();
        }
        due("the oldest one left", sum(x, 0), 0);
        due("undo", x.undo(), 0);
        due("ahead of all restores", sum(x, 0), 7);
    }

    private static void restoreLeavesPadAndHistory() {
        sentence("Promise 21", "Saves everything except the pad, the history and the slots for saved states");
        TurnSlots x = new TurnSlots();
        x.prefer(0, 1);
        x.prefer(0, 2);
        Checks.write(x, "0:a1");
        x.save(0);
        x.prefer(0, 3);
        x.wipe();
        Checks.write(x, "7:");
        x.save(1);
        x.restore(0);
        due("the pad stays", x.count(8), 2);
        due("read of it", x.read(), 7);
        due("the history stays, with what came behind", x.count(9), 5);
        x.undo();
        due("undo of restore", x.undo(), 3);
        due("priority as before", x.of(0, 3), 3);
        due("the other slot stays", x.restore(1), 0);
        due("its priority", x.of(0, 3), 3);
    }

    private static void restoreReturns() {
        sentence("Promise 22", "Returns how many slots of the machine have passed then");
        TurnSlots x = aged(99);
        x.step(200);
        x.save(0);
        x.step(200);
        due("slots", x.count(0), 99400);
        due("restore", x.restore(0), 99200);
        due("slots then", x.count(0), 99200);
        due("run is above its limit", x.run(), TOO_MANY);
        TurnSlots y = new TurnSlots();
        y.save(1);
        y.step(200);
        due("of a new object", y.restore(1), 0);
        due("slot 0 comes again", y.step(1), NONE);
        due("and is that of 0", y.of(0, 13), 1);
        due("alone", y.of(1, 13), 0);
    }

    private static void restoreErrors() {
        sentence("Promise 22", "BAD_VALUE if there is no such slot for saved states; NOT_POSSIBLE if nothing was saved in it");
        TurnSlots x = new TurnSlots();
        for (int slot : new int[] {-1, 2, Integer.MIN_VALUE, Integer.MAX_VALUE}) {
            due("restore(" + slot + ")", x.restore(slot), BAD_VALUE);
        }
        due("restore(0)", x.restore(0), NOT_POSSIBLE);
        due("restore(1)", x.restore(1), NOT_POSSIBLE);
        x.save(0);
        due("restore(1) when 0 was saved", x.restore(1), NOT_POSSIBLE);
        due("restore(0)", x.restore(0), 0);
        x.undo();
        due("saved still behind undo", x.restore(0), 0);
        x.save(1);
        due("restore(1)", x.restore(1), 0);
    }

    private static void restoreOfTheSame() {
        sentence("Promise 22", "Restores what was saved last in a slot for saved states, which keeps it.");
        TurnSlots x = changeable();
        x.save(0);
        x.restore(0);
        TurnSlots want = changeable();
        want.prefer(7, 0);
        same("saved and restored at once", x, want);
        sameHistory("saved and restored at once", x, want);
    }
}
