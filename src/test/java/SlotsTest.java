/** Promises 7 and 8: step and run, and with them what a slot and each command does. */
public final class SlotsTest {
    private static final Checks CHECKS = new Checks("SlotsTest");

    public static void main(String[] args) {
        stepBounds();
        stepLimit();
        stepTurns();
        slotsGivenAway();
        nextBehindGoesRound();
        sums();
        messages();
        ownInbox();
        locks();
        waits();
        backs();
        runUntilDone();
        runUntilStuck();
        runThousand();
        runLimit();
        CHECKS.end();
    }

    private static void due(String call, long got, long want) {
        CHECKS.due(call, got, want);
    }

    private static void stepBounds() {
        TurnSlots x = new TurnSlots();
        for (int slots : new int[] {0, -1, 201, Integer.MIN_VALUE, Integer.MAX_VALUE}) {
            due("7 no step " + slots, x.step(slots), TurnSlots.BAD_VALUE);
        }
        due("7 errors change nothing", x.count(9) + x.count(0), 0);
        due("7 idle", x.step(200), TurnSlots.NONE);
        due("7 slots", x.count(0), 200);
        due("7 idle slots", x.count(5), 200);
        due("7 a change", x.count(9), 1);
        due("7 one slot", x.step(1), TurnSlots.NONE);
        due("7 slots then", x.count(0), 201);
    }

    private static void stepLimit() {
        TurnSlots x = new TurnSlots();
        for (int i = 0; i < 499; i++) {
            x.step(200);
        }
        x.step(199);
        due("7 slots", x.count(0), 99999);
        due("7 two more", x.step(2), TurnSlots.TOO_MANY);
        due("7 bad before too many", x.step(201), TurnSlots.BAD_VALUE);
        due("7 the error changes nothing", x.count(0), 99999);
        due("7 one more", x.step(1), TurnSlots.NONE);
        due("7 slots at the end", x.count(0), 100000);
        due("7 none more", x.step(1), TurnSlots.TOO_MANY);
        due("7 what if goes on", x.sumBehind(0, 200), 0);
        due("7 undo", x.undo(), 5);
        due("7 one more again", x.step(1), TurnSlots.NONE);
    }

    private static void stepTurns() {
        TurnSlots x = Checks.machine("0:a1,a1", "1:a1,a1", "2:a1,a1", "3:a1,a1", "4:a1,a1", "5:a1,a1", "6:a1,a1", "7:a1,a1");
        for (int slot = 0; slot < 16; slot++) {
            due("7 next in " + slot, x.count(7), slot % 8);
            due("7 runs in " + slot, x.step(1), slot % 8);
        }
        due("7 then idle", x.step(1), TurnSlots.NONE);
        for (int context = 0; context < 8; context++) {
            due("9 own slots", x.of(context, 10), 2);
            due("9 slots of others", x.of(context, 11), 0);
            due("9 idle own slots", x.of(context, 13), context == 0 ? 1 : 0);
        }
    }

    private static void slotsGivenAway() {
        TurnSlots x = Checks.machine("2:a1,a1,a1,a1", "5:a1,a1,a1,a1", "6:a1,a1,a1,a1");
        x.prefer(5, 3);
        x.prefer(6, 3);
        due("7 the greatest, of several the first behind", x.step(1), 5);
        due("7 count given away", x.count(6), 1);
        due("7 gave it away", x.of(0, 12), 1);
        due("7 ran in it", x.of(5, 11), 1);
        due("7 again", x.step(1), 5);
        due("7 its own though lesser", x.step(1), 2);
        due("7 no slot given away", x.count(6), 2);
        due("7 slot 3", x.step(1), 5);
        due("7 slot 4", x.step(1), 5);
        due("7 slot 5: own, but done, so 6 is first", x.step(1), 6);
        due("7 slot 6: own", x.step(1), 6);
        due("7 slot 7", x.step(1), 6);
        due("7 slot 8", x.step(1), 6);
        due("7 slot 9: the least goes too", x.step(1), 2);
        due("7 own of 6", x.of(6, 10), 1);
        due("7 others' of 6", x.of(6, 11), 3);
        due("7 given by 5", x.of(5, 12), 1);
    }

    private static void nextBehindGoesRound() {
        TurnSlots x = Checks.machine("1:a1,a1,a1", "4:a1,a1,a1");
        due("7 slot 0: 1 is behind 0", x.step(1), 1);
        due("7 slots 1 to 3: 4 is behind 2 and 3", x.step(3), 4);
        due("7 slot 5: round from 7 to 0", x.step(2), 1);
        due("7 all done", x.of(1, 7), 0);
        due("7 slot 6", x.step(1), TurnSlots.NONE);
    }

    private static void sums() {
        TurnSlots x = Checks.machine("0:a99,a99,a99,a99,a99,a99,a99,a99,a99,a99,a10,a0,a99,s1", "1:t,t");
        x.step(200);
        due("7 left over by 1000", x.of(0, 2), 99);
        due("7 sent", x.of(1, 2), 99);
        TurnSlots y = Checks.machine("3:a1,t,t");
        y.post(3, 999);
        y.post(3, 998);
        y.step(2);
        due("7 999 + 1", y.of(3, 2), 0);
        y.step(1);
        due("7 0 + 998", y.of(3, 2), 998);
    }

    private static void messages() {
        TurnSlots x = Checks.machine("0:a1,s1,a1,s1,a1,s1,a1,s1,a1,s1", "1:w99,t,t,t,t,t");
        x.step(2);
        x.step(20);
        due("5 the inbox is full", x.of(1, 5), 4);
        for (int i = 0; i < 4; i++) {
            due("5 in order", x.inbox(1, i), i + 1);
        }
        due("5 no fifth", x.inbox(1, 4), TurnSlots.NO_SUCH);
        due("7 waits by a SEND", x.of(0, 7), 5);
        due("7 sum stays", x.of(0, 2), 5);
        due("7 run", x.run() > 0 ? 1 : 0, 1);
        due("7 all taken", x.of(1, 2), 15);
        due("7 the inbox is empty", x.of(1, 5), 0);
    }

    private static void ownInbox() {
        TurnSlots x = Checks.machine("6:a3,s6,s6,t,t");
        due("7 run", x.run(), 5);
        due("7 sum", x.of(6, 2), 9);
        TurnSlots y = Checks.machine("6:s6,s6,s6,s6,s6");
        due("8 stuck at its own inbox", y.run(), 4);
        due("9 waits for itself", y.of(6, 8), 64);
        due("9 in a ring", y.of(6, 9), 1);
    }

    private static void locks() {
        TurnSlots x = Checks.machine("0:l1,f2,f1,f1,l3", "1:l2,a1,a1,f2,f3", "2:l2");
        due("7 slot 0", x.step(1), 0);
        due("12 held", x.holder(1), 0);
        due("7 slot 1", x.step(1), 1);
        due("12 held by 1", x.holder(2), 1);
        due("7 slot 2: 2 waits", x.step(1), 0);
        due("7 a FREE of another's lock does nothing", x.holder(2), 1);
        due("7 but it goes on", x.of(0, 1), 2);
        due("7 slot 3", x.step(1), 0);
        due("7 freed", x.holder(1), TurnSlots.NONE);
        due("7 slot 4", x.step(1), 0);
        due("7 a FREE of a free lock does nothing", x.holder(1), TurnSlots.NONE);
        due("8 run", x.run() > 0 ? 1 : 0, 1);
        due("7 held though done", x.holder(3), 0);
        due("7 taken by 2", x.holder(2), 2);
    }

    private static void waits() {
        TurnSlots x = Checks.machine("0:w0,a1");
        due("7 WAIT 0", x.step(1), 0);
        due("7 does not sleep", x.of(0, 6), 0);
        due("7 ready", x.of(0, 7), 1);
        due("7 next slot", x.step(1), 0);
        x = Checks.machine("0:w1,a1");
        due("7 WAIT 1", x.step(1), 0);
        due("7 sleeps", x.of(0, 6), 1);
        due("7 state", x.of(0, 7), 2);
        due("7 not ready", x.count(2), 0);
        due("7 would run", x.count(7), 0);
        due("7 very next slot", x.step(1), 0);
        x = Checks.machine("0:w2,a1");
        due("7 WAIT 2", x.step(1), 0);
        due("7 one idle", x.step(1), TurnSlots.NONE);
        due("7 still 1", x.of(0, 6), 1);
        due("7 then", x.step(1), 0);
        x = Checks.machine("0:w99,a1");
        due("7 WAIT 99", x.step(99), TurnSlots.NONE);
        due("7 sleeps one more", x.of(0, 6), 1);
        due("7 slot 99", x.step(1), 0);
        due("7 done", x.of(0, 7), 0);
        x = Checks.machine("0:w9");
        due("7 done but asleep", x.step(3), TurnSlots.NONE);
        due("7 sleeps on", x.of(0, 6), 7);
        due("7 done", x.of(0, 7), 0);
    }

    private static void backs() {
        TurnSlots x = Checks.machine("0:a1,a2,a4,b2,a8");
        x.step(4);
        due("7 place", x.of(0, 1), 1);
        due("7 mark on", x.command(0, 3, 2), 1);
        x.step(2);
        due("7 place of the BACK", x.of(0, 1), 3);
        due("7 mark still on", x.command(0, 3, 2), 1);
        x.step(1);
        due("7 mark off", x.command(0, 3, 2), 0);
        due("7 behind it", x.of(0, 1), 4);
        due("8 run", x.run(), 1);
        due("7 sum", x.of(0, 2), 21);
        x = Checks.machine("0:a1,b15,a1");
        x.step(2);
        due("7 not below 0", x.of(0, 1), 0);
        x = Checks.machine("0:b1");
        x.step(1);
        due("7 a BACK at 0", x.of(0, 1), 0);
        due("7 its mark", x.command(0, 0, 2), 1);
        x.step(1);
        due("7 then behind", x.of(0, 1), 1);
        x = Checks.machine("0:a1,b1,b2,a50");
        due("8 nested", x.run(), 11);
        due("7 nested sum", x.of(0, 2), 54);
        x = Checks.machine("0:a1,a1,a1,a1,a1,a1,a1,a1,a1,a1,a1,a1,a1,a1,a1,b15");
        due("8 from the last", x.run(), 32);
        due("7 its sum", x.of(0, 2), 30);
    }

    private static void runUntilDone() {
        TurnSlots x = new TurnSlots();
        due("8 nothing to do", x.run(), 0);
        due("8 a change all the same", x.count(9), 1);
        x = Checks.machine("5:a1,w40", "1:a2");
        due("8 a last WAIT is not waited for", x.run(), 3);
        due("8 sleeps though done", x.of(5, 6), 40);
        due("8 slots", x.count(0), 3);
        due("8 again", x.run(), 0);
        x = Checks.machine("5:w40,a1");
        due("8 sleeps by that", x.run(), 41);
    }

    private static void runUntilStuck() {
        TurnSlots x = Checks.machine("0:l0,l1", "1:l1,l0", "2:a1,w30,a1");
        due("8 until the last one that can", x.run(), 34);
        due("8 stuck", x.count(4), 1);
        due("8 stuck at once", x.run(), 0);
        due("8 slots", x.count(0), 34);
        x = Checks.machine("3:w20", "4:t");
        due("8 done ones that sleep do not count", x.run(), 1);
        due("8 stuck by that", x.count(4), 1);
        due("8 sleeps", x.of(3, 6), 20);
    }

    private static void runThousand() {
        TurnSlots x = Checks.machine("0:w99,w99,w99,w99,w99,b5,w99,w99,w99,w99");
        due("8 the thousand", x.run(), 1000);
        due("8 not done", x.of(0, 7), 2);
        due("8 the rest", x.run() < 1000 ? 1 : 0, 1);
        due("8 done", x.of(0, 7), 0);
    }

    private static void runLimit() {
        TurnSlots x = new TurnSlots();
        for (int i = 0; i < 495; i++) {
            x.step(200);
        }
        Checks.give(x, "0:w99,w99,w99,w99,w99,b5,w99,w99,w99,w99");
        due("8 slots", x.count(0), 99000);
        due("8 at 99000", x.run(), 1000);
        due("8 above 99000", x.run(), TurnSlots.TOO_MANY);
        due("8 undo", x.undo() >= 0 ? 1 : 0, 1);
        due("8 one", x.step(1), 0);
        int undoable = x.count(9);
        due("8 at 99001", x.run(), TurnSlots.TOO_MANY);
        due("8 the error changes nothing", x.count(9), undoable);
        due("8 left in what if", x.slotsLeft(), TurnSlots.NONE);
    }
}
