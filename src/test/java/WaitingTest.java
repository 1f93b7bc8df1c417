/** Promises 9 to 13: of, command, inbox, holder, count; waiting, lending, rings, being stuck. */
public final class WaitingTest {
    private static final Checks CHECKS = new Checks("WaitingTest");
    private static final int[] OUT = {-1, Integer.MIN_VALUE, Integer.MAX_VALUE};

    public static void main(String[] args) {
        errors();
        states();
        waitsByLock();
        waitsByTake();
        lentByTheFirst();
        waitsBySend();
        lentAlongChains();
        lentBeforeTheSlot();
        lentDecides();
        rings();
        stuck();
        commands();
        counts();
        nextRunner();
        CHECKS.end();
    }

    private static void due(String call, long got, long want) {
        CHECKS.due(call, got, want);
    }

    private static void errors() {
        TurnSlots x = Checks.machine("0:a1,l1");
        x.post(0, 5);
        for (int out : OUT) {
            due("9 no context", x.of(out, -1), TurnSlots.NO_SUCH);
            due("9 no what", x.of(0, out), TurnSlots.BAD_VALUE);
            due("10 no context", x.command(out, 0, -1), TurnSlots.NO_SUCH);
            due("10 no place", x.command(0, out, -1), TurnSlots.NO_SUCH);
            due("10 no what", x.command(0, 0, out), TurnSlots.BAD_VALUE);
            due("11 no context", x.inbox(out, 0), TurnSlots.NO_SUCH);
            due("11 no place", x.inbox(0, out), TurnSlots.NO_SUCH);
            due("12 no lock", x.holder(out), TurnSlots.NO_SUCH);
            due("13 no what", x.count(out), TurnSlots.BAD_VALUE);
        }
        due("9 context 8", x.of(8, 14), TurnSlots.NO_SUCH);
        due("9 what 14", x.of(7, 14), TurnSlots.BAD_VALUE);
        due("10 context 8", x.command(8, 0, 0), TurnSlots.NO_SUCH);
        due("10 behind the last", x.command(0, 2, 3), TurnSlots.NO_SUCH);
        due("10 what 3", x.command(0, 1, 3), TurnSlots.BAD_VALUE);
        due("11 context 8", x.inbox(8, 0), TurnSlots.NO_SUCH);
        due("11 behind the last", x.inbox(0, 1), TurnSlots.NO_SUCH);
        due("11 the first", x.inbox(0, 0), 5);
        due("12 lock 4", x.holder(4), TurnSlots.NO_SUCH);
        due("13 what 10", x.count(10), TurnSlots.BAD_VALUE);
        due("13 asking is no change", x.count(9), 2);
    }

    private static void states() {
        TurnSlots x = Checks.machine("0:l0", "1:l0", "2:t", "3:s7,s7,s7,s7,s7", "4:w50,a1", "5:a1", "6:w50");
        int[] first = {1, 1, 4, 1, 1, 1, 1, 0};
        for (int context = 0; context < 8; context++) {
            due("9 state first of " + context, x.of(context, 7), first[context]);
        }
        due("13 ready", x.count(2), 0b1111011);
        due("13 done", x.count(1), 1);
        x.step(16);
        int[] then = {0, 3, 4, 5, 2, 0, 0, 0};
        for (int context = 0; context < 8; context++) {
            due("9 state of " + context, x.of(context, 7), then[context]);
        }
        due("13 none ready", x.count(2), 0);
        due("13 done then", x.count(1), 4);
        due("13 not stuck", x.count(4), 0);
        due("9 sleeps", x.of(4, 6) > 0 ? 1 : 0, 1);
        due("9 ready ones wait for nobody", Checks.machine("0:s1", "1:a1").of(0, 8), 0);
        due("9 sleeping ones wait for nobody", x.of(4, 8), 0);
        due("9 done ones wait for nobody", x.of(0, 8), 0);
    }

    private static void waitsByLock() {
        TurnSlots x = Checks.machine("0:l3,w50,f3", "1:l3", "2:l3");
        x.prefer(1, 4);
        x.prefer(2, 7);
        due("9 nothing lent while it is free", x.of(0, 4), 0);
        x.step(1);
        due("9 for the holder", x.of(1, 8), 1);
        due("9 for the holder too", x.of(2, 8), 1);
        due("9 lent", x.of(0, 4), 7);
        due("9 not among those that wait", x.of(1, 4), 4);
        x.step(1);
        due("9 lent to the sleeping one", x.of(0, 4), 7);
        TurnSlots y = Checks.machine("0:l3", "1:l3");
        y.prefer(1, 5);
        y.step(1);
        due("9 lent to the done one", y.of(0, 4), 5);
        due("9 own", y.of(0, 3), 0);
        due("9 its state", y.of(0, 7), 0);
        due("13 stuck by a done holder", y.count(4), 1);
        due("13 no ring", y.count(3), 0);
    }

    private static void waitsByTake() {
        TurnSlots x = Checks.machine("0:t", "1:a1,s0,a1", "2:s0", "3:s1", "4:a1,a1,a1,a1,a1,a1,a1,s0", "5:s5,s0");
        due("9 for each that has a SEND to it", x.of(0, 8), 0b110110);
        x.step(2);
        due("9 it has one now, or took it", x.of(0, 8), 0);
        TurnSlots y = Checks.machine("0:t,t", "1:s0,w50,b2,a1");
        due("9 while the SEND is ahead", y.of(0, 8), 2);
        y.step(3);
        due("9 it took the first", y.of(0, 1), 1);
        due("9 it waits for another", y.of(0, 7), 4);
        due("9 a BACK to the SEND does not count", y.of(0, 8), 0);
        due("8 but it comes", y.run() < 200 ? y.of(0, 7) : -1, 0);
        y = Checks.machine("7:t,s7", "1:s7,a1");
        due("9 not for itself", y.of(7, 8), 2);
        y.step(1);
        due("9 its inbox is not empty", y.of(7, 7), 1);
        due("9 it does not wait", y.of(7, 8), 0);
        y = Checks.machine("7:t,s7");
        due("9 nor when it alone has one", y.of(7, 8), 0);
        due("9 no ring", y.of(7, 9), 0);
        y = Checks.machine("6:t", "1:w9,a1");
        due("9 for nobody", y.of(6, 8), 0);
        y.add(1, TurnSlots.SEND, 6);
        y.step(1);
        due("9 for one that sleeps", y.of(6, 8), 2);
        due("9 a SEND at the end", y.of(1, 7), 2);
        y = Checks.machine("7:t", "0:a1,s7");
        due("9 for 0", y.of(7, 8), 1);
        Checks.give(y, "0:a1");
        due("9 not by a program that it had", y.of(7, 8), 0);
    }

    private static void lentByTheFirst() {
        TurnSlots x = Checks.machine("0:t", "6:a1,s0");
        x.prefer(0, 3);
        due("9 lent by 0", x.of(6, 4), 3);
        TurnSlots y = Checks.machine("7:t", "0:a1,s7");
        y.prefer(7, 2);
        due("9 lent to 0", y.of(0, 4), 2);
    }

    private static void waitsBySend() {
        TurnSlots x = Checks.machine("4:s5", "5:a1,a1,a1,t");
        for (int i = 0; i < 4; i++) {
            x.post(5, i);
        }
        x.prefer(4, 8);
        due("9 by a SEND", x.of(4, 7), 5);
        due("9 for whom", x.of(4, 8), 32);
        due("9 lent", x.of(5, 4), 8);
        due("9 not stuck", x.count(4), 0);
        due("8 run", x.run(), 5);
        due("9 sent", x.of(5, 5), 4);
        TurnSlots y = Checks.machine("6:a1,s6");
        for (int i = 0; i < 4; i++) {
            y.post(6, i);
        }
        y.step(1);
        due("9 for itself", y.of(6, 8), 64);
        due("9 by a SEND to itself", y.of(6, 7), 5);
        due("9 a ring of one", y.count(3), 64);
    }

    private static void lentAlongChains() {
        TurnSlots x = Checks.machine("0:l0,w99,f0", "1:l1,l0", "2:l2,l1", "3:l3,l2", "4:l3");
        x.step(5);
        x.prefer(4, 9);
        x.prefer(2, 5);
        for (int context = 0; context < 5; context++) {
            due("9 lent along the chain to " + context, x.of(context, 4), 9);
        }
        x.prefer(4, 0);
        int[] lent = {5, 5, 5, 0, 0};
        for (int context = 0; context < 5; context++) {
            due("9 lent from the middle to " + context, x.of(context, 4), lent[context]);
        }
        due("9 the next one only", x.of(4, 8), 8);
        due("13 no rings", x.count(3), 0);
        due("9 own stays", x.of(0, 3), 0);
        x.prefer(0, 7);
        due("9 the own one if greater", x.of(0, 4), 7);
        due("9 not lent the other way", x.of(1, 4), 5);
    }

    private static void lentBeforeTheSlot() {
        TurnSlots x = Checks.machine("3:l0,a1,a1,a1,a1,a1,a1", "4:a1,a1,a1,a1,a1,a1", "5:w3,l0");
        x.prefer(4, 1);
        x.prefer(5, 9);
        due("7 the greatest goes first", x.step(1), 5);
        due("7 who sleeps lends nothing", x.step(1), 4);
        due("7 nor now", x.step(1), 4);
        due("7 its own", x.step(1), 3);
        due("9 5 still sleeps? no", x.of(5, 7), 3);
        due("7 its own slot", x.step(1), 4);
        due("7 lends in a slot that is not its own", x.step(1), 3);
    }

    private static void lentDecides() {
        String[] programs = {"0:l0,a1,a1,a1,a1,a1,a1,a1,f0", "1:w0,a2,a2,a2,a2,a2,a2", "2:a1,l0,a1"};
        TurnSlots x = Checks.machine(programs);
        x.prefer(1, 5);
        x.prefer(2, 6);
        due("7 slot 0", x.step(1), 0);
        due("7 slot 1", x.step(1), 1);
        due("7 slot 2", x.step(1), 2);
        due("9 lent", x.of(0, 4), 6);
        due("7 to the one that holds up", x.step(1), 0);
        x.prefer(2, 4);
        due("7 or not", x.step(1), 1);
    }

    private static void rings() {
        TurnSlots x = Checks.machine("0:l0,l1", "1:l1,l2", "2:l2,l0", "3:l3,l0", "4:l3");
        x.step(5);
        x.step(16);
        due("13 rings", x.count(3), 7);
        for (int context = 0; context < 5; context++) {
            due("9 in a ring " + context, x.of(context, 9), context < 3 ? 1 : 0);
        }
        x.prefer(4, 8);
        for (int context = 0; context < 4; context++) {
            due("9 lent into the ring", x.of(context, 4), 8);
        }
        due("6 broken", x.release(0), 0);
        due("13 no rings then", x.count(3), 0);
        TurnSlots y = Checks.machine("5:l2,l2");
        y.run();
        due("13 a ring of one", y.count(3), 32);
        TurnSlots z = Checks.machine("1:t,s2", "2:t,s1");
        due("13 a ring of TAKEs", z.count(3), 6);
        due("13 stuck", z.count(4), 1);
        z = Checks.machine("1:t,s2", "2:t,s1", "3:w5,s1");
        due("13 a ring with a way out", z.count(3), 6);
        due("13 is not stuck", z.count(4), 0);
        due("8 run", z.run() < 1000 ? 1 : 0, 1);
        due("13 all done", z.count(1), 8);
    }

    private static void stuck() {
        TurnSlots x = new TurnSlots();
        due("13 all done is not stuck", x.count(4), 0);
        x = Checks.machine("0:t");
        due("13 one waits", x.count(4), 1);
        x.post(0, 1);
        due("13 one is ready", x.count(4), 0);
        x = Checks.machine("0:t", "1:w3,a1");
        x.step(1);
        due("13 one sleeps", x.count(4), 0);
        x = Checks.machine("0:t", "1:w3");
        x.step(1);
        due("13 a done one sleeps", x.count(4), 1);
        due("9 it sleeps", x.of(1, 6), 3);
    }

    private static void commands() {
        TurnSlots x = Checks.machine("2:a42,s6,t,l1,f2,w17,b7");
        int[] numbers = {42, 6, 0, 1, 2, 17, 7};
        for (int place = 0; place < 7; place++) {
            due("10 command", x.command(2, place, 0), place);
            due("10 its n", x.command(2, place, 1), numbers[place]);
            due("10 its mark", x.command(2, place, 2), 0);
        }
        due("9 commands", x.of(2, 0), 7);
        due("10 of another context", x.command(3, 0, 0), TurnSlots.NO_SUCH);
    }

    private static void counts() {
        TurnSlots x = Checks.machine("0:a1,a1", "4:a1");
        x.step(10);
        due("13 slots", x.count(0), 10);
        due("13 idle", x.count(5), 7);
        due("13 given away", x.count(6), 2);
        due("9 own of 0", x.of(0, 10), 1);
        due("9 in slots of others", x.of(0, 11) + x.of(4, 11), 2);
        due("9 given by 1", x.of(1, 12), 1);
        due("9 given by 2", x.of(2, 12), 1);
        due("9 idled by 0", x.of(0, 13), 1);
        due("9 idled by 3", x.of(3, 13), 1);
        due("9 idled by 4", x.of(4, 13), 1);
        Checks.write(x, "abc");
        due("13 length of the pad", x.count(8), 3);
        due("13 changes", x.count(9), 3);
        int sum = 0;
        for (int context = 0; context < 8; context++) {
            sum += x.of(context, 10) + x.of(context, 12) + x.of(context, 13);
        }
        due("9 each slot once", sum, 10);
    }

    private static void nextRunner() {
        TurnSlots x = Checks.machine("0:w2,a1", "3:t");
        due("13 next", x.count(7), 0);
        x.step(1);
        due("13 it sleeps in the next slot", x.count(7), TurnSlots.NONE);
        x.step(1);
        due("13 it wakes in the next slot", x.count(7), 0);
        due("13 though it is not ready yet", x.count(2), 0);
        due("13 nothing changes", x.of(0, 6), 1);
        due("13 no slot passes", x.count(0), 2);
        x.post(3, 9);
        due("13 of two by priority and place", x.count(7), 3);
        x.prefer(0, 1);
        due("13 of two by priority", x.count(7), 0);
    }
}
