/** Promises 14 to 16: slotsLeft, leftIf, sumBehind; none of them changes anything. */
public final class WhatIfTest {
    private static final Checks CHECKS = new Checks("WhatIfTest");

    public static void main(String[] args) {
        slotsLeft();
        aThousand();
        leftIfErrors();
        leftIf();
        leftIfOfOne();
        sumBehind();
        nothingChanges();
        CHECKS.end();
    }

    private static void due(String call, long got, long want) {
        CHECKS.due(call, got, want);
    }

    private static void slotsLeft() {
        due("14 nothing to do", new TurnSlots().slotsLeft(), 0);
        due("14 four commands", Checks.machine("3:a1,a1,a1,a1").slotsLeft(), 4);
        due("14 a sleep", Checks.machine("3:w10,a1").slotsLeft(), 11);
        due("14 a sleep at the end", Checks.machine("3:a1,w10").slotsLeft(), 2);
        due("14 stuck", Checks.machine("3:t").slotsLeft(), TurnSlots.NONE);
        due("14 stuck later", Checks.machine("3:l0,l0", "4:a1,a1").slotsLeft(), TurnSlots.NONE);
        TurnSlots x = Checks.machine("3:w10,a1", "0:a1");
        x.step(5);
        due("14 in the middle", x.slotsLeft(), 7);
        due("8 as run tells", x.run(), 7);
        due("14 behind it", x.slotsLeft(), 0);
    }

    /** It sleeps 990 slots, and then what is told. */
    private static TurnSlots sleeper(String last) {
        return Checks.machine("0:w99,w99,w99,w99,w99,w99,w99,w99,w99,w99," + last);
    }

    private static void aThousand() {
        TurnSlots x = sleeper("w10,a1");
        due("14 one more", x.slotsLeft(), TurnSlots.NONE);
        x = sleeper("w9,a1");
        due("14 exactly a thousand", x.slotsLeft(), 1000);
        due("15 exactly a thousand", x.leftIf(0, 0, 0), 1000);
        due("8 exactly a thousand", x.run(), 1000);
        due("8 and done", x.of(0, 7), 0);
        x = sleeper("w8,a1");
        due("14 one less", x.slotsLeft(), 999);
        x = sleeper("w10,a1");
        due("15 one more", x.leftIf(0, 0, 0), TurnSlots.NONE);
        due("8 not done", x.run(), 1000);
        due("8 one is left", x.run(), 1);
    }

    private static void leftIfErrors() {
        TurnSlots x = Checks.machine("3:a1");
        for (int out : new int[] {-1, 8, Integer.MIN_VALUE, Integer.MAX_VALUE}) {
            due("15 no context", x.leftIf(out, 0, 10), TurnSlots.NO_SUCH);
            due("15 no other context", x.leftIf(0, out, 10), TurnSlots.NO_SUCH);
            due("16 no context", x.sumBehind(out, 0), TurnSlots.NO_SUCH);
        }
        for (int out : new int[] {-1, 10, Integer.MIN_VALUE, Integer.MAX_VALUE}) {
            due("15 no priority", x.leftIf(0, 3, out), TurnSlots.BAD_VALUE);
        }
        for (int out : new int[] {-1, 0, 201, Integer.MIN_VALUE, Integer.MAX_VALUE}) {
            due("16 no slots", x.sumBehind(0, out), TurnSlots.BAD_VALUE);
        }
        due("15 0", x.leftIf(0, 7, 0), 0);
        due("15 9", x.leftIf(7, 0, 9), 0);
    }

    private static void leftIf() {
        TurnSlots x = Checks.machine("5:a1,a1,a1,a1", "6:a1,a1,a1,a1");
        due("15 as it is, 5", x.leftIf(5, 5, 0), 4);
        due("15 as it is, 6", x.leftIf(6, 6, 0), 8);
        due("15 6 goes first, 6", x.leftIf(6, 6, 1), 4);
        due("15 6 goes first, 5", x.leftIf(5, 6, 1), 8);
        x.prefer(6, 5);
        due("15 6 would lose it", x.leftIf(5, 6, 0), 4);
        due("15 not if it is the same", x.leftIf(5, 5, 4), 8);
        due("15 of several the first behind", x.leftIf(5, 5, 5), 4);
        TurnSlots y = Checks.machine("0:l0,a1,a1,a1,a1,f0", "1:w0,a1,a1,a1,a1,a1,a1", "2:a1,l0");
        y.prefer(1, 3);
        int without = y.leftIf(2, 2, 0);
        int with = y.leftIf(2, 2, 9);
        due("15 lent priorities make it quicker", with < without ? 1 : 0, 1);
    }

    private static void leftIfOfOne() {
        TurnSlots x = Checks.machine("0:a1", "1:w99,w99,b2,a1", "2:t");
        due("15 one of them is done soon", x.leftIf(0, 1, 9), 1);
        due("15 one is never done", x.leftIf(2, 2, 9), TurnSlots.NONE);
        due("14 so all are never done", x.slotsLeft(), TurnSlots.NONE);
        due("15 one that is done", x.leftIf(7, 2, 9), 0);
        due("15 a late one", x.leftIf(1, 0, 0) > 300 ? 1 : 0, 1);
    }

    private static void sumBehind() {
        TurnSlots x = Checks.machine("1:a5,a5,s2,w3,a7", "2:t,a1");
        int[] sums = {5, 10, 10, 10, 10, 10, 17};
        x.prefer(1, 9);
        for (int i = 0; i < sums.length; i++) {
            due("16 sum behind " + (i + 1), x.sumBehind(1, i + 1), sums[i]);
        }
        due("16 of the other", x.sumBehind(2, 1), 0);
        due("16 of the other at the end", x.sumBehind(2, 200), 11);
        due("16 at the end", x.sumBehind(1, 200), 17);
        due("16 of one without commands", x.sumBehind(7, 200), 0);
        x = Checks.machine("4:w99,w98,a1,a2,a4");
        due("16 199", x.sumBehind(4, 199), 3);
        due("16 200", x.sumBehind(4, 200), 7);
    }

    private static void nothingChanges() {
        TurnSlots x = Checks.machine("0:a1,b1,s1,l0,w5", "1:t,t,l0", "2:w9,a3,f0,s1");
        x.step(4);
        int[] before = all(x);
        x.slotsLeft();
        x.leftIf(1, 2, 9);
        x.leftIf(2, 0, 0);
        x.sumBehind(1, 50);
        x.count(7);
        int[] behind = all(x);
        for (int i = 0; i < before.length; i++) {
            due("14 to 16 change nothing, " + i, behind[i], before[i]);
        }
        due("20 undo", x.undo(), 3);
        due("20 the step alone is undone", x.count(0), 0);
    }

    private static int[] all(TurnSlots x) {
        int[] all = new int[8 * 14 + 4 + 10 + 16];
        int at = 0;
        for (int context = 0; context < 8; context++) {
            for (int what = 0; what < 14; what++) {
                all[at++] = x.of(context, what);
            }
        }
        for (int lock = 0; lock < 4; lock++) {
            all[at++] = x.holder(lock);
        }
        for (int what = 0; what < 10; what++) {
            all[at++] = x.count(what);
        }
        for (int i = 0; i < 8; i++) {
            all[at++] = x.command(0, i, 2);
            all[at++] = x.inbox(1, i);
        }
        return all;
    }
}
