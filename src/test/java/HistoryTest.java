/** Promises 20 to 22: undo, save, restore. */
public final class HistoryTest {
    private static final Checks CHECKS = new Checks("HistoryTest");

    public static void main(String[] args) {
        undoEach();
        sixStates();
        errorsRecordNothing();
        padAndSavesStay();
        wholeState();
        marks();
        saveErrors();
        saves();
        restoreIsUndone();
        CHECKS.end();
    }

    private static void due(String call, long got, long want) {
        CHECKS.due(call, got, want);
    }

    private static void undoEach() {
        TurnSlots x = new TurnSlots();
        due("20 nothing", x.undo(), TurnSlots.NOT_POSSIBLE);
        x.add(1, TurnSlots.LOCK, 2);
        due("20 one", x.count(9), 1);
        x.step(1);
        x.release(2);
        due("6 free", x.holder(2), TurnSlots.NONE);
        due("20 undo release", x.undo(), 2);
        due("20 held again", x.holder(2), 1);
        due("20 undo step", x.undo(), 1);
        due("20 free again", x.holder(2), TurnSlots.NONE);
        due("20 place again", x.of(1, 1), 0);
        due("20 slots again", x.count(0), 0);
        due("20 undo add", x.undo(), 0);
        due("20 no command", x.of(1, 0), 0);
        due("20 none left", x.undo(), TurnSlots.NOT_POSSIBLE);
        x.prefer(3, 8);
        x.post(3, 77);
        due("20 undo post", x.undo(), 1);
        due("20 inbox again", x.of(3, 5), 0);
        due("20 priority still", x.of(3, 3), 8);
        due("20 undo prefer", x.undo(), 0);
        due("20 priority again", x.of(3, 3), 0);
        Checks.give(x, "4:a1,b1,a2");
        x.run();
        due("20 undo run", x.undo(), 1);
        due("20 mark again", x.command(4, 1, 2), 0);
        due("20 sum again", x.of(4, 2), 0);
        due("20 accounts again", x.of(4, 10) + x.of(4, 11) + x.of(0, 12), 0);
        Checks.give(x, "4:");
        due("20 undo read", x.undo(), 1);
        due("20 program again", x.of(4, 0), 3);
        due("20 its command", x.command(4, 2, 1), 2);
    }

    private static void sixStates() {
        TurnSlots x = new TurnSlots();
        for (int i = 1; i <= 10; i++) {
            x.prefer(0, i % 10);
            due("20 at most six", x.count(9), Math.min(6, i));
        }
        int[] due = {9, 8, 7, 6, 5, 4};
        for (int i = 0; i < 6; i++) {
            due("20 undo", x.undo(), 5 - i);
            due("20 as before", x.of(0, 3), due[i]);
        }
        due("20 no seventh", x.undo(), TurnSlots.NOT_POSSIBLE);
        due("20 stays", x.of(0, 3), 4);
        for (int i = 0; i < 8; i++) {
            x.step(1);
            x.step(1);
            due("20 undo between", x.undo() >= 0 ? x.count(0) : -1, i + 1);
        }
        due("20 five are left", x.count(9), 5);
    }

    private static void errorsRecordNothing() {
        TurnSlots x = new TurnSlots();
        x.prefer(0, 1);
        x.add(8, 0, 0);
        x.add(0, 7, 0);
        x.read();
        x.prefer(0, 10);
        x.post(0, 1000);
        x.release(0);
        x.release(4);
        x.step(0);
        x.restore(0);
        x.restore(2);
        x.save(0);
        x.put('a');
        x.wipe();
        x.fault();
        x.slotsLeft();
        due("20 only the prefer", x.count(9), 1);
        x.run();
        due("20 a run of no slots too", x.count(9), 2);
    }

    private static void padAndSavesStay() {
        TurnSlots x = new TurnSlots();
        x.prefer(0, 1);
        Checks.write(x, "0:t");
        x.save(0);
        due("20 undo", x.undo(), 0);
        due("20 the pad stays", x.count(8), 3);
        due("20 the priority not", x.of(0, 3), 0);
        due("3 read", x.read(), 0);
        due("20 undo read", x.undo(), 0);
        due("20 the pad stays empty", x.count(8), 0);
        due("22 what was saved stays", x.restore(0), 0);
        due("22 it is back", x.of(0, 3), 1);
        Checks.write(x, "abc");
        x.restore(0);
        due("22 the pad stays", x.count(8), 3);
    }

    private static TurnSlots working() {
        TurnSlots x = Checks.machine("0:a1,b1,s1,l0,w9,a1", "1:w1,t,l0,a9", "2:a3,a4,l2,s2,s1,f2");
        x.prefer(2, 4);
        x.step(7);
        return x;
    }

    private static void wholeState() {
        int[] before = all(working());
        TurnSlots x = working();
        x.save(1);
        x.step(9);
        x.prefer(1, 9);
        x.post(2, 500);
        Checks.give(x, "0:t,t,t");
        x.add(1, TurnSlots.ADD, 3);
        for (int i = 0; i < 5; i++) {
            x.undo();
        }
        same("20", before, all(x));
        x.run();
        Checks.give(x, "2:");
        Checks.give(x, "1:t");
        x.step(200);
        due("22 restore", x.restore(1), 7);
        same("22", before, all(x));
    }

    private static void marks() {
        TurnSlots x = Checks.machine("0:a1,b1,a2");
        x.step(2);
        due("10 on", x.command(0, 1, 2), 1);
        x.save(0);
        x.step(2);
        due("10 off", x.command(0, 1, 2), 0);
        due("20 undo", x.undo(), 2);
        due("20 on again", x.command(0, 1, 2), 1);
        x.step(3);
        x.restore(0);
        due("22 on again", x.command(0, 1, 2), 1);
        due("16 and in what if", x.sumBehind(0, 9), 4);
    }

    private static void same(String promise, int[] before, int[] behind) {
        for (int i = 0; i < before.length; i++) {
            due(promise + " as it was, " + i, behind[i], before[i]);
        }
    }

    /** The three contexts of working() have six commands each at most. */
    private static int[] all(TurnSlots x) {
        int[] all = new int[8 * 14 + 3 * (4 + 18) + 4 + 8];
        int at = 0;
        for (int context = 0; context < 8; context++) {
            for (int what = 0; what < 14; what++) {
                all[at++] = x.of(context, what);
            }
            for (int place = 0; place < 4 && context < 3; place++) {
                all[at++] = x.inbox(context, place);
            }
            for (int i = 0; i < 18 && context < 3; i++) {
                all[at++] = x.command(context, i / 3, i % 3);
            }
        }
        for (int lock = 0; lock < 4; lock++) {
            all[at++] = x.holder(lock);
        }
        for (int what = 0; what < 8; what++) {
            all[at++] = x.count(what);
        }
        return all;
    }

    private static void saveErrors() {
        TurnSlots x = new TurnSlots();
        for (int slot : new int[] {-1, 2, Integer.MIN_VALUE, Integer.MAX_VALUE}) {
            due("21 no slot", x.save(slot), TurnSlots.BAD_VALUE);
            due("22 no slot", x.restore(slot), TurnSlots.BAD_VALUE);
        }
        due("22 nothing saved in 0", x.restore(0), TurnSlots.NOT_POSSIBLE);
        due("21 save in 1", x.save(1), 0);
        due("22 still nothing saved in 0", x.restore(0), TurnSlots.NOT_POSSIBLE);
        due("22 errors change nothing", x.count(9), 0);
        due("22 1", x.restore(1), 0);
        due("22 a change", x.count(9), 1);
    }

    private static void saves() {
        TurnSlots x = Checks.machine("5:a1,a1,a1,a1,a1,a1");
        x.step(2);
        int undoable = x.count(9);
        due("21 save 0", x.save(0), 2);
        due("21 no change", x.count(9), undoable);
        x.step(3);
        due("21 save 1", x.save(1), 5);
        x.step(50);
        due("22 restore 0", x.restore(0), 2);
        due("22 its sum", x.of(5, 2), 2);
        due("22 restore 1", x.restore(1), 5);
        due("22 its sum", x.of(5, 2), 5);
        x.step(1);
        due("22 restore 1 again, as it keeps it", x.restore(1), 5);
        due("22 its sum", x.of(5, 2), 5);
        x.step(20);
        due("21 overwrite", x.save(1), 25);
        x.restore(0);
        due("22 the new one", x.restore(1), 25);
        due("22 its sum", x.of(5, 2), 6);
        due("22 the other one", x.restore(0), 2);
    }

    private static void restoreIsUndone() {
        TurnSlots x = Checks.machine("5:a1,a1,a1,a1,a1,a1");
        x.save(0);
        x.step(4);
        x.restore(0);
        due("22 restored", x.of(5, 2), 0);
        due("22 a change", x.count(9), 3);
        due("20 undo restore", x.undo(), 2);
        due("20 as before", x.of(5, 2), 4);
        due("20 undo step", x.undo(), 1);
        due("20 as before it", x.of(5, 2), 0);
        x.restore(0);
        due("22 the history stays", x.count(9), 2);
    }
}
