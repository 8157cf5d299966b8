import java.util.function.ToLongFunction;

/** What all later calls show of an object: some 350 calls for four HOLDERS, which use the object up. */
final class Later {
    private final ExitFalls x;
    private final StringBuilder all = new StringBuilder();

    private Later(ExitFalls x) {
        this.x = x;
    }

    /** All but the FAULT of the latest text(). */
    static String of(ExitFalls x) {
        return new Later(x).look();
    }

    /** A call that is refused: its answer, and that an object without that call shows the same in all later calls. */
    static void refused(String call, Made made, ToLongFunction<ExitFalls> refused, long want) {
        ExitFalls one = made.object();
        ExitFalls other = made.object();
        Check.due(call, refused.applyAsLong(one), want);
        Check.due(call + ": fault", one.fault(0), other.fault(0));
        Check.due(call + ": place", one.fault(1), other.fault(1));
        alike(call, one, other);
    }

    static void alike(String call, ExitFalls one, ExitFalls other) {
        String got = of(one);
        String want = of(other);
        Check.due(call + ": later calls show " + got + " and not " + want, got.equals(want), true);
    }

    private String look() {
        for (int what = 0; what <= 5; what++) {
            add(x.about(what));
        }
        for (int h = 0; h < x.about(0); h++) {
            for (int what = 0; what <= 10; what++) {
                add(x.holder(h, what));
            }
            add(x.sale(10 + h));
            add(x.sale(100 + h));
        }
        undoAll();
        readTape();
        return all.toString();
    }

    private void undoAll() {
        boolean undone = true;
        for (int i = 0; i < 14 && undone; i++) {
            all.append("| ");
            lookAtWhatActsChange();
            undone = x.undo();
            add(undone ? 1 : 0);
        }
    }

    private void lookAtWhatActsChange() {
        for (int what = 0; what <= 3; what++) {
            add(x.sale(what));
        }
        add(x.about(4));
        add(x.about(5));
        for (int h = 0; h < x.about(0); h++) {
            add(x.holder(h, 1));
            add(x.holder(h, 3));
            add(x.mean(h));
        }
    }

    private void readTape() {
        all.append("text ");
        add(x.text());
        add(x.fault(0));
        add(x.fault(1));
        for (int h = 0; h < x.about(0); h++) {
            add(x.holder(h, 1));
        }
    }

    private void add(long answer) {
        all.append(answer).append(' ');
    }
}
