import java.util.Map;
import java.util.TreeMap;

/** Calls of any kind with any arguments, now and then out of their range. */
final class AnyCalls {
    private final Run run;
    /** How often find gave each answer. */
    final Map<String, Integer> finds = new TreeMap<>();

    AnyCalls(Run run) {
        this.run = run;
    }

    private int within(int low, int high) {
        return run.chance(3) ? run.outside(low, high) : run.pick(low, high);
    }

    private int anySplit() {
        return run.chance(70) ? within(0, 2) : within(0, 7);
    }

    void any() {
        int kind = run.pick(0, 99);
        if (kind < 20) {
            find();
        } else if (kind < 22) {
            run.mend();
        } else {
            noneFound(kind);
        }
    }

    /** A call by which no curve is found. */
    void noneFound() {
        noneFound(run.pick(20, 99));
    }

    private void noneFound(int kind) {
        if (kind < 34) {
            deal();
        } else if (kind < 44) {
            run.put(anySplit(), within(1, 16), run.anyLong());
        } else if (kind < 56) {
            putSomeOnALine(anySplit());
        } else if (kind < 62) {
            run.lose(anySplit(), within(1, 16));
        } else if (kind < 72) {
            join();
        } else if (kind < 77) {
            run.scale(anySplit(), run.anyLong(), run.anyLong());
        } else if (kind < 82) {
            run.renew(anySplit(), run.anyLong());
        } else if (kind < 84) {
            refused();
        } else {
            read();
        }
    }

    private void deal() {
        int t = run.chance(50) ? within(0, 2) : within(0, 8);
        int n = run.chance(10) ? within(1, 16)
            : run.chance(50) ? 16 : Math.min(16, Math.max(0, Math.min(t, 9)) + run.pick(1, 16));
        run.deal(anySplit(), t, n, run.anyLong(), run.anyLong());
    }

    /** Another curve than the dealt one may then go through many of the shares. */
    private void putSomeOnALine(int s) {
        int count = run.pick(1, 7);
        long rise = run.pick(0, 2);
        for (int i = 0; i < count; i++) {
            int place = run.pick(1, 16);
            run.put(s, place, rise * place + 5);
        }
    }

    private void join() {
        int to = anySplit();
        int a = run.chance(20) ? to : anySplit();
        int b = run.chance(20) ? a : anySplit();
        run.join(to, a, b, within(0, 2));
    }

    private void find() {
        int s = anySplit();
        int most = (run.model.split(s, 2) - run.model.split(s, 0) - 1) / 2;
        int e = run.chance(70) ? Math.max(0, Math.min(7, most)) : within(0, 7);
        finds.merge(run.find(s, e), 1, Integer::sum);
    }

    /** A call that is refused in every state. */
    void refused() {
        switch (run.pick(0, 8)) {
            case 0 -> run.deal(run.noSplit(), 0, 1, run.anyLong(), run.anyLong());
            case 1 -> run.deal(run.pick(0, 7), run.outside(0, 8), run.pick(1, 16), run.anyLong(), run.anyLong());
            case 2 -> run.deal(run.pick(0, 7), run.pick(0, 8), run.outside(1, 16), run.anyLong(), run.anyLong());
            case 3 -> run.put(run.pick(0, 7), run.outside(1, 16), run.anyLong());
            case 4 -> run.lose(run.pick(0, 7), run.outside(1, 16));
            case 5 -> run.join(run.pick(0, 7), run.pick(0, 7), run.pick(0, 7), run.outside(0, 2));
            case 6 -> run.scale(run.noSplit(), run.anyLong(), run.anyLong());
            case 7 -> run.renew(run.noSplit(), run.anyLong());
            default -> run.find(run.pick(0, 7), run.outside(0, 7));
        }
    }

    /** A call that changes nothing. */
    void read() {
        switch (run.pick(0, 4)) {
            case 0 -> run.share(anySplit(), within(1, 16));
            case 1 -> run.split(anySplit(), within(0, 2));
            case 2 -> run.at(run.anyLong());
            case 3 -> run.part(within(0, 8));
            default -> run.wrong(within(1, 16));
        }
    }

    /** All that can be asked without a change. */
    void readAll() {
        for (int s = 0; s < 8; s++) {
            run.look(s);
        }
        run.lookAtFound();
    }
}
