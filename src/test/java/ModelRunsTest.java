import java.util.Random;

/** Many runs of 512 calls, drawn with fixed seeds: the class and the model answer the same. */
final class ModelRunsTest {
    private static final Checks CHECKS = new Checks();
    private static final int RUNS = 1500;

    private final Random random;
    private final KnowDisk x;
    private final Model m;
    private final String name;
    /** How likely a run takes pages away, and how likely it is to ask for what there is not. */
    private final int goes;
    private final int wild;
    private int number;

    private ModelRunsTest(int seed) {
        random = new Random(seed);
        int sectors = seed % 3 == 0 ? 56 - random.nextInt(4) : random.nextInt(200) - 100;
        x = new KnowDisk(sectors);
        m = new Model(sectors);
        name = "seed " + seed + ": ";
        goes = random.nextInt(4) == 0 ? 10 : 1;
        wild = random.nextInt(20) + 1;
    }

    public static void main(String[] args) {
        for (int seed = 1; seed <= RUNS; seed++) {
            ModelRunsTest run = new ModelRunsTest(seed);
            for (int call = 1; call <= 512; call++) {
                run.call(call + " ");
            }
            run.look("at the end: ");
        }
        CHECKS.end();
    }

    private int any(int least, int most) {
        if (random.nextInt(100) < wild) {
            int[] far = {-2, -1, least - 1, most + 1, 30, 255, Integer.MAX_VALUE, Integer.MIN_VALUE};
            return far[random.nextInt(far.length)];
        }
        return least + random.nextInt(most - least + 1);
    }

    private void call(String nth) {
        int draw = random.nextInt(100);
        if (draw < 45) {
            page(nth);
        } else if (draw < 58) {
            number += random.nextInt(3) + (random.nextInt(40) == 0 ? 70000 : 0);
            int given = random.nextInt(100) < wild ? any(0, 1000000) : number;
            CHECKS.due(name + nth + "commit(" + given + ")", x.commit(given), m.commit(given));
        } else if (draw < 65) {
            CHECKS.due(name + nth + "sync()", x.sync(), m.sync());
        } else if (draw < 68) {
            cutAndStart(nth);
        } else if (draw < 75) {
            poke(nth);
        } else if (draw < 80) {
            int what = any(0, 2);
            CHECKS.due(name + nth + "wrong(" + what + ")", x.wrong(what), m.wrong(what));
        } else if (draw < 84) {
            int given = random.nextInt(4) == 0 ? any(0, number + 1) : number;
            CHECKS.due(name + nth + "backup(" + given + ")", x.backup(given), m.backup(given));
        } else if (draw < 88) {
            int given = number - random.nextInt(12);
            CHECKS.due(name + nth + "drop(" + given + ")", x.drop(given), m.drop(given));
        } else if (draw < 96) {
            int page = any(0, 12);
            CHECKS.due(name + nth + "derived(" + page + ")", x.derived(page), m.derived(page));
        } else if (draw < 97) {
            boolean on = random.nextInt(3) == 0;
            CHECKS.due(name + nth + "full(" + on + ")", x.full(on), m.full(on));
        } else {
            look(name + nth);
        }
    }

    private void page(String nth) {
        int kind = random.nextInt(100) < wild ? any(0, 3) : random.nextInt(20) < goes ? 0 : 1 + random.nextInt(3);
        int of = random.nextInt(3) == 0 ? -1 : any(0, 12);
        long v = random.nextInt(4) == 0 ? random.nextInt(3) : random.nextLong();
        CHECKS.due(name + nth + "page(" + kind + ", " + of + ", " + v + ")", x.page(kind, of, v), m.page(kind, of, v));
    }

    private void cutAndStart(String nth) {
        int keep = any(0, 12);
        int tear = random.nextInt(3) == 0 ? any(0, 32) : 18 + random.nextInt(8);
        if (random.nextInt(3) != 0) {
            x.cut(keep, tear);
            m.cut(keep, tear);
        }
        if (random.nextInt(4) != 0) {
            int due = m.start();
            CHECKS.due(name + nth + "cut(" + keep + ", " + tear + "), start()", x.start(), due);
            number = due >= 0 ? due : number;
        }
    }

    private void poke(String nth) {
        int page = any(0, 12);
        int i = any(0, 31);
        int mask = random.nextBoolean() ? any(1, 255) : 1 << random.nextInt(8);
        int due = m.poke(page, i, mask);
        String call = "poke(" + page + ", " + i + ", " + mask + ")";
        CHECKS.due(name + nth + call, x.poke(page, i, mask), due);
        if (due >= 0 && random.nextInt(3) != 0) {
            CHECKS.due(name + nth + call + " back", x.poke(page, i, mask), m.poke(page, i, mask));
        }
    }

    private void look(String where) {
        for (int page = -1; page <= 30; page++) {
            for (int i = -1; i <= 32; i++) {
                int got;
                try {
                    got = x.at(page, i);
                } catch (ArrayIndexOutOfBoundsException e) {
                    got = 1000;
                }
                CHECKS.due(where + "at(" + page + ", " + i + ")", got, m.at(page, i));
            }
        }
    }
}
