import java.util.Random;

/** Long runs of calls drawn by fixed seeds, each answer of which is compared with the model's. */
public final class ModelTest {
    private static final int RUNS = 600;
    private static final int CALLS = 512;
    private static final String LETTERS = "RST01234567ABCDEF";

    private final Random random;
    private final SpikeTown town = new SpikeTown();
    private final Model model = new Model();
    private int calls = 0;

    private ModelTest(long seed) {
        random = new Random(seed);
    }

    public static void main(String[] args) {
        for (int run = 0; run < RUNS; run++) {
            new ModelTest(run).run(run);
        }
        Check.end();
    }

    private void run(int run) {
        while (calls < CALLS) {
            if (calls == 0 || random.nextInt(70) == 0) {
                writeText();
                same("town()", town.town(), model.town());
            }
            call(random.nextInt(100));
            if (random.nextInt(4) == 0) {
                int what = random.nextInt(9);
                same("about(" + what + ")", town.about(what), model.about(what));
            }
        }
    }

    private void same(String call, long got, long want) {
        calls++;
        Check.due("call " + calls + ", " + call, got, want);
    }

    private void writeText() {
        same("wipe()", town.wipe(), model.wipe());
        String text = random.nextInt(8) == 0 ? anyText() : townText();
        for (char letter : text.toCharArray()) {
            same("write(" + (int) letter + ")", town.write(letter), model.write(letter));
        }
        same("fault()", town.fault(), model.fault());
    }

    /** A town, now and then with a byte that is another or cut short. */
    private String townText() {
        StringBuilder text = new StringBuilder("R");
        int things = 0;
        int told = 0;
        int parts = 4 + random.nextInt(8);
        for (int i = 0; i < parts; i++) {
            if (random.nextBoolean()) {
                int slip = random.nextInt(8);
                if ((told >> slip & 1) == 0 || random.nextInt(30) == 0) {
                    told |= 1 << slip;
                    text.append('S').append(random.nextInt(3)).append(slip);
                }
            } else if (things < 6 || random.nextInt(10) == 0) {
                text.append('T').append(random.nextInt(4));
                for (int ground = 0; ground < 3; ground++) {
                    boolean byThing = things > 0 && random.nextInt(3) == 0;
                    text.append(byThing ? (char) ('A' + random.nextInt(things)) : (char) ('0' + random.nextInt(8)));
                }
                things++;
            }
        }
        if (random.nextInt(6) == 0) {
            text.setCharAt(random.nextInt(text.length()), LETTERS.charAt(random.nextInt(LETTERS.length())));
        }
        if (random.nextInt(10) == 0) {
            text.setLength(random.nextInt(text.length()));
        }
        return text.toString();
    }

    private String anyText() {
        StringBuilder text = new StringBuilder();
        int length = random.nextInt(52);
        for (int i = 0; i < length; i++) {
            text.append(random.nextInt(20) == 0 ? (char) random.nextInt(256)
                : LETTERS.charAt(random.nextInt(LETTERS.length())));
        }
        return text.toString();
    }

    /** Mostly 0 .. below - 1, now and then what is near it or far away. */
    private int number(int below) {
        switch (random.nextInt(25)) {
            case 0: return below;
            case 1: return -1;
            case 2: return random.nextInt();
            default: return random.nextInt(below);
        }
    }

    private long row(int n) {
        if (random.nextInt(12) == 0) {
            return random.nextBoolean() ? random.nextLong() : random.nextInt(1000000);
        }
        long row = 0;
        for (int i = 0; i < n; i++) {
            int what = random.nextInt(7);
            int b = what == 1 || random.nextInt(20) == 0 ? random.nextInt(8) : 0;
            int c = what == 0 ? 0 : what == 3 || what == 4 ? random.nextInt(8) : random.nextInt(3);
            row = row * 1000 + what * 100 + b * 10 + c;
        }
        return row;
    }

    private void call(int kind) {
        if (kind < 50) {
            act(kind);
        } else {
            ask(kind - 50);
        }
    }

    private void act(int kind) {
        int slip = number(8);
        int spike = number(3);
        int slot = number(2);
        if (kind < 22) {
            same("put(" + slip + ", " + spike + ")", town.put(slip, spike), model.put(slip, spike));
        } else if (kind < 26) {
            same("take(" + spike + ")", town.take(spike), model.take(spike));
        } else if (kind < 29) {
            same("tear(" + slip + ")", town.tear(slip), model.tear(slip));
        } else if (kind < 33) {
            same("forge(" + slip + ")", town.forge(slip), model.forge(slip));
        } else if (kind < 37) {
            same("night()", town.night(), model.night());
        } else if (kind < 41) {
            same("audit(" + spike + ")", town.audit(spike), model.audit(spike));
        } else if (kind < 47) {
            same("undo()", town.undo(), model.undo());
        } else if (kind < 49) {
            same("keep(" + slot + ")", town.keep(slot), model.keep(slot));
        } else {
            same("again(" + slot + ")", town.again(slot), model.again(slot));
        }
    }

    private void ask(int kind) {
        int slip = number(8);
        int spike = number(3);
        int thing = number(6);
        int what = number(5);
        boolean upper = random.nextBoolean();
        if (kind < 5) {
            same("slip(" + slip + ", " + what + ")", town.slip(slip, what), model.slip(slip, what));
        } else if (kind < 8) {
            same("spike(" + spike + ", " + what + ")", town.spike(spike, what), model.spike(spike, what));
        } else if (kind < 12) {
            same("thing(" + thing + ", " + what + ")", town.thing(thing, what), model.thing(thing, what));
        } else if (kind < 14) {
            int n = number(21);
            same("later(" + n + ")", town.later(n), model.later(n));
        } else if (kind < 17) {
            same("lasts(" + thing + ")", town.lasts(thing), model.lasts(thing));
        } else if (kind < 20) {
            same("wants(" + thing + ")", town.wants(thing), model.wants(thing));
        } else if (kind < 23) {
            same("breaks(" + thing + ")", town.breaks(thing), model.breaks(thing));
        } else if (kind < 28) {
            int n = random.nextInt(4) + 1;
            long row = row(n);
            n = random.nextInt(15) == 0 ? number(6) : n;
            same("judge(" + n + ", " + row + ")", town.judge(n, row), model.judge(n, row));
        } else if (kind < 30) {
            same("share(" + slip + ", " + upper + ")", town.share(slip, upper), model.share(slip, upper));
        } else {
            askChances(kind - 30, thing, upper);
        }
    }

    private void askChances(int kind, int thing, boolean upper) {
        int so = number(2);
        if (kind < 3) {
            same("swear(" + thing + ", " + so + ")", town.swear(thing, so), model.swear(thing, so));
        } else if (kind < 4) {
            same("unswear()", town.unswear(), model.unswear());
        } else if (kind < 7) {
            same("may(" + so + ")", town.may(so), model.may(so));
        } else if (kind < 11) {
            int other = number(6);
            same("rests(" + thing + ", " + other + ", " + so + ")",
                town.rests(thing, other, so), model.rests(thing, other, so));
        } else if (kind < 14) {
            int tenths = number(11);
            same("fires(" + thing + ", " + tenths + ", " + upper + ")",
                town.fires(thing, tenths, upper), model.fires(thing, tenths, upper));
        } else if (kind < 16) {
            long v = random.nextLong();
            same("seed(" + v + ")", town.seed(v), model.seed(v));
        } else if (kind < 18) {
            int m = number(31);
            same("years(" + m + ")", town.years(m), model.years(m));
        } else {
            int what = number(9);
            same("about(" + what + ")", town.about(what), model.about(what));
        }
    }
}
